/-! ===== calls on both: row ===== -/
def rowW (K : Co) (L : Nat → Int64) : Nat → Nat → Nat → Nat
  | 0, _, w => w
  | k + 1, i, w => rowW K L k (i + 1) (behS K w (L i).toInt32)
theorem behS_lt {K : Co} (ok : OKC K) {w : Nat} {v : Int32} (h : w < K.1 2) : behS K w v < K.1 2 := by
  have q := ok.2.2.2.2.2.2.1 w h
  unfold behS
  by_cases c : v = 0
  · rw [if_pos c]; exact h
  · rw [if_neg c]
    by_cases d : v = 1
    · rw [if_pos d]; exact q.1
    · rw [if_neg d]; exact q.2
theorem rw_loop {M : Mem} {K : Co} {t n : Nat} {L : Nat → Int64} (ok : OKC K) (rc : RepC M 0 K) (ht : t < 4) (hn : n ≤ 60) (hL : ∀ j, j < 60 → M.2 4 t j = L j) : ∀ (k i fu w : Nat), i + k = n → k < fu → w < K.1 2 →
    f_X10_row_32 (nI t) (nI n) M fu (nI w) (nI i) = some (nI (rowW K L k i w), stM M 0)
  | k, i, 0, w, _, h, _ => by omega
  | 0, i, fu + 1, w, hi, _, _ => by
    rw [f_X10_row_32, if_neg (by rw [lt_nI (by omega) (by omega)]; omega), X10_answer_e]
    rfl
  | k + 1, i, fu + 1, w, hi, hk, hw => by
    rw [f_X10_row_32, if_pos (by rw [lt_nI (by omega) (by omega)]; omega), inb_nI_t ht (by decide), if_pos rfl, inb_nI_t (show i < 60 by omega) (by decide), if_pos rfl, nI_clamp (by omega), nI_clamp (by omega), hL i (by omega), X1_weatherBehind_sp ok rc hw, Option.bind_some, show nI i + (1 : Int32) = nI (i + 1) from add_nI i 1, rw_loop ok rc ht hn hL k (i + 1) fu _ (by omega) (by omega) (behS_lt ok hw)]
    rfl
theorem verd32 {v : Int64} (h : verdB v = true) : v.toInt32 = 0 ∨ v.toInt32 = 1 ∨ v.toInt32 = -1 := by
  have h : -1 ≤ v.toInt ∧ v.toInt ≤ 1 := of_decide_eq_true h
  have e : v.toInt = 0 ∨ v.toInt = 1 ∨ v.toInt = -1 := by omega
  rcases e with e | e | e
  · left; rw [show v = 0 from Int64.toInt_inj.mp e]; rfl
  · right; left; rw [show v = 1 from Int64.toInt_inj.mp e]; rfl
  · right; right; rw [show v = -1 from Int64.toInt_inj.mp e]; rfl
def rowG (K : Co) (L : Nat → Int64) (g : Nat → Int32) : Nat → Nat → Nat → Int32 → Int32
  | 0, _, _, a => a
  | k + 1, i, w, a => rowG K L g k (i + 1) (behS K w (L i).toInt32) (a + g w)
theorem numberOf_sp {M : Mem} {t i : Nat} {L : Nat → Int64} (ht : t < 4) (hi : i < 60) (hL : ∀ j, j < 60 → M.2 53 0 (60 * t + j) = L j) : f_X11_numberOf (nI t) (nI i) M = some (L i) := by
  unfold f_X11_numberOf
  rw [show (60 : Int32) * nI t + nI i = nI (60 * t + i) from by rw [show (60 : Int32) = nI 60 from rfl, mul_nI, add_nI], inb_nI_t (by omega) (by decide), if_pos rfl, nI_clamp (by omega), hL i (by omega)]
theorem gm_loop {K : Co} {t n : Nat} {L : Nat → Int64} {x3 : Int32} {g : Nat → Int32} (ok : OKC K) (ht : t < 4) (hn : n ≤ 60) (hv : ∀ j, j < n → verdB (L j) = true) (hg : (x3 < 0 ∧ g = fun _ => 0) ∨ (∃ q, q < K.1 3 ∧ x3 = nI q ∧ g = fun w => K.2 5 (6 * q + w))) : ∀ (k i fu w : Nat) (a : Int32) (M : Mem), i + k = n → k < fu → w < K.1 2 → RepMC (M.1 55 0) K → (∀ j, j < 60 → M.2 53 0 (60 * t + j) = L j) → M.1 50 0 33 = nI w →
    ∃ M', f_X11_growsRow_17 (nI t) (nI n) x3 fu a (nI i) M = some (rowG K L g k i w a, M') ∧ M'.1 50 0 33 = nI (rowW K L k i w) ∧ MQm M M' ∧ M'.1 50 0 0 = M.1 50 0 0
  | k, i, 0, w, a, M, _, h, _, _, _, _ => by omega
  | 0, i, fu + 1, w, a, M, hi, _, _, rc, hL, h33 => by
    refine ⟨M, ?_, h33, MQm.rf, rfl⟩
    rw [f_X11_growsRow_17, if_neg (by rw [lt_nI (by omega) (by omega)]; omega)]
    rfl
  | k + 1, i, fu + 1, w, a, M, hi, hk, hw, rc, hL, h33 => by
    obtain ⟨M', e1, e2, e3, e4⟩ := gm_loop ok ht hn hv hg k (i + 1) fu (behS K w (L i).toInt32) (a + g w) (sR M 50 0 (upd (M.1 50 0) 33 (nI (behS K w (L i).toInt32)))) (by omega) (by omega) (behS_lt ok hw) (by rw [sR_ne _ _ _ _ (by decide)]; exact rc) hL (by rw [sR_at, upd_at])
    have e42 : ∀ (kk : Int32 → Int32 → Mem → Option (Int32 × Mem)) (p0 p1 : Int32), f_X11_growsRow_42 kk (nI t) (nI n) x3 (nI i) p0 p1 M = kk (p0 + p1) (nI (i + 1)) (sR M 50 0 (upd (M.1 50 0) 33 (nI (behS K w (L i).toInt32)))) := by
      intro kk p0 p1
      unfold f_X11_growsRow_42
      rw [numberOf_sp ht (by omega) hL, Option.bind_some, h33, X11_behindOf_sp ok rc hw (verd32 (hv i (by omega))), Option.bind_some, show nI i + (1 : Int32) = nI (i + 1) from add_nI i 1]
    refine ⟨M', ?_, e2, (MQm.f (by decide)).tr e3, e4.trans (by rw [sR_at, upd_ne _ _ (by decide)])⟩
    rw [f_X11_growsRow_17, if_pos (by rw [lt_nI (by omega) (by omega)]; omega)]
    rcases hg with ⟨h1, h2⟩ | ⟨q, hq, rfl, h2⟩
    · rw [if_pos h1, e42]
      subst h2
      exact e1
    · have hq9 : K.1 3 ≤ 10 := cnt_le ok (by decide)
      rw [if_neg (nI_pos (by omega)), h33, X11_growsOn_sp ok rc hq hw, Option.bind_some, e42]
      subst h2
      exact e1
theorem growsRow_sp {M : Mem} {K : Co} {t n w : Nat} {L : Nat → Int64} {x3 : Int32} {g : Nat → Int32} (ok : OKC K) (ht : t < 4) (hn : n ≤ 60) (hv : ∀ j, j < n → verdB (L j) = true) (hg : (x3 < 0 ∧ g = fun _ => 0) ∨ (∃ q, q < K.1 3 ∧ x3 = nI q ∧ g = fun w => K.2 5 (6 * q + w))) (hw : w < K.1 2) (rc : RepMC (M.1 55 0) K) (hL : ∀ j, j < 60 → M.2 53 0 (60 * t + j) = L j) (h8 : M.1 55 0 8 = nI w) :
    ∃ M', f_X11_growsRow (nI t) (nI n) x3 M = some (rowG K L g n 0 w 0, M') ∧ M'.1 50 0 33 = nI (rowW K L n 0 w) ∧ MQm M M' ∧ M'.1 50 0 0 = M.1 50 0 0 := by
  obtain ⟨M', e1, e2, e3, e4⟩ := gm_loop ok ht hn hv hg n 0 FU w 0 (sR M 50 0 (upd (M.1 50 0) 33 (nI w))) (by omega) (lt_FU (by omega)) hw (by rw [sR_ne _ _ _ _ (by decide)]; exact rc) hL (by rw [sR_at, upd_at])
  refine ⟨M', ?_, e2, (MQm.f (by decide)).tr e3, e4.trans (by rw [sR_at, upd_ne _ _ (by decide)])⟩
  unfold f_X11_growsRow
  rw [h8]
  exact e1
theorem rgx_loop {M : Mem} {K : Co} {t n q : Nat} {L : Nat → Int64} (ok : OKC K) (rc : RepC M 0 K) (ht : t < 4) (hn : n ≤ 60) (hq : q < K.1 3) (hL : ∀ j, j < 60 → M.2 4 t j = L j) : ∀ (k i fu w : Nat) (a : Int32), i + k = n → k < fu → w < K.1 2 →
    f_X10_rowGrows_53 (nI t) (nI n) (nI q) M fu (nI w) a (nI i) = some (rowG K L (fun w => K.2 5 (6 * q + w)) k i w a, stM M 0)
  | k, i, 0, w, a, _, h, _ => by omega
  | 0, i, fu + 1, w, a, hi, _, _ => by
    rw [f_X10_rowGrows_53, if_neg (by rw [lt_nI (by omega) (by omega)]; omega), X10_answer_e]
    rfl
  | k + 1, i, fu + 1, w, a, hi, hk, hw => by
    rw [f_X10_rowGrows_53, if_pos (by rw [lt_nI (by omega) (by omega)]; omega), X1_growthOf_sp ok rc hq hw, Option.bind_some, inb_nI_t ht (by decide), if_pos rfl, inb_nI_t (show i < 60 by omega) (by decide), if_pos rfl, nI_clamp (by omega), nI_clamp (by omega), hL i (by omega), X1_weatherBehind_sp ok rc hw, Option.bind_some, show nI i + (1 : Int32) = nI (i + 1) from add_nI i 1, rgx_loop ok rc ht hn hq hL k (i + 1) fu _ _ (by omega) (by omega) (behS_lt ok hw)]
    rfl
theorem wea_at {s : Sy} {M : Mem} (h : RM s M) (c : ¬ (sWo s).1.1 2 = 0) : M.1 55 0 8 = nI ((sWo s).2.1.1 4) := by
  have q : M.1 55 0 8 = (if (sWo s).1.1 2 = 0 then -1 else nI ((sWo s).2.1.1 4)) := h.H.2.2.2.2.1
  rw [q, if_neg c]
theorem OKS.w {s : Sy} (o : OKS s) (c : ¬ (sWo s).1.1 2 = 0) : (sWo s).2.1.1 4 < (sWo s).1.1 2 := o.2.2.1.2.2.1.resolve_left c
theorem step_row {s : Sy} (o : OKS s) (x y : Int32) : Step s (f_X10_row x y) (f_X11_row x y) := by
  obtain ⟨e, ex, em, he, ha⟩ := row_both o x y
  rcases he with he | he
  · obtain ⟨t, n, ht, hn, rfl, rfl, hw, hv⟩ := ha he
    subst he
    refine step_of (nI (rowW (sWo s).1 ((sTr s).2.2 t) n 0 ((sWo s).2.1.1 4))) (setSc s 0 0) o (fun M h => ⟨stM M 0, ?_, h.st o 0 XQ.rf⟩) (fun M h => ?_)
    · unfold f_X10_row
      rw [ex M h, Option.bind_some, if_pos rfl, show M.1 20 0 6 = nI ((sWo s).2.1.1 4) from h.H.1 4 (by decide)]
      exact rw_loop o.C h.C ht hn (h.T t ht).2.2 n 0 FU _ (by omega) (lt_FU (by omega)) (o.w hw)
    · have h3 := (h.ths o 0).1
      obtain ⟨M', e1, e2, e3, e4⟩ := growsRow_sp (M := smM (thM M) 0) (x3 := -1) (g := fun _ => 0) o.C ht hn hv (Or.inl ⟨by decide, rfl⟩) (o.w hw) h3.C (h3.T t ht).2.2 (wea_at (s := setSc s 0 0) h3 hw)
      refine ⟨M', ?_, h.s0 o e3 (e4.trans (smM_at _ _))⟩
      unfold f_X11_row
      simp only
      rw [show f_X11_goesRow (nI t) (nI n) (sR M 50 0 (upd (M.1 50 0) 1 (0 : Int32))) = some 0 from em _ (h.th o).1, Option.bind_some]
      show (if 0 < (smM (thM M) 0).1 50 0 0 then _ else (f_X11_growsRow (nI t) (nI n) (-1 : Int32) (smM (thM M) 0)).bind _) = _
      rw [if_neg (by rw [smM_at]; decide), e1, Option.bind_some, e2]
  · refine step_of (-1) (setSc s 0 e) o (fun M h => ⟨stM M e, ?_, h.st o e XQ.rf⟩) (fun M h => ⟨smM (thM M) e, ?_, h.ths o e⟩)
    · unfold f_X10_row
      rw [ex M h, Option.bind_some, if_neg (by intro z; subst z; exact absurd he (by decide))]
      rfl
    · unfold f_X11_row
      simp only
      rw [show f_X11_goesRow x y (sR M 50 0 (upd (M.1 50 0) 1 (0 : Int32))) = some e from em _ (h.th o).1, Option.bind_some]
      show (if 0 < (smM (thM M) e).1 50 0 0 then _ else _) = _
      rw [if_pos (by rw [smM_at]; exact he)]
      rfl
theorem step_rowGrows {s : Sy} (o : OKS s) (x y z : Int32) : Step s (f_X10_rowGrows x y z) (f_X11_rowGrows x y z) := by
  have hc : (sWo s).1.1 3 ≤ 10 := cnt_le o.C (by decide)
  obtain ⟨e, ex, em, he, ha⟩ := row_both o x y
  rcases he with he | he
  · obtain ⟨t, n, ht, hn, rfl, rfl, hw, hv⟩ := ha he
    subst he
    rcases arg_in z (n := (sWo s).1.1 3) (by omega) with ⟨q, hq, rfl⟩ | hz
    · refine step_of (rowG (sWo s).1 ((sTr s).2.2 t) (fun w => (sWo s).1.2 5 (6 * q + w)) n 0 ((sWo s).2.1.1 4) 0) (setSc s 0 0) o (fun M h => ⟨stM M 0, ?_, h.st o 0 XQ.rf⟩) (fun M h => ?_)
      · unfold f_X10_rowGrows
        rw [ex M h, Option.bind_some, if_pos rfl, show f_X10_isNo (3 : Int32) (nI q) M = some 0 from isNo_t (q := 3) h o (by decide) hq, Option.bind_some, if_pos rfl, show M.1 20 0 6 = nI ((sWo s).2.1.1 4) from h.H.1 4 (by decide)]
        exact rgx_loop o.C h.C ht hn hq (h.T t ht).2.2 n 0 FU _ _ (by omega) (lt_FU (by omega)) (o.w hw)
      · have h3 := (h.ths o 0).1
        obtain ⟨M', e1, e2, e3, e4⟩ := growsRow_sp (M := smM (thM M) 0) (x3 := nI q) (g := fun w => (sWo s).1.2 5 (6 * q + w)) o.C ht hn hv (Or.inr ⟨q, hq, rfl, rfl⟩) (o.w hw) h3.C (h3.T t ht).2.2 (wea_at (s := setSc s 0 0) h3 hw)
        refine ⟨M', ?_, h.s0 o e3 (e4.trans (smM_at _ _))⟩
        unfold f_X11_rowGrows
        simp only
        rw [show f_X11_goesRow (nI t) (nI n) (sR M 50 0 (upd (M.1 50 0) 1 (0 : Int32))) = some 0 from em _ (h.th o).1, Option.bind_some]
        show (if 0 < (smM (thM M) 0).1 50 0 0 then _ else (f_X11_isCropAt (nI q) (smM (thM M) 0)).bind _) = _
        rw [if_neg (by rw [smM_at]; decide), isCrop_t o.C h3.C hq, Option.bind_some, if_neg (by decide)]
        show (f_X11_growsRow (nI t) (nI n) (nI q) (smM (thM M) 0)).bind _ = _
        rw [e1]
        rfl
    · refine step_of (-1) (setSc s 0 2) o (fun M h => ⟨stM M 2, ?_, h.st o 2 XQ.rf⟩) (fun M h => ?_)
      · unfold f_X10_rowGrows
        rw [ex M h, Option.bind_some, if_pos rfl, show f_X10_isNo (3 : Int32) z M = some 1 from isNo_f (q := 3) h (by decide) hz]
        rfl
      · have h3 := (h.ths o 0).1
        refine ⟨smM (smM (thM M) 0) 2, ?_, h.st o 2 ((th_Q M).tr (smM_Q _ _))⟩
        unfold f_X11_rowGrows
        simp only
        rw [show f_X11_goesRow (nI t) (nI n) (sR M 50 0 (upd (M.1 50 0) 1 (0 : Int32))) = some 0 from em _ (h.th o).1, Option.bind_some]
        show (if 0 < (smM (thM M) 0).1 50 0 0 then _ else (f_X11_isCropAt z (smM (thM M) 0)).bind _) = _
        rw [if_neg (by rw [smM_at]; decide), isCrop_f o.C h3.C hz, Option.bind_some, if_pos rfl]
        rfl
  · refine step_of (-1) (setSc s 0 e) o (fun M h => ⟨stM M e, ?_, h.st o e XQ.rf⟩) (fun M h => ⟨smM (thM M) e, ?_, h.ths o e⟩)
    · unfold f_X10_rowGrows
      rw [ex M h, Option.bind_some, if_neg (by intro z; subst z; exact absurd he (by decide))]
      rfl
    · unfold f_X11_rowGrows
      simp only
      rw [show f_X11_goesRow x y (sR M 50 0 (upd (M.1 50 0) 1 (0 : Int32))) = some e from em _ (h.th o).1, Option.bind_some]
      show (if 0 < (smM (thM M) e).1 50 0 0 then _ else _) = _
      rw [if_pos (by rw [smM_at]; exact he)]
      rfl
