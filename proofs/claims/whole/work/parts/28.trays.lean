/-! ===== calls on both: trays ===== -/
theorem updL_at (f : Nat → Int64) (k : Nat) (v : Int64) : vp_updL f k v k = v := if_pos rfl
theorem updL_ne (f : Nat → Int64) {k j : Nat} (v : Int64) (h : ¬ j = k) : vp_updL f k v j = f j := if_neg h
abbrev Tr : Type := (Nat → Int32) × (Nat → Nat) × (Nat → Nat → Int64)
def TrX (M : Mem) (T : Tr) : Prop := ∀ t, t < 4 → M.1 5 0 t = T.1 t ∧ M.1 6 0 t = nI (T.2.1 t) ∧ ∀ j, j < 60 → M.2 4 t j = T.2.2 t j
def TrM (M : Mem) (T : Tr) : Prop := ∀ t, t < 4 → M.1 52 0 t = T.1 t ∧ M.1 51 0 t = nI (T.2.1 t) ∧ ∀ j, j < 60 → M.2 53 0 (60 * t + j) = T.2.2 t j
def TFx (M M' : Mem) : Prop := ∀ c i, ¬ (c = 4 ∨ c = 5 ∨ c = 6) → M'.1 c i = M.1 c i ∧ M'.2 c i = M.2 c i
def TFm (M M' : Mem) : Prop := ∀ c i, ¬ (c = 51 ∨ c = 52 ∨ c = 53) → M'.1 c i = M.1 c i ∧ M'.2 c i = M.2 c i
theorem TFx.rf {M : Mem} : TFx M M := fun _ _ _ => ⟨rfl, rfl⟩
theorem TFm.rf {M : Mem} : TFm M M := fun _ _ _ => ⟨rfl, rfl⟩
theorem TFx.tr {M M1 M2 : Mem} (a : TFx M M1) (b : TFx M1 M2) : TFx M M2 := fun c i h => ⟨(b c i h).1.trans (a c i h).1, (b c i h).2.trans (a c i h).2⟩
theorem TFm.tr {M M1 M2 : Mem} (a : TFm M M1) (b : TFm M1 M2) : TFm M M2 := fun c i h => ⟨(b c i h).1.trans (a c i h).1, (b c i h).2.trans (a c i h).2⟩
theorem TFx.on {M M' : Mem} (f : TFx M M') : onX M M' := fun c i h => f c i (by omega)
theorem TFm.on {M M' : Mem} (f : TFm M M') : onM M M' := fun c i h => f c i (by omega)
theorem TFx.L {M : Mem} {i : Nat} {f : Nat → Int64} : TFx M (sL M 4 i f) := fun c j h => ⟨by rw [sL_1], sL_ne _ _ _ _ (fun z => h (Or.inl z.1))⟩
theorem TFm.L {M : Mem} {f : Nat → Int64} : TFm M (sL M 53 0 f) := fun c j h => ⟨by rw [sL_1], sL_ne _ _ _ _ (fun z => h (Or.inr (Or.inr z.1)))⟩
theorem TFx.R {M : Mem} {c : Nat} {f : Nat → Int32} (hc : c = 5 ∨ c = 6) : TFx M (sR M c 0 f) := fun a j h => ⟨sR_ne _ _ _ _ (fun z => h (by omega)), by rw [sR_2]⟩
theorem TFm.R {M : Mem} {c : Nat} {f : Nat → Int32} (hc : c = 51 ∨ c = 52) : TFm M (sR M c 0 f) := fun a j h => ⟨sR_ne _ _ _ _ (fun z => h (by omega)), by rw [sR_2]⟩
theorem RX.T {s : Sy} {M : Mem} (h : RX s M) : TrX M (sTr s) := h.2.2.2.1
theorem RM.T {s : Sy} {M : Mem} (h : RM s M) : TrM M (sTr s) := h.2.2.2.1
theorem RX.t {s : Sy} {M M' : Mem} {T : Tr} (f : TFx M M') (r : TrX M' T) (h : RX s M) : RX (setTr s T) M' := by
  obtain ⟨h1, h2, h3, -, h5, h6, h7, h8, h9⟩ := h
  have e := fun c (hc : ¬ (c = 4 ∨ c = 5 ∨ c = 6)) => f c 0 hc
  refine ⟨by rw [(e 0 (by decide)).1, (e 36 (by decide)).1]; exact h1, by rw [(e 0 (by decide)).2]; exact h2, by rw [(e 30 (by decide)).1, (e 31 (by decide)).1]; exact h3, r, h5.eq (fun c _ h => f c 0 (by omega)), ⟨by rw [(e 0 (by decide)).1]; exact h6.1, fun k a b => (h6.2 k a b).eq (fun c _ h => f c k (by omega))⟩, by rw [(e 36 (by decide)).1, (e 42 (by decide)).1]; exact h7, by rw [(e 0 (by decide)).1, (e 44 (by decide)).1]; exact h8, by rw [(e 32 (by decide)).2]; exact h9⟩
theorem RM.t {s : Sy} {M M' : Mem} {T : Tr} (f : TFm M M') (r : TrM M' T) (h : RM s M) : RM (setTr s T) M' := by
  obtain ⟨h1, h2, h3, -, h5, h6, h7, h8⟩ := h
  have e := fun c (hc : ¬ (c = 51 ∨ c = 52 ∨ c = 53)) => f c 0 hc
  refine ⟨by rw [(e 50 (by decide)).1]; exact h1, by rw [(e 50 (by decide)).2]; exact h2, by rw [(e 50 (by decide)).1, (e 54 (by decide)).1]; exact h3, r, ?_, ?_, by rw [(e 50 (by decide)).1, (e 60 (by decide)).1]; exact h7, by rw [(e 50 (by decide)).1, (e 63 (by decide)).1]; exact h8⟩
  · rw [(e 55 (by decide)).1, (e 57 (by decide)).2]; exact h5
  · rw [(e 50 (by decide)).1, (e 55 (by decide)).1, (e 57 (by decide)).2]; exact h6
theorem OKS.T {s : Sy} (o : OKS s) : ∀ t, t < 4 → (sTr s).2.1 t < 4 ∧ ((sTr s).1 t = -1 ∨ ∃ n, n ≤ 60 ∧ (sTr s).1 t = nI n) := o.2.1
theorem OKS.t {s : Sy} {T : Tr} (o : OKS s) (h : ∀ t, t < 4 → T.2.1 t < 4 ∧ (T.1 t = -1 ∨ ∃ n, n ≤ 60 ∧ T.1 t = nI n)) : OKS (setTr s T) := ⟨o.1, h, o.2.2⟩
theorem isTrayX_t {t : Nat} (h : t < 4) : f_X10_isTray (nI t) = some 1 := by
  unfold f_X10_isTray
  rw [if_neg (nI_pos (by omega)), show (4 : Int32) = nI 4 from rfl, if_pos (by rw [lt_nI (by omega) (by decide)]; exact h)]
theorem isTrayX_f {x : Int32} (h : x < 0 ∨ ¬ x < nI 4) : f_X10_isTray x = some 0 := by
  unfold f_X10_isTray
  by_cases c : x < 0
  · rw [if_pos c]
  · rw [if_neg c, show (4 : Int32) = nI 4 from rfl, if_neg (h.resolve_left c)]
/-- a place of a tray: what is wrong with it, or where it is -/
theorem place_both {s : Sy} (o : OKS s) (x y : Int32) : (∃ e : Int32, (e = 1 ∨ e = 3 ∨ e = 4) ∧ (∀ M, RX s M → f_X10_wrongPlace x y M = some e) ∧ (∀ M, RM s M → f_X11_placed x y M = some e)) ∨
    (∃ t n j, t < 4 ∧ n ≤ 60 ∧ j < n ∧ x = nI t ∧ y = nI j ∧ (sTr s).1 t = nI n ∧ (∀ M, RX s M → f_X10_wrongPlace x y M = some 0) ∧ (∀ M, RM s M → f_X11_placed x y M = some 0)) := by
  rcases arg_in x (n := 4) (by decide) with ⟨t, ht, rfl⟩ | hx
  · have ex : ∀ M, RX s M → M.1 5 0 t = (sTr s).1 t := fun M h => (h.T t ht).1
    have em : ∀ M, RM s M → M.1 52 0 t = (sTr s).1 t := fun M h => (h.T t ht).1
    rcases (o.T t ht).2 with hl | ⟨n, hn, hl⟩
    · refine Or.inl ⟨3, by decide, fun M h => ?_, fun M h => ?_⟩
      · unfold f_X10_wrongPlace f_X10_wrongTray f_X6_isMissing
        rw [isTrayX_t ht, Option.bind_some, if_neg (by decide), inb_nI_t ht (by decide), if_pos rfl, nI_clamp (by omega), ex M h, hl]
        rfl
      · unfold f_X11_placed f_X11_trayed
        rw [if_neg (nI_pos (by omega)), show (4 : Int32) = nI 4 from rfl, if_pos (by rw [lt_nI (by omega) (by decide)]; exact ht), inb_nI_t ht (by decide), if_pos rfl, nI_clamp (by omega), em M h, hl]
        rfl
    · have hn0 : ¬ nI n < 0 := nI_pos (by omega)
      have X : ∀ M, RX s M → f_X10_wrongPlace (nI t) y M = (f_X6_holds (nI t) y (1 : Int32) M).bind fun r2 => if r2 = 0 then some (4 : Int32) else some (0 : Int32) := by
        intro M h
        unfold f_X10_wrongPlace f_X10_wrongTray f_X6_isMissing
        rw [isTrayX_t ht, Option.bind_some, if_neg (by decide), inb_nI_t ht (by decide), if_pos rfl, nI_clamp (by omega), ex M h, hl, if_neg hn0, Option.bind_some, if_pos rfl, Option.bind_some, if_pos rfl]
      have Y : ∀ M, RM s M → f_X11_placed (nI t) y M = if y < 0 then some (4 : Int32) else if y < nI n then some 0 else some 4 := by
        intro M h
        unfold f_X11_placed f_X11_trayed
        rw [if_neg (nI_pos (by omega)), show (4 : Int32) = nI 4 from rfl, if_pos (by rw [lt_nI (by omega) (by decide)]; exact ht), inb_nI_t ht (by decide), if_pos rfl, nI_clamp (by omega), em M h, hl, if_neg hn0, Option.bind_some, if_neg (by decide), if_pos rfl]
      rcases arg_in y (n := n) (by omega) with ⟨j, hj, rfl⟩ | hy
      · refine Or.inr ⟨t, n, j, ht, hn, hj, rfl, rfl, hl, fun M h => ?_, fun M h => ?_⟩
        · rw [X M h]
          unfold f_X6_holds
          rw [if_neg (nI_pos (by omega)), inb_nI_t ht (by decide), if_pos rfl, nI_clamp (by omega), ex M h, hl, show (1 : Int32) = nI 1 from rfl, if_neg (by rw [lt_nI (by omega) (by decide)]; omega), if_pos rfl, sub_nI (a := n) (b := 1) (by omega), if_neg (by rw [lt_nI (by omega) (by omega)]; omega)]
          rfl
        · rw [Y M h, if_neg (nI_pos (by omega)), if_pos (by rw [lt_nI (by omega) (by omega)]; exact hj)]
      · refine Or.inl ⟨4, by decide, fun M h => ?_, fun M h => ?_⟩
        · rw [X M h]
          unfold f_X6_holds
          by_cases c : y < 0
          · rw [if_pos c]; rfl
          · rw [if_neg c, inb_nI_t ht (by decide), if_pos rfl, nI_clamp (by omega), ex M h, hl, show (1 : Int32) = nI 1 from rfl]
            by_cases c1 : n = 0
            · subst c1
              rw [if_pos (by decide)]; rfl
            · rw [if_neg (by rw [lt_nI (by omega) (by decide)]; omega), if_pos rfl, sub_nI (a := n) (b := 1) (by omega), if_pos (by
                refine big_of (n := n - 1) (by omega) ?_ c
                rw [show n - 1 + 1 = n by omega]; exact hy)]
              rfl
        · rw [Y M h]
          by_cases c : y < 0
          · rw [if_pos c]
          · rw [if_neg c, if_neg (hy.resolve_left c)]
  · refine Or.inl ⟨1, by decide, fun M h => ?_, fun M h => ?_⟩
    · unfold f_X10_wrongPlace f_X10_wrongTray
      rw [isTrayX_f hx]
      rfl
    · unfold f_X11_placed f_X11_trayed
      by_cases c : x < 0
      · rw [if_pos c]; rfl
      · rw [if_neg c, show (4 : Int32) = nI 4 from rfl, if_neg (hx.resolve_left c)]; rfl
/-- the reference's thrown and status, in one -/
def thM (M : Mem) : Mem := sR M 50 0 (upd (M.1 50 0) 1 (0 : Int32))
theorem RM.ths {s : Sy} {M : Mem} (o : OKS s) (v : Int32) (h : RM s M) : RM (setSc s 0 v) (smM (thM M) v) ∧ onM M (smM (thM M) v) := h.st o v (th_Q M)
theorem step_read {s : Sy} (o : OKS s) (x y : Int32) : Step s (f_X10_read x y) (f_X11_read x y) := by
  rcases place_both o x y with ⟨e, he, ex, em⟩ | ⟨t, n, j, ht, hn, hj, rfl, rfl, hl, ex, em⟩
  · refine step_of (-1) (setSc s 0 e) o (fun M h => ⟨stM M e, ?_, h.st o e XQ.rf⟩) (fun M h => ⟨smM (thM M) e, ?_, h.ths o e⟩)
    · unfold f_X10_read
      rw [ex M h, Option.bind_some, if_neg (by rcases he with e | e | e <;> subst e <;> decide)]
      rfl
    · have e0 : (smM (thM M) e).1 50 0 0 = e := smM_at _ _
      unfold f_X11_read
      simp only
      rw [show f_X11_placed x y (sR M 50 0 (upd (M.1 50 0) 1 (0 : Int32))) = some e from em _ (h.th o).1, Option.bind_some]
      show (if 0 < (smM (thM M) e).1 50 0 0 then _ else _) = _
      rw [if_pos (by rw [e0]; rcases he with e | e | e <;> subst e <;> decide)]
      rfl
  · refine step_of ((sTr s).2.2 t j) (setSc s 0 0) o (fun M h => ⟨stM M 0, ?_, h.st o 0 XQ.rf⟩) (fun M h => ⟨smM (thM M) 0, ?_, h.ths o 0⟩)
    · unfold f_X10_read
      rw [ex M h, Option.bind_some, if_pos rfl]
      simp only
      rw [inb_nI_t ht (by decide), if_pos rfl, inb_nI_t (show j < 60 by omega) (by decide), if_pos rfl, nI_clamp (by omega), nI_clamp (by omega), sR_2, (h.T t ht).2.2 j (by omega)]
      rfl
    · have e0 : (smM (thM M) 0).1 50 0 0 = 0 := smM_at _ _
      have e1 : (smM (thM M) 0).2 53 0 (60 * t + j) = (sTr s).2.2 t j := ((h.ths o 0).1.T t ht).2.2 j (by omega)
      unfold f_X11_read
      simp only
      rw [show f_X11_placed (nI t) (nI j) (sR M 50 0 (upd (M.1 50 0) 1 (0 : Int32))) = some 0 from em _ (h.th o).1, Option.bind_some]
      show (if 0 < (smM (thM M) 0).1 50 0 0 then _ else if inb ((60 : Int32) * nI t + nI j) 240 = true then some ((smM (thM M) 0).2 53 0 ((60 : Int32) * nI t + nI j).toNatClampNeg, smM (thM M) 0) else none) = _
      rw [if_neg (by rw [e0]; decide), show (60 : Int32) * nI t + nI j = nI (60 * t + j) from by rw [show (60 : Int32) = nI 60 from rfl, mul_nI, add_nI], inb_nI_t (by omega) (by decide), if_pos rfl, nI_clamp (by omega), e1]
/-- a long, cut as the tray of that sort holds it -/
def cutL (q : Nat) (v : Int64) : Int64 := if q = 0 then v.toInt32.toInt8.toInt32.toInt64 else if q = 1 then v.toInt32.toInt16.toInt32.toInt64 else if q = 2 then v.toInt32.toInt64 else v
theorem X11_cutL {q : Nat} (h : q < 4) (v : Int64) : f_X11_cut (nI q) v = some (cutL q v) := by
  unfold f_X11_cut
  match q, h with
  | 0, _ => rfl
  | 1, _ => rfl
  | 2, _ => rfl
  | 3, _ => rfl
theorem X6_put_sp {M : Mem} {t j q : Nat} {v : Int64} (ht : t < 4) (hj : j < 60) (hq : q < 4) (hM : M.1 6 0 t = nI q) : f_X6_put (nI t) (nI j) v M = some (sL M 4 t (vp_updL (M.2 4 t) j (cutL q v))) := by
  unfold f_X6_put
  rw [inb_nI_t ht (by decide), if_pos rfl, inb_nI_t hj (by decide), nI_clamp (by omega), nI_clamp (by omega), hM]
  match q, hq with
  | 0, _ => rfl
  | 1, _ => rfl
  | 2, _ => rfl
  | 3, _ => rfl
def putT (T : Tr) (t j : Nat) (v : Int64) : Tr := (T.1, T.2.1, fun a b => if a = t ∧ b = j then v else T.2.2 a b)
theorem TrX.put {M : Mem} {T : Tr} {t j : Nat} {v : Int64} (r : TrX M T) : TrX (sL M 4 t (vp_updL (M.2 4 t) j v)) (putT T t j v) := by
  intro a ha
  refine ⟨(r a ha).1, (r a ha).2.1, fun b hb => ?_⟩
  show _ = if a = t ∧ b = j then v else T.2.2 a b
  by_cases c : a = t
  · subst c
    rw [sL_at]
    by_cases d : b = j
    · subst d; rw [updL_at, if_pos ⟨rfl, rfl⟩]
    · rw [updL_ne _ _ d, if_neg (fun z => d z.2)]; exact (r a ha).2.2 b hb
  · rw [sL_ne _ _ _ _ (fun z => c z.2), if_neg (fun z => c z.1)]; exact (r a ha).2.2 b hb
theorem TrM.put {M : Mem} {T : Tr} {t j : Nat} {v : Int64} (ht : t < 4) (hj : j < 60) (r : TrM M T) : TrM (sL M 53 0 (vp_updL (M.2 53 0) (60 * t + j) v)) (putT T t j v) := by
  intro a ha
  refine ⟨(r a ha).1, (r a ha).2.1, fun b hb => ?_⟩
  show _ = if a = t ∧ b = j then v else T.2.2 a b
  rw [sL_at]
  by_cases c : a = t ∧ b = j
  · rw [if_pos c, c.1, c.2, updL_at]
  · rw [if_neg c, updL_ne _ _ (by omega)]; exact (r a ha).2.2 b hb
theorem step_write {s : Sy} (o : OKS s) (x y : Int32) (v : Int64) : Step s (f_X10_write x y v) (f_X11_write x y v) := by
  rcases place_both o x y with ⟨e, he, ex, em⟩ | ⟨t, n, j, ht, hn, hj, rfl, rfl, hl, ex, em⟩
  · refine step_of 0 (setSc s 0 e) o (fun M h => ⟨stM M e, ?_, h.st o e XQ.rf⟩) (fun M h => ⟨smM (thM M) e, ?_, h.ths o e⟩)
    · unfold f_X10_write
      rw [ex M h, Option.bind_some, if_neg (by rcases he with e | e | e <;> subst e <;> decide)]
      rfl
    · have e0 : (smM (thM M) e).1 50 0 0 = e := smM_at _ _
      unfold f_X11_write
      simp only
      rw [show f_X11_placed x y (sR M 50 0 (upd (M.1 50 0) 1 (0 : Int32))) = some e from em _ (h.th o).1, Option.bind_some]
      show (if 0 < (smM (thM M) e).1 50 0 0 then _ else _) = _
      rw [if_pos (by rw [e0]; rcases he with e | e | e <;> subst e <;> decide)]
      rfl
  · have ot : OKS (setTr s (putT (sTr s) t j (cutL ((sTr s).2.1 t) v))) := o.t (o.T)
    refine step_of 1 (setSc (setTr s (putT (sTr s) t j (cutL ((sTr s).2.1 t) v))) 0 0) ot (fun M h => ?_) (fun M h => ?_)
    · have a := (h.t TFx.L (h.T.put (t := t) (j := j) (v := cutL ((sTr s).2.1 t) v))).st ot 0 XQ.rf
      refine ⟨_, ?_, a.1, TFx.L.on.tr a.2⟩
      unfold f_X10_write
      rw [ex M h, Option.bind_some, if_pos rfl, X6_put_sp ht (by omega) (o.T t ht).1 (h.T t ht).2.1]
      rfl
    · have b := h.ths o 0
      have e0 : (smM (thM M) 0).1 50 0 0 = 0 := smM_at _ _
      have e1 : (smM (thM M) 0).1 51 0 t = nI ((sTr s).2.1 t) := (b.1.T t ht).2.1
      have a := b.1.t TFm.L (b.1.T.put (t := t) (j := j) (v := cutL ((sTr s).2.1 t) v) ht (by omega))
      refine ⟨_, ?_, a, b.2.tr TFm.L.on⟩
      unfold f_X11_write
      simp only
      rw [show f_X11_placed (nI t) (nI j) (sR M 50 0 (upd (M.1 50 0) 1 (0 : Int32))) = some 0 from em _ (h.th o).1, Option.bind_some]
      show (if 0 < (smM (thM M) 0).1 50 0 0 then _ else if inb (nI t) 4 = true then (f_X11_cut ((smM (thM M) 0).1 51 0 (nI t).toNatClampNeg) v).bind fun r5 => if inb ((60 : Int32) * nI t + nI j) 240 = true then some ((1 : Int32), sL (smM (thM M) 0) 53 0 (vp_updL ((smM (thM M) 0).2 53 0) ((60 : Int32) * nI t + nI j).toNatClampNeg r5)) else none else none) = _
      rw [if_neg (by rw [e0]; decide), inb_nI_t ht (by decide), if_pos rfl, nI_clamp (by omega), e1, X11_cutL (o.T t ht).1, Option.bind_some, show (60 : Int32) * nI t + nI j = nI (60 * t + j) from by rw [show (60 : Int32) = nI 60 from rfl, mul_nI, add_nI], inb_nI_t (by omega) (by decide), if_pos rfl, nI_clamp (by omega)]
/-- a tray is laid: all of its places 0 -/
def layT (T : Tr) (t q n : Nat) : Tr := (fun a => if a = t then nI n else T.1 a, fun a => if a = t then q else T.2.1 a, fun a b => if a = t ∧ b < n then 0 else T.2.2 a b)
theorem tx_loop {t n : Nat} (ht : t < 4) (hn : n ≤ 60) : ∀ (k i fu : Nat) (M : Mem) (T : Tr), i + k = n → k < fu → TrX M T →
    ∃ M', f_X6_lay_17 (nI t) (nI n) fu (nI i) M = some M' ∧ TrX M' (T.1, T.2.1, fun a b => if a = t ∧ i ≤ b ∧ b < n then 0 else T.2.2 a b) ∧ TFx M M'
  | k, i, 0, M, T, _, h, _ => by omega
  | 0, i, fu + 1, M, T, hi, _, r => by
    refine ⟨M, ?_, ?_, TFx.rf⟩
    · rw [f_X6_lay_17, if_neg (by rw [lt_nI (by omega) (by omega)]; omega)]
    · intro a ha
      refine ⟨(r a ha).1, (r a ha).2.1, fun b hb => ?_⟩
      show _ = if a = t ∧ i ≤ b ∧ b < n then 0 else T.2.2 a b
      rw [if_neg (by omega)]; exact (r a ha).2.2 b hb
  | k + 1, i, fu + 1, M, T, hi, hk, r => by
    obtain ⟨M', e1, e2, e3⟩ := tx_loop ht hn k (i + 1) fu (sL M 4 t (vp_updL (M.2 4 t) i 0)) (putT T t i 0) (by omega) (by omega) r.put
    refine ⟨M', ?_, ?_, TFx.L.tr e3⟩
    · rw [f_X6_lay_17, if_pos (by rw [lt_nI (by omega) (by omega)]; omega), inb_nI_t ht (by decide), if_pos rfl, inb_nI_t (show i < 60 by omega) (by decide), if_pos rfl, nI_clamp (by omega), nI_clamp (by omega), show nI i + (1 : Int32) = nI (i + 1) from add_nI i 1]
      exact e1
    · intro a ha
      refine ⟨(e2 a ha).1, (e2 a ha).2.1, fun b hb => ?_⟩
      rw [(e2 a ha).2.2 b hb]
      show (if a = t ∧ i + 1 ≤ b ∧ b < n then 0 else if a = t ∧ b = i then 0 else T.2.2 a b) = if a = t ∧ i ≤ b ∧ b < n then 0 else T.2.2 a b
      by_cases c : a = t ∧ i ≤ b ∧ b < n
      · rw [if_pos c]
        by_cases d : b = i
        · rw [if_neg (by omega), if_pos ⟨c.1, d⟩]
        · rw [if_pos (by omega)]
      · rw [if_neg c, if_neg (by omega), if_neg (by omega)]
theorem tm_loop {t n : Nat} (ht : t < 4) (hn : n ≤ 60) : ∀ (k i fu : Nat) (M : Mem) (T : Tr), i + k = n → k < fu → TrM M T →
    ∃ M', f_X11_tray_74 (nI t) (nI n) fu (nI i) M = some (1, M') ∧ TrM M' (T.1, T.2.1, fun a b => if a = t ∧ i ≤ b ∧ b < n then 0 else T.2.2 a b) ∧ TFm M M'
  | k, i, 0, M, T, _, h, _ => by omega
  | 0, i, fu + 1, M, T, hi, _, r => by
    refine ⟨M, ?_, ?_, TFm.rf⟩
    · rw [f_X11_tray_74, if_neg (by rw [lt_nI (by omega) (by omega)]; omega)]
    · intro a ha
      refine ⟨(r a ha).1, (r a ha).2.1, fun b hb => ?_⟩
      show _ = if a = t ∧ i ≤ b ∧ b < n then 0 else T.2.2 a b
      rw [if_neg (by omega)]; exact (r a ha).2.2 b hb
  | k + 1, i, fu + 1, M, T, hi, hk, r => by
    obtain ⟨M', e1, e2, e3⟩ := tm_loop ht hn k (i + 1) fu (sL M 53 0 (vp_updL (M.2 53 0) (60 * t + i) 0)) (putT T t i 0) (by omega) (by omega) (r.put ht (by omega))
    refine ⟨M', ?_, ?_, TFm.L.tr e3⟩
    · rw [f_X11_tray_74, if_pos (by rw [lt_nI (by omega) (by omega)]; omega), show (60 : Int32) * nI t + nI i = nI (60 * t + i) from by rw [show (60 : Int32) = nI 60 from rfl, mul_nI, add_nI], inb_nI_t (show 60 * t + i < 240 by omega) (by decide), if_pos rfl, nI_clamp (by omega), show nI i + (1 : Int32) = nI (i + 1) from add_nI i 1]
      exact e1
    · intro a ha
      refine ⟨(e2 a ha).1, (e2 a ha).2.1, fun b hb => ?_⟩
      rw [(e2 a ha).2.2 b hb]
      show (if a = t ∧ i + 1 ≤ b ∧ b < n then 0 else if a = t ∧ b = i then 0 else T.2.2 a b) = if a = t ∧ i ≤ b ∧ b < n then 0 else T.2.2 a b
      by_cases c : a = t ∧ i ≤ b ∧ b < n
      · rw [if_pos c]
        by_cases d : b = i
        · rw [if_neg (by omega), if_pos ⟨c.1, d⟩]
        · rw [if_pos (by omega)]
      · rw [if_neg c, if_neg (by omega), if_neg (by omega)]
/-- length and sort of a tray are set -/
def setT (T : Tr) (t q n : Nat) : Tr := (fun a => if a = t then nI n else T.1 a, fun a => if a = t then q else T.2.1 a, T.2.2)
theorem TrX.set {M : Mem} {T : Tr} {t q n : Nat} (r : TrX M T) : TrX (sR (sR M 5 0 (upd (M.1 5 0) t (nI n))) 6 0 (upd ((sR M 5 0 (upd (M.1 5 0) t (nI n))).1 6 0) t (nI q))) (setT T t q n) := by
  intro a ha
  refine ⟨?_, ?_, fun b hb => ?_⟩
  · rw [sR_ne _ _ _ _ (by decide), sR_at]
    show _ = if a = t then nI n else T.1 a
    by_cases c : a = t
    · subst c; rw [upd_at, if_pos rfl]
    · rw [upd_ne _ _ c, if_neg c]; exact (r a ha).1
  · rw [sR_at, sR_ne _ _ _ _ (by decide)]
    show _ = nI (if a = t then q else T.2.1 a)
    by_cases c : a = t
    · subst c; rw [upd_at, if_pos rfl]
    · rw [upd_ne _ _ c, if_neg c]; exact (r a ha).2.1
  · exact (r a ha).2.2 b hb
theorem TrM.set {M : Mem} {T : Tr} {t q n : Nat} (r : TrM M T) : TrM (sR (sR M 51 0 (upd (M.1 51 0) t (nI q))) 52 0 (upd ((sR M 51 0 (upd (M.1 51 0) t (nI q))).1 52 0) t (nI n))) (setT T t q n) := by
  intro a ha
  refine ⟨?_, ?_, fun b hb => ?_⟩
  · rw [sR_at, sR_ne _ _ _ _ (by decide)]
    show _ = if a = t then nI n else T.1 a
    by_cases c : a = t
    · subst c; rw [upd_at, if_pos rfl]
    · rw [upd_ne _ _ c, if_neg c]; exact (r a ha).1
  · rw [sR_ne _ _ _ _ (by decide), sR_at]
    show _ = nI (if a = t then q else T.2.1 a)
    by_cases c : a = t
    · subst c; rw [upd_at, if_pos rfl]
    · rw [upd_ne _ _ c, if_neg c]; exact (r a ha).2.1
  · exact (r a ha).2.2 b hb
/-- what a call that is refused leaves -/
theorem step_rf {s : Sy} (o : OKS s) (v : Int32) {fx fm : Mem → Option (Int32 × Mem)} (hx : ∀ M, RX s M → fx M = some (0, stM M v)) (hm : ∀ M, RM s M → fm M = some (0, smM (mR M) v)) : Step s fx fm :=
  step_of 0 (setSc s 0 v) o (fun M h => ⟨stM M v, hx M h, h.st o v XQ.rf⟩) (fun M h => ⟨smM (mR M) v, hm M h, h.st o v (mR_Q M)⟩)
theorem step_tray {s : Sy} (o : OKS s) (x y z : Int32) : Step s (f_X10_tray x y z) (f_X11_tray x y z) := by
  rcases arg_in x (n := 4) (by decide) with ⟨t, ht, rfl⟩ | hx
  · have t0 : ¬ nI t < 0 := nI_pos (by omega)
    have t4 : nI t < (4 : Int32) := by
      show nI t < nI 4
      rw [lt_nI (by omega) (by decide)]; exact ht
    rcases arg_in y (n := 4) (by decide) with ⟨q, hq, rfl⟩ | hy
    · have q0 : ¬ nI q < 0 := nI_pos (by omega)
      have q4 : nI q < (4 : Int32) := by
        show nI q < nI 4
        rw [lt_nI (by omega) (by decide)]; exact hq
      have q3 : ¬ (3 : Int32) < nI q := by
        show ¬ nI 3 < nI q
        rw [lt_nI (by decide) (by omega)]; omega
      rcases arg_in z (n := 61) (by decide) with ⟨n, hn, rfl⟩ | hz
      · have n0 : ¬ nI n < 0 := nI_pos (by omega)
        have n60 : ¬ (60 : Int32) < nI n := by
          show ¬ nI 60 < nI n
          rw [lt_nI (by decide) (by omega)]; omega
        have ot : OKS (setTr s ((setT (sTr s) t q n).1, (setT (sTr s) t q n).2.1, fun a b => if a = t ∧ 0 ≤ b ∧ b < n then 0 else (setT (sTr s) t q n).2.2 a b)) := o.t (by
          intro a ha
          show (if a = t then q else (sTr s).2.1 a) < 4 ∧ ((if a = t then nI n else (sTr s).1 a) = -1 ∨ ∃ m, m ≤ 60 ∧ (if a = t then nI n else (sTr s).1 a) = nI m)
          by_cases c : a = t
          · rw [if_pos c, if_pos c]; exact ⟨hq, Or.inr ⟨n, by omega, rfl⟩⟩
          · rw [if_neg c, if_neg c]; exact o.T a ha)
        refine step_of 1 (setSc (setTr s ((setT (sTr s) t q n).1, (setT (sTr s) t q n).2.1, fun a b => if a = t ∧ 0 ≤ b ∧ b < n then 0 else (setT (sTr s) t q n).2.2 a b)) 0 0) ot (fun M h => ?_) (fun M h => ?_)
        · obtain ⟨M1, e1, e2, e3⟩ := tx_loop ht (show n ≤ 60 by omega) n 0 FU _ (setT (sTr s) t q n) (by omega) (lt_FU (by omega)) (h.T.set (t := t) (q := q) (n := n))
          have f : TFx M M1 := ((TFx.R (Or.inl rfl)).tr (TFx.R (Or.inr rfl))).tr e3
          have a := (h.t f e2).st ot 0 XQ.rf
          refine ⟨_, ?_, a.1, f.on.tr a.2⟩
          unfold f_X10_tray f_X6_lay
          rw [isTrayX_t ht, Option.bind_some, if_neg (by decide), if_neg q0, if_pos q4, if_neg n60, if_neg n0, inb_nI_t ht (by decide), if_pos rfl, nI_clamp (by omega)]
          simp only [if_true]
          rw [show (0 : Int32) = nI 0 from rfl, e1]
          rfl
        · have h0 := h.s0 o MQm.rf (mR_0 M)
          obtain ⟨M1, e1, e2, e3⟩ := tm_loop ht (show n ≤ 60 by omega) n 0 FU _ (setT (sTr s) t q n) (by omega) (lt_FU (by omega)) (TrM.set (T := sTr s) (t := t) (q := q) (n := n) h0.1.T)
          have f : TFm (mR M) M1 := ((TFm.R (Or.inl rfl)).tr (TFm.R (Or.inr rfl))).tr e3
          have a := h0.1.t f e2
          refine ⟨M1, ?_, a, h0.2.tr f.on⟩
          unfold f_X11_tray
          simp only [mR_e]
          rw [if_neg t0, if_pos t4, if_neg q0, if_neg q3, if_neg n60, if_neg n0, inb_nI_t ht (by decide), if_pos rfl, nI_clamp (by omega)]
          simp only [if_true]
          exact e1
      · by_cases c : z < 0
        · have c6 : ¬ (60 : Int32) < z := by
            intro w
            have w1 := Int32.lt_iff_toInt_lt.mp w
            have w2 := neg_toInt c
            have w3 : (60 : Int32).toInt = 60 := rfl
            omega
          refine step_rf o 6 (fun M h => ?_) (fun M h => ?_)
          · unfold f_X10_tray
            rw [isTrayX_t ht, Option.bind_some, if_neg (by decide), if_neg q0, if_pos q4, if_neg c6, if_pos c]
            rfl
          · unfold f_X11_tray
            simp only [mR_e]
            rw [if_neg t0, if_pos t4, if_neg q0, if_neg q3, if_neg c6, if_pos c]
            rfl
        · have c6 : (60 : Int32) < z := big_of (n := 60) (by decide) hz c
          refine step_rf o 5 (fun M h => ?_) (fun M h => ?_)
          · unfold f_X10_tray
            rw [isTrayX_t ht, Option.bind_some, if_neg (by decide), if_neg q0, if_pos q4, if_pos c6]
            rfl
          · unfold f_X11_tray
            simp only [mR_e]
            rw [if_neg t0, if_pos t4, if_neg q0, if_neg q3, if_pos c6]
            rfl
    · refine step_rf o 1 (fun M h => ?_) (fun M h => ?_)
      · unfold f_X10_tray
        rw [isTrayX_t ht, Option.bind_some, if_neg (by decide)]
        by_cases c : y < 0
        · rw [if_pos c]; rfl
        · rw [if_neg c, if_neg (show ¬ y < (4 : Int32) from hy.resolve_left c)]; rfl
      · unfold f_X11_tray
        simp only [mR_e]
        rw [if_neg t0, if_pos t4]
        by_cases c : y < 0
        · rw [if_pos c]; rfl
        · rw [if_neg c, if_pos (show (3 : Int32) < y from big_of (n := 3) (by decide) hy c)]; rfl
  · refine step_rf o 1 (fun M h => ?_) (fun M h => ?_)
    · unfold f_X10_tray
      rw [isTrayX_f hx]
      rfl
    · unfold f_X11_tray
      simp only [mR_e]
      by_cases c : x < 0
      · rw [if_pos c]; rfl
      · rw [if_neg c, if_neg (show ¬ x < (4 : Int32) from hx.resolve_left c)]; rfl
