/-! ===== calls on both: bribe, pull, nearest, lacks ===== -/
theorem isNoSide_t {v : Int32} (h : v = 1 ∨ v = -1) : f_X10_isNoSide v = some 0 := by
  rcases h with rfl | rfl <;> rfl
theorem isNoSide_f {v : Int32} (h : ¬ (v = 1 ∨ v = -1)) : f_X10_isNoSide v = some 1 := by
  unfold f_X10_isNoSide
  rw [if_neg (fun z => h (Or.inl z)), if_neg (fun z => h (Or.inr z))]
theorem step_bribe {s : Sy} (o : OKS s) (x v : Int32) : Step s (f_X10_bribe x v) (f_X11_bribe x v) := by
  have b := hall_bounds o
  rcases arg_in x (n := (sWo s).1.1 0) (by omega) with ⟨i, hi, rfl⟩ | hx
  · by_cases hv : v = 1 ∨ v = -1
    · have mb : ∀ M, RM s M → f_X11_bribe (nI i) v M = f_X11_bribe_40 (nI i) v (mR M) := by
        intro M h
        unfold f_X11_bribe
        simp only [mR_e]
        rw [isJur_t o.C (h.r o).C hi, Option.bind_some, if_neg (by decide)]
        rcases hv with rfl | rfl
        · rw [if_pos rfl]
        · rw [if_neg (by decide), if_pos rfl]
      have xb : ∀ M, RX s M → f_X10_bribe (nI i) v M = ((some (if (9999 : Int32) < nI ((sWo s).2.1.1 5) + (sWo s).1.2 2 i then (0 : Int32) else 1)).bind fun r3 => if r3 = 0 then (f_X10_none 7 M).bind fun q8 => some (q8.1, q8.2) else (some (if ((sWo s).2.1.1 0).testBit i then (1 : Int32) else 0)).bind fun r4 => if r4 = 0 then (f_X10_none 9 M).bind fun q7 => some (q7.1, q7.2) else (f_X3_buy 0 0 (nI i) v M).bind fun M5 => (f_X10_answer (M5.1 20 0 7) M5).bind fun q6 => some (q6.1, q6.2)) := by
        intro M h
        unfold f_X10_bribe
        rw [show f_X10_isNo (0 : Int32) (nI i) M = some 0 from isNo_t (q := 0) h o (by decide) hi, Option.bind_some, if_pos rfl, isNoSide_t hv, Option.bind_some, if_pos rfl, X3_canPay_sp o.C h.C h.H hi, X3_isSeated_sp (h.H.1 0 (by decide)) b.2.1 (by omega)]
      by_cases c7 : (9999 : Int32) < nI ((sWo s).2.1.1 5) + (sWo s).1.2 2 i
      · refine step_of (-1) (setSc s 0 7) o (fun M h => ⟨stM M 7, ?_, h.st o 7 XQ.rf⟩) (fun M h => ⟨smM (mR M) 7, ?_, h.st o 7 (mR_Q M)⟩)
        · rw [xb M h, if_pos c7]
          rfl
        · rw [mb M h]
          rcases X11_bribesOne_sp o.C (h.r o).C (h.r o).H o.H hi hv with ⟨-, e⟩ | ⟨c, -⟩ | ⟨c, -⟩
          · unfold f_X11_bribe_40; rw [e]; rfl
          · exact absurd c7 c
          · exact absurd c7 c
      · cases hb : (sWo s).2.1.1 0 |>.testBit i with
        | false =>
          refine step_of (-1) (setSc s 0 9) o (fun M h => ⟨stM M 9, ?_, h.st o 9 XQ.rf⟩) (fun M h => ⟨smM (mR M) 9, ?_, h.st o 9 (mR_Q M)⟩)
          · rw [xb M h, if_neg c7, hb]
            rfl
          · rw [mb M h]
            rcases X11_bribesOne_sp o.C (h.r o).C (h.r o).H o.H hi hv with ⟨c, -⟩ | ⟨-, -, e⟩ | ⟨-, c, -⟩
            · exact absurd c c7
            · unfold f_X11_bribe_40; rw [e]; rfl
            · have c : ((sWo s).2.1.1 0).testBit i = true := c
              rw [hb] at c; cases c
        | true =>
          obtain ⟨p1, p2⟩ := price_nat o.C hi
          have hc : (sWo s).2.1.1 5 + ((sWo s).1.2 2 i).toNatClampNeg ≤ 9999 := by
            have c8 : ¬ (nI 9999 < nI ((sWo s).2.1.1 5 + ((sWo s).1.2 2 i).toNatClampNeg)) := by
              rw [← add_nI, ← p1]; exact c7
            rw [lt_nI (by decide) (by omega)] at c8
            omega
          have hin : inR (-99) 99 (v * 99) := by rcases hv with rfl | rfl <;> exact ⟨by decide, by decide⟩
          have e : ∀ j, (buyS (sWo s).1 i (v * 99) (sWo s).2.1).1 j = if j = 5 then (sWo s).2.1.1 5 + ((sWo s).1.2 2 i).toNatClampNeg else (sWo s).2.1.1 j := fun j => rfl
          refine step_of (nI ((sWo s).2.1.1 5 + ((sWo s).1.2 2 i).toNatClampNeg)) (setSc (setHa s (buyS (sWo s).1 i (v * 99) (sWo s).2.1)) 0 0) ?_ (fun M h => ?_) (fun M h => ?_)
          · refine o.ha ⟨b.1, o.H.2.1, fun j hj => ?_, inL_upd o.H.toL hin⟩ o.2.2.1.2.2.1 o.2.2.1.2.2.2.1 b.2.2.1 b.2.2.2.1 hc
            rw [e]
            by_cases c : j = 5
            · rw [if_pos c]; omega
            · rw [if_neg c]; exact o.H.2.2.1 j hj
          · obtain ⟨M1, e1, e2, e3⟩ := X3_buy_sp (side := v) o.C h.C h.H hi
            refine ⟨stM M1 0, ?_, h.hst o 0 e3 e2⟩
            rw [xb M h, if_neg c7, hb]
            show ((f_X3_buy 0 0 (nI i) v M).bind _) = _
            rw [e1, Option.bind_some, show M1.1 20 0 7 = nI ((sWo s).2.1.1 5 + ((sWo s).1.2 2 i).toNatClampNeg) from e2.1 5 (by decide)]
            rfl
          · rcases X11_bribesOne_sp o.C (h.r o).C (h.r o).H o.H hi hv with ⟨c, -⟩ | ⟨-, c, -⟩ | ⟨-, -, M1, e1, e2, e3⟩
            · exact absurd c c7
            · have c : ((sWo s).2.1.1 0).testBit i = false := c
              rw [hb] at c; cases c
            · refine ⟨M1, ?_, h.hst o e3 e2⟩
              rw [mb M h]
              unfold f_X11_bribe_40
              rw [e1, Option.bind_some]
              refine (if_neg (show ¬ (0 : Int32) < 0 by decide)).trans ?_
              show some (M1.1 55 0 9, M1) = _
              rw [e2.2.2.2.2.2.1]
              rfl
    · refine step_of (-1) (setSc s 0 5) o (fun M h => ⟨stM M 5, ?_, h.st o 5 XQ.rf⟩) (fun M h => ⟨smM (mR M) 5, ?_, h.st o 5 (mR_Q M)⟩)
      · unfold f_X10_bribe
        rw [show f_X10_isNo (0 : Int32) (nI i) M = some 0 from isNo_t (q := 0) h o (by decide) hi, Option.bind_some, if_pos rfl, isNoSide_f hv]
        rfl
      · unfold f_X11_bribe
        simp only [mR_e]
        rw [isJur_t o.C (h.r o).C hi, Option.bind_some, if_neg (by decide), if_neg (fun z => hv (Or.inl z)), if_neg (fun z => hv (Or.inr z))]
        rfl
  · refine step_of (-1) (setSc s 0 2) o (fun M h => ⟨stM M 2, ?_, h.st o 2 XQ.rf⟩) (fun M h => ⟨smM (mR M) 2, ?_, h.st o 2 (mR_Q M)⟩)
    · unfold f_X10_bribe
      rw [show f_X10_isNo (0 : Int32) x M = some 1 from isNo_f (q := 0) h (by decide) hx]
      rfl
    · unfold f_X11_bribe
      simp only [mR_e]
      rw [isJur_f o.C (h.r o).C hx]
      rfl
theorem step_pull {s : Sy} (o : OKS s) (x : Int32) : Step s (f_X10_pull x) (f_X11_pull x) := by
  have b := hall_bounds o
  rcases arg_in x (n := (sWo s).1.1 0) (by omega) with ⟨i, hi, rfl⟩ | hx
  · cases hb : (sWo s).2.1.1 0 |>.testBit i with
    | false =>
      refine step_of (-1) (setSc s 0 9) o (fun M h => ⟨stM M 9, ?_, h.st o 9 XQ.rf⟩) (fun M h => ⟨smM (mR M) 9, ?_, h.st o 9 (mR_Q M)⟩)
      · unfold f_X10_pull
        rw [show f_X10_isNo (0 : Int32) (nI i) M = some 0 from isNo_t (q := 0) h o (by decide) hi, Option.bind_some, if_pos rfl, X3_isSeated_sp (h.H.1 0 (by decide)) b.2.1 (by omega), hb]
        rfl
      · unfold f_X11_pull
        simp only [mR_e]
        rw [isJur_t o.C (h.r o).C hi, Option.bind_some, if_neg (by decide), X11_isSeated_sp (h.r o).H.1 b.2.1 (by omega)]
        show ((some (if ((sWo s).2.1.1 0).testBit i = true then (1 : Int32) else 0)).bind _) = _
        rw [hb]
        rfl
    | true =>
      refine step_of (cutS ((sWo s).2.1.2.1 i + pullS (sWo s).1 ((sWo s).2.1.1 0) (sWo s).2.1.2.1 i) - (sWo s).2.1.2.1 i) (setSc s 0 0) o (fun M h => ?_) (fun M h => ⟨mR M, ?_, h.s0 o MQm.rf (mR_0 M)⟩)
      · obtain ⟨M1, e1, e2, e3⟩ := X3_copyFrom_sp (h := 4) (i := 0) (by decide) h.H
        have e4 := X3_pullOn_sp (h.C.fr e3) e2 o.H hi
        have e5 := X3_shift_sp (M := M1) (h := 4) (by_ := pullS (sWo s).1 ((sWo s).2.1.1 0) (sWo s).2.1.2.1 i) (show i < 10 by omega)
        rw [e2.2.1 i (by omega)] at e5
        refine ⟨stM (putL M1 4 i (cutS ((sWo s).2.1.2.1 i + pullS (sWo s).1 ((sWo s).2.1.1 0) (sWo s).2.1.2.1 i))) 0, ?_, h.st o 0 (XQ.hall (h := 4) (by decide) (e3.tr putL_F))⟩
        unfold f_X10_pull
        rw [show f_X10_isNo (0 : Int32) (nI i) M = some 0 from isNo_t (q := 0) h o (by decide) hi, Option.bind_some, if_pos rfl, X3_isSeated_sp (h.H.1 0 (by decide)) b.2.1 (by omega), hb, Option.bind_some, if_neg (by decide), e1, Option.bind_some, e4, Option.bind_some, e5, Option.bind_some, inb_nI_t (show i < 10 by omega) (by decide), if_pos rfl, if_pos rfl, nI_clamp (by omega)]
        have h0 : RepH (putL M1 4 i (cutS ((sWo s).2.1.2.1 i + pullS (sWo s).1 ((sWo s).2.1.1 0) (sWo s).2.1.2.1 i))) 0 (sWo s).2.1 := h.H.fr (e3.tr putL_F) (by decide)
        simp only
        rw [h0.2.1 i (by omega), show (putL M1 4 i (cutS ((sWo s).2.1.2.1 i + pullS (sWo s).1 ((sWo s).2.1.1 0) (sWo s).2.1.2.1 i))).1 21 4 i = cutS ((sWo s).2.1.2.1 i + pullS (sWo s).1 ((sWo s).2.1.1 0) (sWo s).2.1.2.1 i) from by unfold putL; rw [sR_at, upd_at]]
        rfl
      · unfold f_X11_pull
        simp only [mR_e]
        rw [isJur_t o.C (h.r o).C hi, Option.bind_some, if_neg (by decide), X11_isSeated_sp (h.r o).H.1 b.2.1 (by omega)]
        show ((some (if ((sWo s).2.1.1 0).testBit i = true then (1 : Int32) else 0)).bind _) = _
        rw [hb, Option.bind_some, if_neg (by decide), X11_pulled_sp o.C (h.r o).C (h.r o).H o.H hi, Option.bind_some, show (42 : Int32) + nI i = nI (42 + i) from add_nI 42 i, inb_nI_t (show 42 + i < 2375 by omega) (by decide), if_pos rfl, nI_clamp (by omega), show (mR M).1 55 0 (42 + i) = (sWo s).2.1.2.1 i from (h.r o).H.2.2.2.2.2.2.1 i hi]
        rfl
  · refine step_of (-1) (setSc s 0 2) o (fun M h => ⟨stM M 2, ?_, h.st o 2 XQ.rf⟩) (fun M h => ⟨smM (mR M) 2, ?_, h.st o 2 (mR_Q M)⟩)
    · unfold f_X10_pull
      rw [show f_X10_isNo (0 : Int32) x M = some 1 from isNo_f (q := 0) h (by decide) hx]
      rfl
    · unfold f_X11_pull
      simp only [mR_e]
      rw [isJur_f o.C (h.r o).C hx]
      rfl
def farS (l : Nat → Int32) (j : Nat) : Int32 := if 0 < l j then l j else 1 - l j
def nearF (S : Nat) (l : Nat → Int32) (x : Option Nat) (i : Nat) : Option Nat := if S.testBit i then (match x with
  | none => some i
  | some b => if farS l i < farS l b then some i else some b) else x
def enN (x : Option Nat) : Int32 := match x with
  | none => -1
  | some b => nI b
def enF (l : Nat → Int32) (x : Option Nat) : Int32 := match x with
  | none => 0
  | some b => farS l b
def nearS (J S : Nat) (l : Nat → Int32) : Option Nat := foldJ (nearF S l) J 0 none
theorem nx_loop {M : Mem} {J S : Nat} {l : Nat → Int32} (hJ : J ≤ 10) (hJ0 : M.1 9 0 0 = nI J) (hS : M.1 20 0 2 = nI S) (h1 : S < 1024) (hl : ∀ j, j < 10 → M.1 21 0 j = l j) : ∀ (k i n : Nat) (x : Option Nat), i + k = J → k < n → (∀ b, x = some b → b < 10) →
    ∃ n' , f_X10_nearest_6 M n (enN x) (enF l x) (nI i) = f_X10_nearest_6 M (n' + 1) (enN (foldJ (nearF S l) k i x)) (enF l (foldJ (nearF S l) k i x)) (nI J) ∧ ∀ b, foldJ (nearF S l) k i x = some b → b < 10
  | k, i, 0, x, _, hn, _ => by omega
  | 0, i, n + 1, x, hi, _, hx => by
    have e : i = J := by omega
    subst e
    exact ⟨n, rfl, hx⟩
  | k + 1, i, n + 1, x, hi, hn, hx => by
    rw [f_X10_nearest_6, hJ0, if_pos (by rw [lt_nI (by omega) (by omega)]; omega), X3_isSeated_sp hS h1 (by omega), Option.bind_some, show nI i + (1 : Int32) = nI (i + 1) from add_nI i 1]
    have e : foldJ (nearF S l) (k + 1) i x = foldJ (nearF S l) k (i + 1) (nearF S l x i) := rfl
    rw [e]
    have ih := nx_loop hJ hJ0 hS h1 hl k (i + 1) n
    unfold nearF
    cases hb : S.testBit i with
    | false =>
      rw [ifb_f]
      exact ih x (by omega) (by omega) hx
    | true =>
      rw [ifb_t, inb_nI_t (show i < 10 by omega) (by decide), if_pos rfl, nI_clamp (by omega), hl i (by omega)]
      have e2 : (if 0 < l i then f_X10_nearest_64 (fun x1_7 x2_7 x3_7 => f_X10_nearest_6 M n x1_7 x2_7 x3_7) (enN x) (enF l x) (nI i) (l i) M else f_X10_nearest_64 (fun x1_6 x2_6 x3_6 => f_X10_nearest_6 M n x1_6 x2_6 x3_6) (enN x) (enF l x) (nI i) ((1 : Int32) - l i) M) = f_X10_nearest_64 (fun x1_7 x2_7 x3_7 => f_X10_nearest_6 M n x1_7 x2_7 x3_7) (enN x) (enF l x) (nI i) (farS l i) M := by
        unfold farS
        by_cases c : 0 < l i
        · rw [if_pos c, if_pos c]
        · rw [if_neg c, if_neg c]
      show ∃ n', (if 0 < l i then f_X10_nearest_64 (fun x1_7 x2_7 x3_7 => f_X10_nearest_6 M n x1_7 x2_7 x3_7) (enN x) (enF l x) (nI i) (l i) M else f_X10_nearest_64 (fun x1_6 x2_6 x3_6 => f_X10_nearest_6 M n x1_6 x2_6 x3_6) (enN x) (enF l x) (nI i) ((1 : Int32) - l i) M) = _ ∧ _
      rw [e2]
      unfold f_X10_nearest_64
      rw [show nI i + (1 : Int32) = nI (i + 1) from add_nI i 1]
      cases x with
      | none =>
        rw [if_pos rfl]
        exact ih (some i) (by omega) (by omega) (fun b hb => by cases hb; omega)
      | some b =>
        have hb9 := hx b rfl
        rw [if_neg (by show ¬ nI b = -1; have : ∀ b, b < 10 → ¬ nI b = -1 := by decide +kernel
                       exact this b hb9)]
        show ∃ n', (if farS l i < farS l b then f_X10_nearest_6 M n (nI i) (farS l i) (nI (i + 1)) else f_X10_nearest_6 M n (nI b) (farS l b) (nI (i + 1))) = _ ∧ _
        by_cases c : farS l i < farS l b
        · rw [if_pos c]
          simp only [if_true, if_pos c]
          exact ih (some i) (by omega) (by omega) (fun b hb => by cases hb; omega)
        · rw [if_neg c]
          simp only [if_true, if_neg c]
          exact ih (some b) (by omega) (by omega) hx
theorem farFrom_sp {M : Mem} {K : Co} {A : Ha} (ok : OKC K) (r : RepMH (M.1 55 0) K A) {j : Nat} (hj : j < K.1 0) : f_X11_farFrom (nI j) M = some (farS A.2.1 j) := by
  have hJ := ok.J
  unfold f_X11_farFrom farS
  rw [show (42 : Int32) + nI j = nI (42 + j) from add_nI 42 j, inb_nI_t (show 42 + j < 2375 by omega) (by decide), nI_clamp (by omega), r.2.2.2.2.2.2.1 j hj, if_pos rfl, if_pos rfl, if_pos rfl]
  by_cases c : 0 < A.2.1 j
  · rw [if_pos c, if_pos c]
  · rw [if_neg c, if_neg c]
theorem nm_loop {M : Mem} {K : Co} {A : Ha} (ok : OKC K) (rc : RepMC (M.1 55 0) K) (r : RepMH (M.1 55 0) K A) (hS : A.1 0 < 1024) : ∀ (k i n : Nat) (x : Option Nat), i + k = K.1 0 → k < n → (∀ b, x = some b → b < K.1 0) →
    ∃ n' , f_X11_nearest_14 M n (enN x) (nI i) = f_X11_nearest_14 M (n' + 1) (enN (foldJ (nearF (A.1 0) A.2.1) k i x)) (nI (K.1 0))
  | k, i, 0, x, _, hn, _ => by omega
  | 0, i, n + 1, x, hi, _, hx => by
    have e : i = K.1 0 := by omega
    subst e
    exact ⟨n, rfl⟩
  | k + 1, i, n + 1, x, hi, hn, hx => by
    have hJ := ok.J
    rw [f_X11_nearest_14, rc.1 0 (by decide), if_pos (by rw [lt_nI (by omega) (by omega)]; omega), X11_isSeated_sp r.1 hS (by omega), Option.bind_some, show nI i + (1 : Int32) = nI (i + 1) from add_nI i 1]
    have e : foldJ (nearF (A.1 0) A.2.1) (k + 1) i x = foldJ (nearF (A.1 0) A.2.1) k (i + 1) (nearF (A.1 0) A.2.1 x i) := rfl
    rw [e]
    have ih := nm_loop ok rc r hS k (i + 1) n
    unfold nearF
    cases hb : (A.1 0).testBit i with
    | false =>
      rw [ifb_f]
      exact ih x (by omega) (by omega) hx
    | true =>
      rw [ifb_t]
      cases x with
      | none =>
        rw [if_pos (show enN none < 0 by decide)]
        exact ih (some i) (by omega) (by omega) (fun b hb => by cases hb; omega)
      | some b =>
        have hb9 := hx b rfl
        rw [if_neg (show ¬ enN (some b) < 0 from nI_pos (by omega)), farFrom_sp ok r (by omega), Option.bind_some, show enN (some b) = nI b from rfl, farFrom_sp ok r hb9, Option.bind_some]
        by_cases c : farS A.2.1 i < farS A.2.1 b
        · rw [if_pos c]
          simp only [if_true, if_pos c]
          exact ih (some i) (by omega) (by omega) (fun b hb => by cases hb; omega)
        · rw [if_neg c]
          simp only [if_true, if_neg c]
          exact ih (some b) (by omega) (by omega) hx
theorem step_nearest {s : Sy} (o : OKS s) : Step s f_X10_nearest f_X11_nearest := by
  have b := hall_bounds o
  have hx : ∀ M, RX s M → f_X10_nearest M = some (enN (nearS ((sWo s).1.1 0) ((sWo s).2.1.1 0) (sWo s).2.1.2.1), stM M (if nearS ((sWo s).1.1 0) ((sWo s).2.1.1 0) (sWo s).2.1.2.1 = none then 8 else 0)) := by
    intro M h
    unfold f_X10_nearest
    obtain ⟨n', e, e2⟩ := nx_loop (M := M) (J := (sWo s).1.1 0) (S := (sWo s).2.1.1 0) (l := (sWo s).2.1.2.1) b.1 (h.C.1 0 (by decide)) (h.H.1 0 (by decide)) b.2.1 h.H.2.1 ((sWo s).1.1 0) 0 FU none (by omega) (lt_FU (by omega)) (fun b hb => by cases hb)
    show f_X10_nearest_6 M FU (enN none) (enF (sWo s).2.1.2.1 none) (nI 0) = _
    rw [e, f_X10_nearest_6, show M.1 9 0 0 = nI ((sWo s).1.1 0) from h.C.1 0 (by decide), if_neg (by rw [lt_nI (by omega) (by omega)]; omega)]
    show _ = some (enN (foldJ (nearF ((sWo s).2.1.1 0) (sWo s).2.1.2.1) ((sWo s).1.1 0) 0 none), stM M (if foldJ (nearF ((sWo s).2.1.1 0) (sWo s).2.1.2.1) ((sWo s).1.1 0) 0 none = none then 8 else 0))
    generalize foldJ (nearF ((sWo s).2.1.1 0) (sWo s).2.1.2.1) ((sWo s).1.1 0) 0 none = y at *
    cases y with
    | none => rfl
    | some c =>
      have := e2 c rfl
      rw [if_neg (by show ¬ nI c = -1; have q : ∀ b, b < 10 → ¬ nI b = -1 := by decide +kernel
                     exact q c this), if_neg (by simp)]
      rfl
  have hm : ∀ M, RM s M → f_X11_nearest M = some (enN (nearS ((sWo s).1.1 0) ((sWo s).2.1.1 0) (sWo s).2.1.2.1), if nearS ((sWo s).1.1 0) ((sWo s).2.1.1 0) (sWo s).2.1.2.1 = none then smM (mR M) 8 else mR M) := by
    intro M h
    unfold f_X11_nearest
    simp only [mR_e]
    obtain ⟨n', e⟩ : ∃ n', f_X11_nearest_14 (mR M) FU (enN none) (nI 0) = f_X11_nearest_14 (mR M) (n' + 1) (enN (foldJ (nearF ((sWo s).2.1.1 0) (sWo s).2.1.2.1) ((sWo s).1.1 0) 0 none)) (nI ((sWo s).1.1 0)) := nm_loop (M := mR M) o.C (h.r o).C (h.r o).H b.2.1 ((sWo s).1.1 0) 0 FU none (by show 0 + (sWo s).1.1 0 = (sWo s).1.1 0; omega) (lt_FU (by omega)) (fun b hb => by cases hb)
    show f_X11_nearest_14 (mR M) FU (enN none) (nI 0) = _
    rw [e, f_X11_nearest_14, show (mR M).1 55 0 0 = nI ((sWo s).1.1 0) from (h.r o).C.1 0 (by decide), if_neg (by rw [lt_nI (by omega) (by omega)]; omega)]
    show _ = some (enN (foldJ (nearF ((sWo s).2.1.1 0) (sWo s).2.1.2.1) ((sWo s).1.1 0) 0 none), if foldJ (nearF ((sWo s).2.1.1 0) (sWo s).2.1.2.1) ((sWo s).1.1 0) 0 none = none then smM (mR M) 8 else mR M)
    show (if enN (foldJ (nearF ((sWo s).2.1.1 0) (sWo s).2.1.2.1) ((sWo s).1.1 0) 0 none) < 0 then _ else _) = _
    obtain ⟨n', e, e2⟩ : ∃ n' : Nat, True ∧ ∀ c, foldJ (nearF ((sWo s).2.1.1 0) (sWo s).2.1.2.1) ((sWo s).1.1 0) 0 none = some c → c < 10 := by
      refine ⟨0, trivial, ?_⟩
      refine foldJ_inv (P := fun x : Option Nat => ∀ c, x = some c → c < 10) _ _ _ (fun c hc => by cases hc) (fun x m h1 h2 hx c hc => ?_)
      unfold nearF at hc
      split at hc
      · cases x with
        | none => cases hc; omega
        | some d =>
          simp only at hc
          split at hc
          · cases hc; omega
          · cases hc; exact hx c rfl
      · exact hx c hc
    generalize foldJ (nearF ((sWo s).2.1.1 0) (sWo s).2.1.2.1) ((sWo s).1.1 0) 0 none = y at *
    cases y with
    | none => rfl
    | some c =>
      have := e2 c rfl
      rw [if_neg (show ¬ enN (some c) < 0 from nI_pos (by omega)), if_neg (by simp)]
  by_cases c : nearS ((sWo s).1.1 0) ((sWo s).2.1.1 0) (sWo s).2.1.2.1 = none
  · refine step_of (-1) (setSc s 0 8) o (fun M h => ⟨stM M 8, ?_, h.st o 8 XQ.rf⟩) (fun M h => ⟨smM (mR M) 8, ?_, h.st o 8 (mR_Q M)⟩)
    · rw [hx M h, if_pos c, c]; rfl
    · rw [hm M h, if_pos c, c]; rfl
  · refine step_of (enN (nearS ((sWo s).1.1 0) ((sWo s).2.1.1 0) (sWo s).2.1.2.1)) (setSc s 0 0) o (fun M h => ⟨stM M 0, ?_, h.st o 0 XQ.rf⟩) (fun M h => ⟨mR M, ?_, h.s0 o MQm.rf (mR_0 M)⟩)
    · rw [hx M h, if_neg c]
    · rw [hm M h, if_neg c]
