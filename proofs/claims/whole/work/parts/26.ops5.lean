/-! ===== calls on both: what is asked and answered at once ===== -/
theorem step_no {s : Sy} (o : OKS s) (v : Int32) {fx fm : Mem → Option (Int32 × Mem)} (hx : ∀ M, RX s M → fx M = some (-1, stM M v)) (hm : ∀ M, RM s M → fm M = some (-1, smM (mR M) v)) : Step s fx fm :=
  step_of (-1) (setSc s 0 v) o (fun M h => ⟨stM M v, hx M h, h.st o v XQ.rf⟩) (fun M h => ⟨smM (mR M) v, hm M h, h.st o v (mR_Q M)⟩)
theorem step_ans {s : Sy} (o : OKS s) (r : Int32) {fx fm : Mem → Option (Int32 × Mem)} (hx : ∀ M, RX s M → fx M = some (r, stM M 0)) (hm : ∀ M, RM s M → fm M = some (r, mR M)) : Step s fx fm :=
  step_of r (setSc s 0 0) o (fun M h => ⟨stM M 0, hx M h, h.st o 0 XQ.rf⟩) (fun M h => ⟨mR M, hm M h, h.s0 o MQm.rf (mR_0 M)⟩)
theorem cnt_le {K : Co} (ok : OKC K) {q : Nat} (hq : q < 4) : K.1 q ≤ 10 := by
  obtain ⟨k0, k1, k2, k3, -⟩ := ok
  match q, hq with
  | 0, _ => omega
  | 1, _ => omega
  | 2, _ => omega
  | 3, _ => omega
theorem m1_toInt {n : Nat} (hn : n ≤ 10) : (nI n - (1 : Int32)).toInt64.toInt = (n : Int) - 1 := by
  rw [t64]
  have : ∀ n, n < 11 → (nI n - (1 : Int32)).toInt = (n : Int) - 1 := by decide +kernel
  exact this _ (by omega)
theorem step_proof {s : Sy} (o : OKS s) (x : Int32) : Step s (f_X10_proof x) (f_X11_proof x) := by
  have hc : (sWo s).1.1 1 ≤ 10 := cnt_le o.C (by decide)
  have hc6 : (sWo s).1.1 1 ≤ 6 := o.C.2.1
  have em : ∀ M, RM s M → (mR M).1 55 0 1 = nI ((sWo s).1.1 1) := fun M h => (h.r o).C.1 1 (by decide)
  rcases arg_in x (n := (sWo s).1.1 1) (by omega) with ⟨i, hi, rfl⟩ | hx
  · refine step_ans o ((sWo s).1.2 4 i) (fun M h => ?_) (fun M h => ?_)
    · unfold f_X10_proof
      rw [show f_X10_isNo (1 : Int32) (nI i) M = some 0 from isNo_t (q := 1) h o (by decide) hi, Option.bind_some, if_pos rfl, inb_nI_t (by omega) (by decide), if_pos rfl, nI_clamp (by omega), show M.1 16 0 i = (sWo s).1.2 4 i from h.C.2.2.2.2.2.2.1 i hi]
      rfl
    · unfold f_X11_proof
      simp only [mR_e]
      rw [em M h, isIn_t0 (by omega) (m1_toInt hc) hi, Option.bind_some, if_neg (by decide), show (152 : Int32) + nI i = nI (152 + i) from add_nI 152 i, inb_nI_t (by omega) (by decide), if_pos rfl, nI_clamp (by omega), show (mR M).1 55 0 (152 + i) = (sWo s).1.2 4 i from (h.r o).C.2.2.2.2.2.1 i hi]
  · refine step_no o 2 (fun M h => ?_) (fun M h => ?_)
    · unfold f_X10_proof
      rw [show f_X10_isNo (1 : Int32) x M = some 1 from isNo_f (q := 1) h (by decide) hx]
      rfl
    · unfold f_X11_proof
      simp only [mR_e]
      rw [em M h, isIn_f0 (by omega) (m1_toInt hc) hx]
      rfl
theorem isCrop_t {M : Mem} {K : Co} (ok : OKC K) (rc : RepMC (M.1 55 0) K) {i : Nat} (hi : i < K.1 3) : f_X11_isCropAt (nI i) M = some 1 := by
  have hJ : K.1 3 ≤ 10 := cnt_le ok (by decide)
  unfold f_X11_isCropAt
  rw [rc.1 3 (by decide), isIn_t0 (by omega) (m1_toInt hJ) hi]
  rfl
theorem isCrop_f {M : Mem} {K : Co} (ok : OKC K) (rc : RepMC (M.1 55 0) K) {x : Int32} (hx : x < 0 ∨ ¬ x < nI (K.1 3)) : f_X11_isCropAt x M = some 0 := by
  have hJ : K.1 3 ≤ 10 := cnt_le ok (by decide)
  unfold f_X11_isCropAt
  rw [rc.1 3 (by decide), isIn_f0 (by omega) (m1_toInt hJ) hx]
  rfl
theorem isWea_t {M : Mem} {K : Co} (ok : OKC K) (rc : RepMC (M.1 55 0) K) {i : Nat} (hi : i < K.1 2) : f_X11_isWeatherAt (nI i) M = some 1 := by
  have hJ : K.1 2 ≤ 10 := cnt_le ok (by decide)
  unfold f_X11_isWeatherAt
  rw [rc.1 2 (by decide), isIn_t0 (by omega) (m1_toInt hJ) hi]
  rfl
theorem isWea_f {M : Mem} {K : Co} (ok : OKC K) (rc : RepMC (M.1 55 0) K) {x : Int32} (hx : x < 0 ∨ ¬ x < nI (K.1 2)) : f_X11_isWeatherAt x M = some 0 := by
  have hJ : K.1 2 ≤ 10 := cnt_le ok (by decide)
  unfold f_X11_isWeatherAt
  rw [rc.1 2 (by decide), isIn_f0 (by omega) (m1_toInt hJ) hx]
  rfl
theorem step_bribeSet {s : Sy} (o : OKS s) : Step s f_X10_bribeSet f_X11_bribeSet := by
  have ex : ∀ M, RX s M → M.1 36 0 8 = sSc s 3 := fun M h => h.1.2.2.2
  have em : ∀ M, RM s M → (mR M).1 50 0 31 = sSc s 3 := fun M h => (h.r o).1.2.2.2
  rcases o.2.2.2.2.2.2.1 with c | ⟨n, hn, c⟩
  · refine step_no o 8 (fun M h => ?_) (fun M h => ?_)
    · unfold f_X10_bribeSet
      rw [if_pos (by rw [ex M h, c])]; rfl
    · unfold f_X11_bribeSet
      simp only [mR_e]
      refine (if_pos ?_).trans rfl
      rw [em M h, c]; decide
  · refine step_ans o (nI n) (fun M h => ?_) (fun M h => ?_)
    · unfold f_X10_bribeSet
      rw [if_neg (by
        rw [ex M h, c]
        have q : ∀ b, b < 1024 → ¬ nI b = -1 := by decide +kernel
        exact q n hn), ex M h, c]; rfl
    · unfold f_X11_bribeSet
      simp only [mR_e]
      refine (if_neg ?_).trans ?_
      · rw [em M h, c]; exact nI_pos (by omega)
      · rw [em M h, c]
theorem step_orderAt {s : Sy} (o : OKS s) (x : Int32) : Step s (f_X10_orderAt x) (f_X11_orderAt x) := by
  have hc : (sOr s).2.1 ≤ 4 := o.2.2.2.2.1.1
  have ex : ∀ M, RX s M → M.1 36 0 7 = nI (sOr s).2.1 := fun M h => h.2.2.2.2.2.2.1.1
  have em : ∀ M, RM s M → (mR M).1 50 0 30 = (if (sOr s).1 then nI (sOr s).2.1 else -1) := fun M h => (h.r o).2.2.2.2.2.2.1.1
  rcases arg_in x (n := (sOr s).2.1) (by omega) with ⟨i, hi, rfl⟩ | hx
  · have ht : (sOr s).1 = true := by
      cases e : (sOr s).1 with
      | true => rfl
      | false => have := o.2.2.2.2.1.2 e; omega
    refine step_ans o ((sOr s).2.2 i) (fun M h => ?_) (fun M h => ?_)
    · unfold f_X10_orderAt
      rw [if_neg (nI_pos (by omega)), ex M h, if_pos (by rw [lt_nI (by omega) (by omega)]; exact hi), inb_nI_t (by omega) (by decide), if_pos rfl, nI_clamp (by omega), show M.1 42 0 i = (sOr s).2.2 i from h.2.2.2.2.2.2.1.2 i hi]
      rfl
    · unfold f_X11_orderAt
      simp only [mR_e]
      rw [em M h, ht, if_pos rfl, isIn_t0 (by omega) (m1_toInt (by omega)) hi, Option.bind_some, if_neg (by decide), inb_nI_t (by omega) (by decide), if_pos rfl, nI_clamp (by omega), show (mR M).1 60 0 i = (sOr s).2.2 i from (h.r o).2.2.2.2.2.2.1.2 i hi]
  · refine step_no o 8 (fun M h => ?_) (fun M h => ?_)
    · unfold f_X10_orderAt
      by_cases c : x < 0
      · rw [if_pos c]; rfl
      · rw [if_neg c, ex M h, if_neg (hx.resolve_left c)]; rfl
    · unfold f_X11_orderAt
      simp only [mR_e]
      rw [em M h]
      cases e : (sOr s).1 with
      | true =>
        rw [if_pos rfl, isIn_f0 (by omega) (m1_toInt (by omega)) hx]
        rfl
      | false =>
        rw [if_neg (by decide), isIn_f (by
          intro z
          have z1 : (0 : Int) ≤ x.toInt := z.1
          have z2 : x.toInt ≤ -2 := z.2
          omega)]
        rfl
theorem step_fault {s : Sy} (o : OKS s) (x : Int32) : Step s (fun M => (f_X10_fault x M).map fun r => (r, M)) (f_X11_fault x) := by
  refine step_of (if x = 0 then sSc s 1 else if x = 1 then sSc s 2 else -1) s o (fun M h => ⟨M, ?_, h, fun _ _ _ => ⟨rfl, rfl⟩⟩) (fun M h => ⟨_, ?_, h.th o⟩)
  · unfold f_X10_fault
    rw [h.1.2.1, h.1.2.2.1]
    by_cases c : x = 0
    · rw [if_pos c, if_pos c]; rfl
    · rw [if_neg c, if_neg c]
      by_cases c1 : x = 1
      · rw [if_pos c1, if_pos c1]; rfl
      · rw [if_neg c1, if_neg c1]; rfl
  · unfold f_X11_fault
    simp only
    have t := (h.th o).1
    rw [t.1.2.1, t.1.2.2.1]
    by_cases c : x = 0
    · rw [if_pos c, if_pos c]
    · rw [if_neg c, if_neg c]
      by_cases c1 : x = 1
      · rw [if_pos c1, if_pos c1]
      · rw [if_neg c1, if_neg c1]
