/-! ===== calls on both: juror, sways, follows, grows, crop, many, lived ===== -/
theorem ne_out {x : Int32} {n k : Nat} (hn : n < 2 ^ 31) (hk : k < n) (h : x < 0 ∨ ¬ x < nI n) : ¬ x = nI k := by
  intro e
  subst e
  rcases h with h | h
  · exact nI_pos (by omega) h
  · exact h (by rw [lt_nI (by omega) hn]; exact hk)
theorem step_crop {s : Sy} (o : OKS s) (x : Int32) : Step s (f_X10_crop x) (f_X11_crop x) := by
  have hc : (sWo s).1.1 3 ≤ 4 := o.C.2.2.2.1
  rcases arg_in x (n := (sWo s).1.1 3) (by omega) with ⟨i, hi, rfl⟩ | hx
  · refine step_ans o ((sWo s).2.1.2.2 i) (fun M h => ?_) (fun M h => ?_)
    · unfold f_X10_crop
      rw [show f_X10_isNo (3 : Int32) (nI i) M = some 0 from isNo_t (q := 3) h o (by decide) hi, Option.bind_some, if_pos rfl, inb_nI_t (by omega) (by decide), if_pos rfl, nI_clamp (by omega), show M.1 22 0 i = (sWo s).2.1.2.2 i from h.H.2.2 i (by omega)]
      rfl
    · unfold f_X11_crop
      simp only [mR_e]
      rw [isCrop_t o.C (h.r o).C hi, Option.bind_some, if_neg (by decide), show (194 : Int32) + nI i = nI (194 + i) from add_nI 194 i, inb_nI_t (by omega) (by decide), if_pos rfl, nI_clamp (by omega), show (mR M).1 55 0 (194 + i) = (sWo s).2.1.2.2 i from (h.r o).H.2.2.2.2.2.2.2 i hi]
  · refine step_no o 2 (fun M h => ?_) (fun M h => ?_)
    · unfold f_X10_crop
      rw [show f_X10_isNo (3 : Int32) x M = some 1 from isNo_f (q := 3) h (by decide) hx]
      rfl
    · unfold f_X11_crop
      simp only [mR_e]
      rw [isCrop_f o.C (h.r o).C hx]
      rfl
theorem step_grows {s : Sy} (o : OKS s) (x y : Int32) : Step s (f_X10_grows x y) (f_X11_grows x y) := by
  have hc : (sWo s).1.1 3 ≤ 4 := o.C.2.2.2.1
  have hw : (sWo s).1.1 2 ≤ 10 := cnt_le o.C (by decide)
  rcases arg_in x (n := (sWo s).1.1 3) (by omega) with ⟨i, hi, rfl⟩ | hx
  · rcases arg_in y (n := (sWo s).1.1 2) (by omega) with ⟨j, hj, rfl⟩ | hy
    · refine step_ans o ((sWo s).1.2 5 (6 * i + j)) (fun M h => ?_) (fun M h => ?_)
      · unfold f_X10_grows
        rw [show f_X10_isNo (3 : Int32) (nI i) M = some 0 from isNo_t (q := 3) h o (by decide) hi, Option.bind_some, if_pos rfl, show f_X10_isNo (2 : Int32) (nI j) M = some 0 from isNo_t (q := 2) h o (by decide) hj, Option.bind_some, if_pos rfl, X1_growthOf_sp o.C h.C hi hj]
        rfl
      · unfold f_X11_grows
        simp only [mR_e]
        rw [isCrop_t o.C (h.r o).C hi, Option.bind_some, if_neg (by decide), isWea_t o.C (h.r o).C hj, Option.bind_some, if_neg (by decide), X11_growsOn_sp o.C (h.r o).C hi hj]
        rfl
    · refine step_no o 2 (fun M h => ?_) (fun M h => ?_)
      · unfold f_X10_grows
        rw [show f_X10_isNo (3 : Int32) (nI i) M = some 0 from isNo_t (q := 3) h o (by decide) hi, Option.bind_some, if_pos rfl, show f_X10_isNo (2 : Int32) y M = some 1 from isNo_f (q := 2) h (by decide) hy]
        rfl
      · unfold f_X11_grows
        simp only [mR_e]
        rw [isCrop_t o.C (h.r o).C hi, Option.bind_some, if_neg (by decide), isWea_f o.C (h.r o).C hy]
        rfl
  · refine step_no o 2 (fun M h => ?_) (fun M h => ?_)
    · unfold f_X10_grows
      rw [show f_X10_isNo (3 : Int32) x M = some 1 from isNo_f (q := 3) h (by decide) hx]
      rfl
    · unfold f_X11_grows
      simp only [mR_e]
      rw [isCrop_f o.C (h.r o).C hx]
      rfl
theorem noVerd_e (x : Int32) : f_X10_isNoVerdict x.toInt64 = some (if -1 ≤ x.toInt ∧ x.toInt ≤ 1 then 0 else 1) := by
  have h := isIn_spec x.toInt64 (-1) 1
  unfold f_X11_isIn at h
  unfold f_X10_isNoVerdict
  rw [t64] at h
  by_cases c1 : lg_cmp x.toInt64 (-1) < 0
  · rw [if_pos c1] at h ⊢
    by_cases z : -1 ≤ x.toInt ∧ x.toInt ≤ 1
    · rw [if_pos z]
      rw [if_pos (show (-1 : Int64).toInt ≤ x.toInt ∧ x.toInt ≤ (1 : Int64).toInt from z)] at h
      exact absurd h (by decide)
    · rw [if_neg z]
  · rw [if_neg c1] at h ⊢
    by_cases c2 : 0 < lg_cmp x.toInt64 1
    · rw [if_pos c2] at h ⊢
      by_cases z : -1 ≤ x.toInt ∧ x.toInt ≤ 1
      · rw [if_pos z]
        rw [if_pos (show (-1 : Int64).toInt ≤ x.toInt ∧ x.toInt ≤ (1 : Int64).toInt from z)] at h
        exact absurd h (by decide)
      · rw [if_neg z]
    · rw [if_neg c2] at h ⊢
      by_cases z : -1 ≤ x.toInt ∧ x.toInt ≤ 1
      · rw [if_pos z]
      · rw [if_neg z]
        rw [if_neg (show ¬ ((-1 : Int64).toInt ≤ x.toInt ∧ x.toInt ≤ (1 : Int64).toInt) from z)] at h
        exact absurd h (by decide)
theorem verd_cases {x : Int32} (h : -1 ≤ x.toInt ∧ x.toInt ≤ 1) : x = 0 ∨ x = 1 ∨ x = -1 := by
  have e : x.toInt = 0 ∨ x.toInt = 1 ∨ x.toInt = -1 := by omega
  rcases e with e | e | e
  · exact Or.inl (Int32.toInt_inj.mp e)
  · exact Or.inr (Or.inl (Int32.toInt_inj.mp e))
  · exact Or.inr (Or.inr (Int32.toInt_inj.mp e))
theorem step_follows {s : Sy} (o : OKS s) (x y : Int32) : Step s (f_X10_follows x y) (f_X11_follows x y) := by
  have hw : (sWo s).1.1 2 ≤ 10 := cnt_le o.C (by decide)
  rcases arg_in x (n := (sWo s).1.1 2) (by omega) with ⟨i, hi, rfl⟩ | hx
  · by_cases z : -1 ≤ y.toInt ∧ y.toInt ≤ 1
    · refine step_ans o (nI (behS (sWo s).1 i y)) (fun M h => ?_) (fun M h => ?_)
      · unfold f_X10_follows
        rw [show f_X10_isNo (2 : Int32) (nI i) M = some 0 from isNo_t (q := 2) h o (by decide) hi, Option.bind_some, if_pos rfl, noVerd_e, if_pos z, Option.bind_some, if_pos rfl, X1_weatherBehind_sp o.C h.C hi]
        rfl
      · unfold f_X11_follows
        simp only [mR_e]
        rw [isWea_t o.C (h.r o).C hi, Option.bind_some, if_neg (by decide), isIn_t (b := -1) (c := 1) z, Option.bind_some, if_neg (by decide), X11_behindOf_sp o.C (h.r o).C hi (verd_cases z)]
        rfl
    · refine step_no o 5 (fun M h => ?_) (fun M h => ?_)
      · unfold f_X10_follows
        rw [show f_X10_isNo (2 : Int32) (nI i) M = some 0 from isNo_t (q := 2) h o (by decide) hi, Option.bind_some, if_pos rfl, noVerd_e, if_neg z]
        rfl
      · unfold f_X11_follows
        simp only [mR_e]
        rw [isWea_t o.C (h.r o).C hi, Option.bind_some, if_neg (by decide), isIn_f (b := -1) (c := 1) z]
        rfl
  · refine step_no o 2 (fun M h => ?_) (fun M h => ?_)
    · unfold f_X10_follows
      rw [show f_X10_isNo (2 : Int32) x M = some 1 from isNo_f (q := 2) h (by decide) hx]
      rfl
    · unfold f_X11_follows
      simp only [mR_e]
      rw [isWea_f o.C (h.r o).C hx]
      rfl
theorem step_sways {s : Sy} (o : OKS s) (x y : Int32) : Step s (f_X10_sways x y) (f_X11_sways x y) := by
  have hw : (sWo s).1.1 0 ≤ 10 := o.C.J
  rcases arg_in x (n := (sWo s).1.1 0) (by omega) with ⟨i, hi, rfl⟩ | hx
  · rcases arg_in y (n := (sWo s).1.1 0) (by omega) with ⟨j, hj, rfl⟩ | hy
    · by_cases e : nI i = nI j
      · refine step_no o 5 (fun M h => ?_) (fun M h => ?_)
        · unfold f_X10_sways
          rw [show f_X10_isNo (0 : Int32) (nI i) M = some 0 from isNo_t (q := 0) h o (by decide) hi, Option.bind_some, if_pos rfl, show f_X10_isNo (0 : Int32) (nI j) M = some 0 from isNo_t (q := 0) h o (by decide) hj, Option.bind_some, if_pos rfl, if_pos e]
          rfl
        · unfold f_X11_sways
          simp only [mR_e]
          rw [isJur_t o.C (h.r o).C hi, Option.bind_some, if_neg (by decide), isJur_t o.C (h.r o).C hj, Option.bind_some, if_neg (by decide), if_pos e]
          rfl
      · refine step_ans o ((sWo s).1.2 3 (10 * i + j)) (fun M h => ?_) (fun M h => ?_)
        · unfold f_X10_sways f_X1_swayOf
          rw [show f_X10_isNo (0 : Int32) (nI i) M = some 0 from isNo_t (q := 0) h o (by decide) hi, Option.bind_some, if_pos rfl, show f_X10_isNo (0 : Int32) (nI j) M = some 0 from isNo_t (q := 0) h o (by decide) hj, Option.bind_some, if_pos rfl, if_neg e, show nI j * (10 : Int32) + nI i = nI (10 * j + i) from by rw [show (10 : Int32) = nI 10 from rfl, mul_nI, add_nI, Nat.mul_comm], inb_nI_t (by omega) (by decide), if_pos rfl, nI_clamp (by omega), show M.1 14 0 (10 * j + i) = (sWo s).1.2 3 (10 * i + j) from h.C.2.2.2.2.1 i j hi hj]
          rfl
        · unfold f_X11_sways
          simp only [mR_e]
          rw [isJur_t o.C (h.r o).C hi, Option.bind_some, if_neg (by decide), isJur_t o.C (h.r o).C hj, Option.bind_some, if_neg (by decide), if_neg e, show (52 : Int32) + (10 : Int32) * nI i + nI j = nI (52 + 10 * i + j) from by rw [show (10 : Int32) = nI 10 from rfl, mul_nI, show (52 : Int32) = nI 52 from rfl, add_nI, add_nI], inb_nI_t (by omega) (by decide), if_pos rfl, nI_clamp (by omega), show (mR M).1 55 0 (52 + 10 * i + j) = (sWo s).1.2 3 (10 * i + j) from (h.r o).C.2.2.2.2.1 i j hi hj]
    · refine step_no o 2 (fun M h => ?_) (fun M h => ?_)
      · unfold f_X10_sways
        rw [show f_X10_isNo (0 : Int32) (nI i) M = some 0 from isNo_t (q := 0) h o (by decide) hi, Option.bind_some, if_pos rfl, show f_X10_isNo (0 : Int32) y M = some 1 from isNo_f (q := 0) h (by decide) hy]
        rfl
      · unfold f_X11_sways
        simp only [mR_e]
        rw [isJur_t o.C (h.r o).C hi, Option.bind_some, if_neg (by decide), isJur_f o.C (h.r o).C hy]
        rfl
  · refine step_no o 2 (fun M h => ?_) (fun M h => ?_)
    · unfold f_X10_sways
      rw [show f_X10_isNo (0 : Int32) x M = some 1 from isNo_f (q := 0) h (by decide) hx]
      rfl
    · unfold f_X11_sways
      simp only [mR_e]
      rw [isJur_f o.C (h.r o).C hx]
      rfl
theorem step_juror {s : Sy} (o : OKS s) (x y : Int32) : Step s (f_X10_juror x y) (f_X11_juror x y) := by
  have hw : (sWo s).1.1 0 ≤ 10 := o.C.J
  rcases arg_in x (n := (sWo s).1.1 0) (by omega) with ⟨i, hi, rfl⟩ | hx
  · rcases arg_in y (n := 4) (by decide) with ⟨j, hj, rfl⟩ | hy
    · match j, hj with
      | 0, _ =>
        refine step_ans o ((sWo s).2.1.2.1 i) (fun M h => ?_) (fun M h => ?_)
        · unfold f_X10_juror
          rw [show f_X10_isNo (0 : Int32) (nI i) M = some 0 from isNo_t (q := 0) h o (by decide) hi, Option.bind_some, if_pos rfl, if_pos (by decide), inb_nI_t (by omega) (by decide), if_pos rfl, nI_clamp (by omega), show M.1 21 0 i = (sWo s).2.1.2.1 i from h.H.2.1 i (by omega)]
          rfl
        · unfold f_X11_juror
          simp only [mR_e]
          rw [isJur_t o.C (h.r o).C hi, Option.bind_some, if_neg (by decide), isIn_t (by decide), Option.bind_some, if_neg (by decide), if_pos (show nI 0 = 0 by decide), show (42 : Int32) + nI i = nI (42 + i) from add_nI 42 i, inb_nI_t (by omega) (by decide), if_pos rfl, nI_clamp (by omega), show (mR M).1 55 0 (42 + i) = (sWo s).2.1.2.1 i from (h.r o).H.2.2.2.2.2.2.1 i hi]
      | 1, _ =>
        refine step_ans o ((sWo s).1.2 0 i) (fun M h => ?_) (fun M h => ?_)
        · unfold f_X10_juror
          rw [show f_X10_isNo (0 : Int32) (nI i) M = some 0 from isNo_t (q := 0) h o (by decide) hi, Option.bind_some, if_pos rfl, if_neg (by decide), if_pos (by decide), inb_nI_t (by omega) (by decide), if_pos rfl, nI_clamp (by omega), show M.1 11 0 i = (sWo s).1.2 0 i from (h.C.2.2.2.1 i hi).1]
          rfl
        · unfold f_X11_juror
          simp only [mR_e]
          rw [isJur_t o.C (h.r o).C hi, Option.bind_some, if_neg (by decide), isIn_t (by decide), Option.bind_some, if_neg (by decide), if_neg (by decide), show (12 : Int32) + (10 : Int32) * (nI 1 - (1 : Int32)) + nI i = nI (12 + i) from by rw [show (12 : Int32) + (10 : Int32) * (nI 1 - (1 : Int32)) = nI 12 from by decide, add_nI], inb_nI_t (by omega) (by decide), if_pos rfl, nI_clamp (by omega), show (mR M).1 55 0 (12 + i) = (sWo s).1.2 0 i from ((h.r o).C.2.2.2.1 i hi).1]
      | 2, _ =>
        refine step_ans o ((sWo s).1.2 1 i) (fun M h => ?_) (fun M h => ?_)
        · unfold f_X10_juror
          rw [show f_X10_isNo (0 : Int32) (nI i) M = some 0 from isNo_t (q := 0) h o (by decide) hi, Option.bind_some, if_pos rfl, if_neg (by decide), if_neg (by decide), if_pos (by decide), inb_nI_t (by omega) (by decide), if_pos rfl, nI_clamp (by omega), show M.1 12 0 i = (sWo s).1.2 1 i from (h.C.2.2.2.1 i hi).2.1]
          rfl
        · unfold f_X11_juror
          simp only [mR_e]
          rw [isJur_t o.C (h.r o).C hi, Option.bind_some, if_neg (by decide), isIn_t (by decide), Option.bind_some, if_neg (by decide), if_neg (by decide), show (12 : Int32) + (10 : Int32) * (nI 2 - (1 : Int32)) + nI i = nI (22 + i) from by rw [show (12 : Int32) + (10 : Int32) * (nI 2 - (1 : Int32)) = nI 22 from by decide, add_nI], inb_nI_t (by omega) (by decide), if_pos rfl, nI_clamp (by omega), show (mR M).1 55 0 (22 + i) = (sWo s).1.2 1 i from ((h.r o).C.2.2.2.1 i hi).2.1]
      | 3, _ =>
        refine step_ans o ((sWo s).1.2 2 i) (fun M h => ?_) (fun M h => ?_)
        · unfold f_X10_juror
          rw [show f_X10_isNo (0 : Int32) (nI i) M = some 0 from isNo_t (q := 0) h o (by decide) hi, Option.bind_some, if_pos rfl, if_neg (by decide), if_neg (by decide), if_neg (by decide), if_pos (by decide), inb_nI_t (by omega) (by decide), if_pos rfl, nI_clamp (by omega), show M.1 13 0 i = (sWo s).1.2 2 i from (h.C.2.2.2.1 i hi).2.2]
          rfl
        · unfold f_X11_juror
          simp only [mR_e]
          rw [isJur_t o.C (h.r o).C hi, Option.bind_some, if_neg (by decide), isIn_t (by decide), Option.bind_some, if_neg (by decide), if_neg (by decide), show (12 : Int32) + (10 : Int32) * (nI 3 - (1 : Int32)) + nI i = nI (32 + i) from by rw [show (12 : Int32) + (10 : Int32) * (nI 3 - (1 : Int32)) = nI 32 from by decide, add_nI], inb_nI_t (by omega) (by decide), if_pos rfl, nI_clamp (by omega), show (mR M).1 55 0 (32 + i) = (sWo s).1.2 2 i from ((h.r o).C.2.2.2.1 i hi).2.2]
    · refine step_no o 5 (fun M h => ?_) (fun M h => ?_)
      · unfold f_X10_juror
        rw [show f_X10_isNo (0 : Int32) (nI i) M = some 0 from isNo_t (q := 0) h o (by decide) hi, Option.bind_some, if_pos rfl, if_neg (show ¬ y = (0 : Int32) from ne_out (n := 4) (k := 0) (by decide) (by decide) hy), if_neg (show ¬ y = (1 : Int32) from ne_out (n := 4) (k := 1) (by decide) (by decide) hy), if_neg (show ¬ y = (2 : Int32) from ne_out (n := 4) (k := 2) (by decide) (by decide) hy), if_neg (show ¬ y = (3 : Int32) from ne_out (n := 4) (k := 3) (by decide) (by decide) hy)]
        rfl
      · unfold f_X11_juror
        simp only [mR_e]
        rw [isJur_t o.C (h.r o).C hi, Option.bind_some, if_neg (by decide), isIn_f0 (n := 4) (by decide) (by decide) hy]
        rfl
  · refine step_no o 2 (fun M h => ?_) (fun M h => ?_)
    · unfold f_X10_juror
      rw [show f_X10_isNo (0 : Int32) x M = some 1 from isNo_f (q := 0) h (by decide) hx]
      rfl
    · unfold f_X11_juror
      simp only [mR_e]
      rw [isJur_f o.C (h.r o).C hx]
      rfl
theorem step_many {s : Sy} (o : OKS s) (x : Int32) : Step s (f_X10_many x) (f_X11_many x) := by
  have hw : (sWo s).1.1 2 ≤ 6 := o.C.2.2.1
  have hh : (sWo s).1.1 4 ≤ 99 := o.C.2.2.2.2.1
  have hb : (sWo s).2.1.1 4 < 16777216 := o.H.2.2.1 4 (by decide)
  rcases arg_in x (n := 12) (by decide) with ⟨j, hj, rfl⟩ | hx
  · match j, hj with
      | 0, _ =>
        refine step_ans o (nI ((sWo s).1.1 0)) (fun M h => ?_) (fun M h => ?_)
        · unfold f_X10_many
          rw [if_neg (by decide), if_neg (by decide), if_neg (by decide), if_neg (by decide), if_neg (by decide), if_neg (by decide), if_neg (by decide), if_neg (by decide), if_neg (by decide), if_neg (by decide), inb_nI_t (by decide) (by decide), if_pos rfl, nI_clamp (by decide), show M.1 9 0 0 = nI ((sWo s).1.1 0) from h.C.1 0 (by decide)]
          rfl
        · unfold f_X11_many f_X11_many_42
          simp only [mR_e]
          rw [isIn_t (by decide), Option.bind_some, if_neg (by decide), if_neg (by decide), if_neg (by decide), inb_nI_t (by decide) (by decide), if_pos rfl, nI_clamp (by decide), show (mR M).1 55 0 0 = nI ((sWo s).1.1 0) from (h.r o).C.1 0 (by decide)]
      | 1, _ =>
        refine step_ans o (nI ((sWo s).1.1 1)) (fun M h => ?_) (fun M h => ?_)
        · unfold f_X10_many
          rw [if_neg (by decide), if_neg (by decide), if_neg (by decide), if_neg (by decide), if_neg (by decide), if_neg (by decide), if_neg (by decide), if_neg (by decide), if_neg (by decide), if_neg (by decide), inb_nI_t (by decide) (by decide), if_pos rfl, nI_clamp (by decide), show M.1 9 0 1 = nI ((sWo s).1.1 1) from h.C.1 1 (by decide)]
          rfl
        · unfold f_X11_many f_X11_many_42
          simp only [mR_e]
          rw [isIn_t (by decide), Option.bind_some, if_neg (by decide), if_neg (by decide), if_neg (by decide), inb_nI_t (by decide) (by decide), if_pos rfl, nI_clamp (by decide), show (mR M).1 55 0 1 = nI ((sWo s).1.1 1) from (h.r o).C.1 1 (by decide)]
      | 2, _ =>
        refine step_ans o (nI ((sWo s).1.1 2)) (fun M h => ?_) (fun M h => ?_)
        · unfold f_X10_many
          rw [if_neg (by decide), if_neg (by decide), if_neg (by decide), if_neg (by decide), if_neg (by decide), if_neg (by decide), if_neg (by decide), if_neg (by decide), if_neg (by decide), if_neg (by decide), inb_nI_t (by decide) (by decide), if_pos rfl, nI_clamp (by decide), show M.1 9 0 2 = nI ((sWo s).1.1 2) from h.C.1 2 (by decide)]
          rfl
        · unfold f_X11_many f_X11_many_42
          simp only [mR_e]
          rw [isIn_t (by decide), Option.bind_some, if_neg (by decide), if_neg (by decide), if_neg (by decide), inb_nI_t (by decide) (by decide), if_pos rfl, nI_clamp (by decide), show (mR M).1 55 0 2 = nI ((sWo s).1.1 2) from (h.r o).C.1 2 (by decide)]
      | 3, _ =>
        refine step_ans o (nI ((sWo s).1.1 3)) (fun M h => ?_) (fun M h => ?_)
        · unfold f_X10_many
          rw [if_neg (by decide), if_neg (by decide), if_neg (by decide), if_neg (by decide), if_neg (by decide), if_neg (by decide), if_neg (by decide), if_neg (by decide), if_neg (by decide), if_neg (by decide), inb_nI_t (by decide) (by decide), if_pos rfl, nI_clamp (by decide), show M.1 9 0 3 = nI ((sWo s).1.1 3) from h.C.1 3 (by decide)]
          rfl
        · unfold f_X11_many f_X11_many_42
          simp only [mR_e]
          rw [isIn_t (by decide), Option.bind_some, if_neg (by decide), if_neg (by decide), if_neg (by decide), inb_nI_t (by decide) (by decide), if_pos rfl, nI_clamp (by decide), show (mR M).1 55 0 3 = nI ((sWo s).1.1 3) from (h.r o).C.1 3 (by decide)]
      | 4, _ =>
        by_cases c : (sWo s).1.1 4 = 0
        · refine step_no o 8 (fun M h => ?_) (fun M h => ?_)
          · unfold f_X10_many
            rw [if_neg (by decide), if_neg (by decide), if_pos (by decide), if_pos (by rw [show M.1 8 0 11 = nI ((sWo s).1.1 4) from h.C.2.1, c]; rfl)]
            rfl
          · unfold f_X11_many
            simp only [mR_e]
            rw [isIn_t (by decide), Option.bind_some, if_neg (by decide), if_pos (by decide)]
            refine (if_pos ?_).trans rfl
            rw [show (mR M).1 55 0 4 = nI ((sWo s).1.1 4) from (h.r o).C.2.1, c]; rfl
        · refine step_ans o (nI ((sWo s).1.1 4)) (fun M h => ?_) (fun M h => ?_)
          · unfold f_X10_many
            rw [if_neg (by decide), if_neg (by decide), if_pos (by decide), show M.1 8 0 11 = nI ((sWo s).1.1 4) from h.C.2.1, if_neg (by rw [nI_z (by omega)]; exact c)]
            rfl
          · unfold f_X11_many f_X11_many_42
            simp only [mR_e]
            rw [isIn_t (by decide), Option.bind_some, if_neg (by decide), if_pos (by decide)]
            refine (if_neg ?_).trans ?_
            · rw [show (mR M).1 55 0 4 = nI ((sWo s).1.1 4) from (h.r o).C.2.1, nI_z (by omega)]; exact c
            · rw [if_neg (by decide), inb_nI_t (by decide) (by decide), if_pos rfl, nI_clamp (by decide), show (mR M).1 55 0 4 = nI ((sWo s).1.1 4) from (h.r o).C.2.1]
      | 5, _ =>
        refine step_ans o (nI ((sWo s).1.1 5)) (fun M h => ?_) (fun M h => ?_)
        · unfold f_X10_many
          rw [if_neg (by decide), if_neg (by decide), if_neg (by decide), if_pos (by decide), show M.1 8 0 12 = nI ((sWo s).1.1 5) from h.C.2.2.1]
          rfl
        · unfold f_X11_many f_X11_many_42
          simp only [mR_e]
          rw [isIn_t (by decide), Option.bind_some, if_neg (by decide), if_neg (by decide), if_neg (by decide), inb_nI_t (by decide) (by decide), if_pos rfl, nI_clamp (by decide), show (mR M).1 55 0 5 = nI ((sWo s).1.1 5) from (h.r o).C.2.2.1]
      | 6, _ =>
        refine step_ans o (nI ((sWo s).2.1.1 3)) (fun M h => ?_) (fun M h => ?_)
        · unfold f_X10_many
          rw [if_neg (by decide), if_neg (by decide), if_neg (by decide), if_neg (by decide), if_pos (by decide), show M.1 20 0 5 = nI ((sWo s).2.1.1 3) from h.H.1 3 (by decide)]
          rfl
        · unfold f_X11_many f_X11_many_42
          simp only [mR_e]
          rw [isIn_t (by decide), Option.bind_some, if_neg (by decide), if_neg (by decide), if_neg (by decide), inb_nI_t (by decide) (by decide), if_pos rfl, nI_clamp (by decide), show (mR M).1 55 0 6 = nI ((sWo s).2.1.1 3) from (h.r o).H.2.2.2.1]
      | 7, _ =>
        refine step_ans o (nI ((sWo s).2.1.1 2)) (fun M h => ?_) (fun M h => ?_)
        · unfold f_X10_many
          rw [if_neg (by decide), if_neg (by decide), if_neg (by decide), if_neg (by decide), if_neg (by decide), if_pos (by decide), show M.1 20 0 4 = nI ((sWo s).2.1.1 2) from h.H.1 2 (by decide)]
          rfl
        · unfold f_X11_many f_X11_many_42
          simp only [mR_e]
          rw [isIn_t (by decide), Option.bind_some, if_neg (by decide), if_neg (by decide), if_neg (by decide), inb_nI_t (by decide) (by decide), if_pos rfl, nI_clamp (by decide), show (mR M).1 55 0 7 = nI ((sWo s).2.1.1 2) from (h.r o).H.2.2.1]
      | 8, _ =>
        by_cases c : (sWo s).1.1 2 = 0
        · refine step_no o 8 (fun M h => ?_) (fun M h => ?_)
          · unfold f_X10_many f_X10_hasNoWeather
            rw [if_neg (by decide), if_neg (by decide), if_neg (by decide), if_neg (by decide), if_neg (by decide), if_neg (by decide), if_pos (by decide), if_pos (by rw [show M.1 9 0 2 = nI ((sWo s).1.1 2) from h.C.1 2 (by decide), c]; rfl)]
            rfl
          · have e8 : (mR M).1 55 0 8 = -1 := by
              have q : (mR M).1 55 0 8 = (if (sWo s).1.1 2 = 0 then -1 else nI ((sWo s).2.1.1 4)) := (h.r o).H.2.2.2.2.1
              rw [q, if_pos c]
            unfold f_X11_many f_X11_many_42
            simp only [mR_e]
            rw [isIn_t (by decide), Option.bind_some, if_neg (by decide), if_neg (by decide), if_pos (by decide)]
            refine (if_pos ?_).trans rfl
            rw [e8]; decide
        · refine step_ans o (nI ((sWo s).2.1.1 4)) (fun M h => ?_) (fun M h => ?_)
          · unfold f_X10_many f_X10_hasNoWeather
            rw [if_neg (by decide), if_neg (by decide), if_neg (by decide), if_neg (by decide), if_neg (by decide), if_neg (by decide), if_pos (by decide), if_neg (by rw [show M.1 9 0 2 = nI ((sWo s).1.1 2) from h.C.1 2 (by decide), nI_z (by omega)]; exact c), Option.bind_some, if_pos rfl, show M.1 20 0 6 = nI ((sWo s).2.1.1 4) from h.H.1 4 (by decide)]
            rfl
          · have e8 : (mR M).1 55 0 8 = nI ((sWo s).2.1.1 4) := by
              have q : (mR M).1 55 0 8 = (if (sWo s).1.1 2 = 0 then -1 else nI ((sWo s).2.1.1 4)) := (h.r o).H.2.2.2.2.1
              rw [q, if_neg c]
            unfold f_X11_many f_X11_many_42
            simp only [mR_e]
            rw [isIn_t (by decide), Option.bind_some, if_neg (by decide), if_neg (by decide), if_pos (by decide)]
            refine (if_neg ?_).trans ?_
            · rw [e8]; exact nI_pos (by omega)
            · rw [inb_nI_t (by decide) (by decide), if_pos rfl, nI_clamp (by decide), e8]
      | 9, _ =>
        refine step_ans o (nI ((sWo s).2.1.1 5)) (fun M h => ?_) (fun M h => ?_)
        · unfold f_X10_many
          rw [if_neg (by decide), if_neg (by decide), if_neg (by decide), if_neg (by decide), if_neg (by decide), if_neg (by decide), if_neg (by decide), if_pos (by decide), show M.1 20 0 7 = nI ((sWo s).2.1.1 5) from h.H.1 5 (by decide)]
          rfl
        · unfold f_X11_many f_X11_many_42
          simp only [mR_e]
          rw [isIn_t (by decide), Option.bind_some, if_neg (by decide), if_neg (by decide), if_neg (by decide), inb_nI_t (by decide) (by decide), if_pos rfl, nI_clamp (by decide), show (mR M).1 55 0 9 = nI ((sWo s).2.1.1 5) from (h.r o).H.2.2.2.2.2.1]
      | 10, _ =>
        refine step_ans o (nI ((sWo s).2.1.1 0)) (fun M h => ?_) (fun M h => ?_)
        · unfold f_X10_many
          rw [if_neg (by decide), if_neg (by decide), if_neg (by decide), if_neg (by decide), if_neg (by decide), if_neg (by decide), if_neg (by decide), if_neg (by decide), if_pos (by decide), show M.1 20 0 2 = nI ((sWo s).2.1.1 0) from h.H.1 0 (by decide)]
          rfl
        · unfold f_X11_many f_X11_many_42
          simp only [mR_e]
          rw [isIn_t (by decide), Option.bind_some, if_neg (by decide), if_neg (by decide), if_neg (by decide), inb_nI_t (by decide) (by decide), if_pos rfl, nI_clamp (by decide), show (mR M).1 55 0 10 = nI ((sWo s).2.1.1 0) from (h.r o).H.1]
      | 11, _ =>
        refine step_ans o (nI ((sWo s).2.1.1 1)) (fun M h => ?_) (fun M h => ?_)
        · unfold f_X10_many
          rw [if_neg (by decide), if_neg (by decide), if_neg (by decide), if_neg (by decide), if_neg (by decide), if_neg (by decide), if_neg (by decide), if_neg (by decide), if_neg (by decide), if_pos (by decide), show M.1 20 0 3 = nI ((sWo s).2.1.1 1) from h.H.1 1 (by decide)]
          rfl
        · unfold f_X11_many f_X11_many_42
          simp only [mR_e]
          rw [isIn_t (by decide), Option.bind_some, if_neg (by decide), if_neg (by decide), if_neg (by decide), inb_nI_t (by decide) (by decide), if_pos rfl, nI_clamp (by decide), show (mR M).1 55 0 11 = nI ((sWo s).2.1.1 1) from (h.r o).H.2.1]
  · refine step_no o 5 (fun M h => ?_) (fun M h => ?_)
    · unfold f_X10_many
      by_cases c : x < 0
      · rw [if_pos c]; rfl
      · rw [if_neg c, if_pos (show (11 : Int32) < x from big_of (n := 11) (by decide) hx c)]; rfl
    · unfold f_X11_many
      simp only [mR_e]
      rw [isIn_f0 (n := 12) (by decide) (by decide) hx]
      rfl
theorem step_lived {s : Sy} (o : OKS s) (x : Int32) : Step s (f_X10_lived x) (f_X11_lived x) := by
  have ex : ∀ M, RX s M → M.1 0 0 12 = (if (sLv s).1 then 1 else 0) := fun M h => h.2.2.2.2.2.2.2.1.1
  have em : ∀ M, RM s M → (mR M).1 50 0 37 = (if (sLv s).1 then 1 else 0) := fun M h => (h.r o).2.2.2.2.2.2.2.1
  rcases arg_in x (n := 5) (by decide) with ⟨j, hj, rfl⟩ | hx
  · have n0 : ¬ nI j < 0 := nI_pos (by omega)
    have n4 : ¬ (4 : Int32) < nI j := by
      show ¬ nI 4 < nI j
      rw [lt_nI (by decide) (by omega)]; omega
    cases hl : (sLv s).1 with
    | false =>
      refine step_no o 8 (fun M h => ?_) (fun M h => ?_)
      · unfold f_X10_lived
        rw [if_neg n0, if_neg n4, if_pos (by rw [ex M h, hl]; rfl)]
        rfl
      · unfold f_X11_lived
        simp only [mR_e]
        rw [isIn_t0 (n := 5) (by decide) (by decide) hj, Option.bind_some, if_neg (by decide)]
        refine (if_pos ?_).trans rfl
        rw [em M h, hl]; rfl
    | true =>
      have vx : ∀ M, RX s M → ∀ j, j < 5 → M.1 44 0 (3 + j) = (sLv s).2 j := fun M h => h.2.2.2.2.2.2.2.1.2 hl
      have vm : ∀ M, RM s M → ∀ j, j < 5 → (mR M).1 63 0 j = (sLv s).2 j := fun M h => (h.r o).2.2.2.2.2.2.2.2 hl
      refine step_ans o ((sLv s).2 j) (fun M h => ?_) (fun M h => ?_)
      · unfold f_X10_lived
        rw [if_neg n0, if_neg n4, if_neg (by rw [ex M h, hl]; decide)]
        have v := vx M h
        match j, hj with
        | 0, _ => rw [if_pos (by decide), show M.1 44 0 3 = (sLv s).2 0 from v 0 (by decide)]; rfl
        | 1, _ => rw [if_neg (by decide), if_pos (by decide), show M.1 44 0 4 = (sLv s).2 1 from v 1 (by decide)]; rfl
        | 2, _ => rw [if_neg (by decide), if_neg (by decide), if_pos (by decide), show M.1 44 0 5 = (sLv s).2 2 from v 2 (by decide)]; rfl
        | 3, _ => rw [if_neg (by decide), if_neg (by decide), if_neg (by decide), if_pos (by decide), show M.1 44 0 6 = (sLv s).2 3 from v 3 (by decide)]; rfl
        | 4, _ =>
          rw [if_neg (by decide), if_neg (by decide), if_neg (by decide), if_neg (by decide), show M.1 44 0 7 = (sLv s).2 4 from v 4 (by decide)]
          rcases o.2.2.2.2.2.2.2.2 hl with e | e
          · rw [e]; rfl
          · rw [e]; rfl
      · unfold f_X11_lived
        simp only [mR_e]
        rw [isIn_t0 (n := 5) (by decide) (by decide) hj, Option.bind_some, if_neg (by decide)]
        refine (if_neg ?_).trans ?_
        · rw [em M h, hl]; decide
        · rw [inb_nI_t hj (by decide), if_pos rfl, nI_clamp (by omega), vm M h j hj]
  · refine step_no o 5 (fun M h => ?_) (fun M h => ?_)
    · unfold f_X10_lived
      by_cases c : x < 0
      · rw [if_pos c]; rfl
      · rw [if_neg c, if_pos (show (4 : Int32) < x from big_of (n := 4) (by decide) hx c)]; rfl
    · unfold f_X11_lived
      simp only [mR_e]
      rw [isIn_f0 (n := 5) (by decide) (by decide) hx]
      rfl
