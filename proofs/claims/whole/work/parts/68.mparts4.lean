/-! ===== jurors, crops on the reference ===== -/
set_option maxHeartbeats 600000 in
theorem j112_b {M : Mem} {x : Int32} {f : Ft} (h : BM M f) : f_X11_readJuror_112 x M = some M := by
  unfold f_X11_readJuror_112
  rw [h.2.1, if_pos h.1]
set_option maxHeartbeats 600000 in
theorem j77_b {M : Mem} {x : Int32} {f : Ft} (h : BM M f) : f_X11_readJuror_77 x M = some M := by
  unfold f_X11_readJuror_77
  rw [h.2.1, if_neg (pos_ne h.1), j112_b h]
set_option maxHeartbeats 600000 in
theorem j42_b {M : Mem} {x : Int32} {f : Ft} (h : BM M f) : f_X11_readJuror_42 x M = some M := by
  unfold f_X11_readJuror_42
  rw [h.2.1, if_neg (pos_ne h.1), j77_b h]
set_option maxHeartbeats 600000 in
theorem RDr.ju {r : Nat → Int32} {K : Co} {l s p x : Int32} (bd : BdK K.1) (hlt : K.1 0 < 10) (h : RDr r K) : RDr (upd (upd (upd (upd (upd r (1912 + K.1 0) l) (1922 + K.1 0) s) (1932 + K.1 0) p) (1942 + K.1 0) l) 1900 x) (addJ K l s p) := by
  obtain ⟨d0, d1, d2, d3⟩ := bd
  obtain ⟨q1, q2, q3, q4, q5, q6, q7, q8, q9⟩ := h
  generalize hJ : K.1 0 = J at hlt d0
  have e3 : ∀ i, ¬ i = 0 → (addJ K l s p).1 i = K.1 i := fun i hi => bump_ne hi
  have e0 : (addJ K l s p).1 0 = J + 1 := by show bump K.1 0 0 = J + 1; rw [bump_at, hJ]
  have e4 : ∀ i j, ¬ i = 0 → ¬ i = 1 → ¬ i = 2 → (addJ K l s p).2 i j = K.2 i j := by
    intro i j h0 h1 h2
    unfold addJ
    simp only
    rw [set2_ne (fun z => h2 z.1), set2_ne (fun z => h1 z.1), set2_ne (fun z => h0 z.1)]
  have e5 : ∀ i j, ¬ j = J → (addJ K l s p).2 i j = K.2 i j := by
    intro i j h0
    unfold addJ
    simp only
    rw [hJ, set2_ne (fun z => h0 z.2), set2_ne (fun z => h0 z.2), set2_ne (fun z => h0 z.2)]
  have v0 : (addJ K l s p).2 0 J = l := by
    unfold addJ
    simp only
    rw [hJ, set2_ne (by omega), set2_ne (by omega), set2_at]
  have v1 : (addJ K l s p).2 1 J = s := by
    unfold addJ
    simp only
    rw [hJ, set2_ne (by omega), set2_at]
  have v2 : (addJ K l s p).2 2 J = p := by
    unfold addJ
    simp only
    rw [hJ, set2_at]
  have g : ∀ k, ¬ k = 1900 → ¬ k = 1912 + J → ¬ k = 1922 + J → ¬ k = 1932 + J → ¬ k = 1942 + J → upd (upd (upd (upd (upd r (1912 + J) l) (1922 + J) s) (1932 + J) p) (1942 + J) l) 1900 x k = r k := fun k h1 h2 h3 h4 h5 => by rw [upd_ne _ _ h1, upd_ne _ _ h5, upd_ne _ _ h4, upd_ne _ _ h3, upd_ne _ _ h2]
  refine ⟨?_, ?_, fun j hj => ?_, fun j h1 h2 => ?_, fun x y hx hy => ?_, fun p hp => ?_, fun w hw => ?_, fun c w hc hw => ?_, fun j hz => ?_⟩
  · rw [g _ (by omega) (by omega) (by omega) (by omega) (by omega), e3 4 (by decide)]; exact q1
  · rw [g _ (by omega) (by omega) (by omega) (by omega) (by omega), e3 5 (by decide)]; exact q2
  · rw [e0] at hj
    by_cases ej : j = J
    · subst ej
      rw [v0, v1, v2]
      refine ⟨?_, ?_, ?_, ?_⟩
      · rw [upd_ne _ _ (by omega), upd_ne _ _ (by omega), upd_ne _ _ (by omega), upd_ne _ _ (by omega), upd_at]
      · rw [upd_ne _ _ (by omega), upd_ne _ _ (by omega), upd_ne _ _ (by omega), upd_at]
      · rw [upd_ne _ _ (by omega), upd_ne _ _ (by omega), upd_at]
      · rw [upd_ne _ _ (by omega), upd_at]
    · rw [g _ (by omega) (by omega) (by omega) (by omega) (by omega), g _ (by omega) (by omega) (by omega) (by omega) (by omega), g _ (by omega) (by omega) (by omega) (by omega) (by omega), g _ (by omega) (by omega) (by omega) (by omega) (by omega), e5 0 j ej, e5 1 j ej, e5 2 j ej]
      exact q3 j (by omega)
  · rw [e0] at h1
    rw [g _ (by omega) (by omega) (by omega) (by omega) (by omega), g _ (by omega) (by omega) (by omega) (by omega) (by omega), g _ (by omega) (by omega) (by omega) (by omega) (by omega)]
    exact q4 j (by omega) h2
  · rw [g _ (by omega) (by omega) (by omega) (by omega) (by omega), e4 3 _ (by decide) (by decide) (by decide)]; exact q5 x y hx hy
  · rw [e3 1 (by decide)] at hp
    rw [g _ (by omega) (by omega) (by omega) (by omega) (by omega), e4 4 _ (by decide) (by decide) (by decide)]; exact q6 p hp
  · rw [e3 2 (by decide)] at hw
    rw [g _ (by omega) (by omega) (by omega) (by omega) (by omega), g _ (by omega) (by omega) (by omega) (by omega) (by omega), e3 _ (by omega), e3 _ (by omega)]; exact q7 w hw
  · rw [g _ (by omega) (by omega) (by omega) (by omega) (by omega), e4 5 _ (by decide) (by decide) (by decide)]; exact q8 c w hc hw
  · have hz2 : (6 ≤ j ∧ j ≤ 11) ∨ (194 ≤ j ∧ j < 475) := hz
    rw [g _ (by omega) (by omega) (by omega) (by omega) (by omega)]; exact q9 j hz
set_option maxHeartbeats 600000 in
theorem partJ_m {P : Nat → Int32} {n : Nat} {M : Mem} {K : Co} {N : Nat → Nat → Int64} {lt : Bool} {t : Tk} (B : BY P n) (h : GM P n M t) (hD : DM M K N lt) : ∃ M', f_X11_readJuror M = some M' ∧ MO P n M M' (partJ P n (K, N, lt) t) := by
  have bd := hD.1.bd
  obtain ⟨q1, a1, f1, g1, k1, z1, w1⟩ := new_y (q := 0) B h hD.1 (by decide)
  unfold f_X11_readJuror
  rw [show f_X11_readNew (0 : Int32) (10 : Int32) M = some q1 from a1, Option.bind_some]
  cases e : newR P n K.1 N 0 t with
  | inl f =>
    obtain ⟨v0, bm⟩ := z1 f e
    rw [bm.2.1, if_neg (pos_ne bm.1), j42_b bm, show partJ P n (K, N, lt) t = .inl f from by simp only [partJ, bnd, e]]
    exact ⟨_, rfl, f1, bm⟩
  | inr x =>
    obtain ⟨v0, G, hlt, N1, ln⟩ := w1 x e
    have hlt6 : K.1 0 < 10 := hlt
    have c1 : M.1 55 0 1900 = nI (K.1 0) := (hD.1 0 (by decide)).1
    obtain ⟨o1, o2, o3⟩ := hD.2.2.2.2.2.1 (K.1 0) (Nat.le_refl _) hlt6
    rw [v0]
    refine opt_m (p := 1912) (J := K.1 0) (i := 1) (R := eithR P n 99) B (r_Leans G.2.1 G.2.2.1) (fun M t h => signed_m B h) rfl (by omega) (by omega) G (by rw [g1]; exact o1) (fun M f h => j42_b h) (fun M' f eo mf bm => ?_) (fun M2 a eo mf G2 r2 k2 l2 => ?_)
    · rw [show partJ P n (K, N, lt) t = .inl f from by simp only [partJ, jurR, bnd, e, eo]]
      exact ⟨f1.tr mf, bm⟩
    have mf2 := f1.tr mf
    unfold f_X11_readJuror_42
    refine opt_m (p := 1922) (J := K.1 0) (i := 3) (R := numR P n 0 20) B (r_Stubborn G2.2.1 G2.2.2.1) (fun M t h => count_m B h) rfl (by omega) (by omega) G2 (by rw [r2, upd_ne _ _ (by omega), g1]; exact o2) (fun M f h => j77_b h) (fun M' f eo2 mf bm => ?_) (fun M3 b eo2 mf G3 r3 k3 l3 => ?_)
    · rw [show partJ P n (K, N, lt) t = .inl f from by simp only [partJ, jurR, bnd, e, eo, eo2]]
      exact ⟨mf2.tr mf, bm⟩
    have mf3 := mf2.tr mf
    unfold f_X11_readJuror_77
    refine opt_m (p := 1932) (J := K.1 0) (i := 4) (R := numR P n 0 99) B (r_Price G3.2.1 G3.2.2.1) (fun M t h => count_m B h) rfl (by omega) (by omega) G3 (by rw [r3, upd_ne _ _ (by omega), r2, upd_ne _ _ (by omega), g1]; exact o3) (fun M f h => j112_b h) (fun M' f eo3 mf bm => ?_) (fun M4 d eo3 mf G4 r4 k4 l4 => ?_)
    · rw [show partJ P n (K, N, lt) t = .inl f from by simp only [partJ, jurR, bnd, e, eo, eo2, eo3]]
      exact ⟨mf3.tr mf, bm⟩
    have mf4 := mf3.tr mf
    unfold f_X11_readJuror_112
    rw [G4.2.2.2, if_neg (show ¬ (0 : Int32) < 0 from by decide), show (1912 : Int32) + nI (K.1 0) = nI (1912 + K.1 0) from add_nI 1912 _, show (1942 : Int32) + nI (K.1 0) = nI (1942 + K.1 0) from add_nI 1942 _, inb_nI_t (show 1912 + K.1 0 < 2375 by omega) (by decide), if_pos rfl, inb_nI_t (show 1942 + K.1 0 < 2375 by omega) (by decide), if_pos rfl, nI_clamp (by omega), nI_clamp (by omega)]
    have row : M4.1 55 0 = upd (upd (upd (M.1 55 0) (1912 + K.1 0) a.2) (1922 + K.1 0) b.2) (1932 + K.1 0) d.2 := by rw [r4, r3, r2, g1]
    have vl : M4.1 55 0 (1912 + K.1 0) = a.2 := by rw [row, upd_ne _ _ (by omega), upd_ne _ _ (by omega), upd_at]
    have v19 : M4.1 55 0 1900 = nI (K.1 0) := by rw [row, upd_ne _ _ (by omega), upd_ne _ _ (by omega), upd_ne _ _ (by omega)]; exact c1
    rw [vl]
    refine ⟨_, rfl, ?_⟩
    rw [show partJ P n (K, N, lt) t = .inr (d.1, addJ K a.2 b.2 d.2, addN N 0 (K.1 0) x.2, lt) from by simp only [partJ, jurR, bnd, e, eo, eo2, eo3]]
    have m57 : M4.2 57 0 = q1.2.2 57 0 := by rw [l4, l3, l2]
    refine ⟨(mf4.tr (McF.C (by omega))).tr (McF.C (by omega)), G4.C.C, bump_m (M := q1.2) N1 (by decide) hlt ?_ (fun p hp hne => ?_) m57 ln, ?_⟩
    · rw [sR_at, show 1900 + 0 = 1900 from rfl, upd_at, sR_at, upd_ne _ _ (by omega), v19]
      exact add_nI (K.1 0) 1
    · rw [sR_at, upd_ne _ _ (by omega), sR_at, upd_ne _ _ (by omega), row, upd_ne _ _ (by omega), upd_ne _ _ (by omega), upd_ne _ _ (by omega), g1]
    · show (sR _ 55 0 _).1 50 0 24 = _ ∧ RDr ((sR _ 55 0 _).1 55 0) _
      rw [sR_ne _ _ _ _ (by omega), sR_ne _ _ _ _ (by omega), sR_at, sR_at, row]
      exact ⟨(((k4.trans k3).trans k2).trans k1).trans hD.2.1, RDr.ju bd hlt6 hD.2.2⟩
