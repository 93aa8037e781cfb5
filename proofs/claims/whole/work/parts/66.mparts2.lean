/-! ===== follows, hunger, law on the reference ===== -/
set_option maxHeartbeats 600000 in
theorem word_t (l : Int64) (M : Mem) : ∃ r, f_X11_isWord l M = some r ∧ isB r = true := by
  unfold f_X11_isWord
  split
  · split
    · exact ⟨_, rfl, by decide⟩
    · exact ⟨_, rfl, by decide⟩
  · exact ⟨_, rfl, by decide⟩
set_option maxHeartbeats 600000 in
theorem guilty_t (M : Mem) : ∃ r, f_X11_isGuilty M = some r := by
  unfold f_X11_isGuilty
  rw [spw_guilty, Option.bind_some]
  obtain ⟨r, a, b⟩ := word_t (Int64.ofNat 256518553) M
  have e : ∀ l, ∃ r, ((f_X11_isWord l M).bind fun r2 => if isB r2 = true then some r2 else none) = some r := by
    intro l
    obtain ⟨r, a, b⟩ := word_t l M
    rw [a, Option.bind_some, if_pos b]
    exact ⟨_, rfl⟩
  exact e _
set_option maxHeartbeats 600000 in
theorem free_t (M : Mem) : ∃ r, f_X11_isFree M = some r := by
  unfold f_X11_isFree
  rw [spw_free, Option.bind_some]
  have e : ∀ l, ∃ r, ((f_X11_isWord l M).bind fun r2 => if isB r2 = true then some r2 else none) = some r := by
    intro l
    obtain ⟨r, a, b⟩ := word_t l M
    rw [a, Option.bind_some, if_pos b]
    exact ⟨_, rfl⟩
  exact e _
set_option maxHeartbeats 600000 in
theorem wdm_y {M : Mem} {P : Nat → Int32} {n i : Nat} {t : Tk} (B : BY P n) (h : GM P n M t) : ∃ M', f_X11_must (iw (wdS t) i) M = some M' ∧ YFr M M' ∧ (∀ f, wdR P n i t = .inl f → BM M' f) ∧ ∀ t', wdR P n i t = .inr t' → GM P n M' t' := by
  obtain ⟨r, a, b, d⟩ := wdm_m (i := i) B h
  exact ⟨r, a, b, fun f e => by rw [e] at d; exact d, fun i e => by rw [e] at d; exact d⟩
set_option maxHeartbeats 600000 in
theorem partF_m {P : Nat → Int32} {n : Nat} {M : Mem} {K : Co} {N : Nat → Nat → Int64} {lt : Bool} {t : Tk} (B : BY P n) (h : GM P n M t) (hD : DM M K N lt) : ∃ M', f_X11_readFollows M = some M' ∧ MO P n M M' (partF P n (K, N, lt) t) := by
  have bd := hD.1.bd
  have b2' := bd.2.2.1
  obtain ⟨M1, a1, b1, d1⟩ := nx_m B h
  unfold f_X11_readFollows
  rw [a1, Option.bind_some]
  obtain ⟨q2, a2, y2, z2, w2⟩ := rtold_y (x := 4) (q := 2) B d1 (b1.y.N hD.1) (by decide) (by decide)
  rw [show f_X11_readTold (4 : Int32) (2 : Int32) M1 = some q2 from a2, Option.bind_some]
  have F2 := b1.y.tr y2
  have bad6 : ∀ (M' : Mem) (f : Ft) (v : Int32) (x : Int32), BM M' f → ∃ r, ((f_X11_isFree M').bind fun r6 => (f_X11_must r6 M').bind fun M7 => (f_X11_readTold (4 : Int32) (2 : Int32) M7).bind fun q8 => if 0 < (q8.2.1 50 0 12) then some q8.2 else if inb ((2058 : Int32) + x) 2375 = true then (let M10 := sR q8.2 55 0 (upd (q8.2.1 55 0) (((2058 : Int32) + x).toNatClampNeg) v); if inb ((2064 : Int32) + x) 2375 = true then (let M12 := sR M10 55 0 (upd (M10.1 55 0) (((2064 : Int32) + x).toNatClampNeg) q8.1); some M12) else none) else none) = some r ∧ r = M' := by
    intro M' f v x bm
    obtain ⟨r6, a6⟩ := free_t M'
    rw [a6, Option.bind_some, must_b bm, Option.bind_some, rtold_b bm, Option.bind_some]
    simp only
    rw [bm.2.1, if_pos bm.1]
    exact ⟨_, rfl, rfl⟩
  cases eo : seeR K.1 N 2 (nx P n t) with
  | inl f =>
    have bm := z2 f eo
    obtain ⟨r3, a3⟩ := guilty_t q2.2
    rw [a3, Option.bind_some, must_b bm, Option.bind_some, rtold_b bm, Option.bind_some, show partF P n (K, N, lt) t = .inl f from by simp only [partF, bnd, eo]]
    obtain ⟨r, a, b⟩ := bad6 q2.2 f 0 q2.1 bm
    subst b
    exact ⟨_, a, F2.r, bm⟩
  | inr a =>
    obtain ⟨g2, va, ha⟩ := w2 a eo
    obtain ⟨M4, a4, y4, z4, w4⟩ := wdm_y (i := 9) B g2
    rw [r_Guilty g2.2.1 g2.2.2.1, Option.bind_some, a4, Option.bind_some]
    have F4 := F2.tr y4
    cases eo2 : wdR P n 9 (nx P n (nx P n t)) with
    | inl f =>
      have bm := z4 f eo2
      rw [rtold_b bm, Option.bind_some, show partF P n (K, N, lt) t = .inl f from by simp only [partF, bnd, eo, eo2]]
      obtain ⟨r, a, b⟩ := bad6 M4 f 0 q2.1 bm
      subst b
      exact ⟨_, a, F4.r, bm⟩
    | inr t3 =>
      have g4 := w4 t3 eo2
      obtain ⟨q5, a5, y5, z5, w5⟩ := rtold_y (x := 4) (q := 2) B g4 (F4.N hD.1) (by decide) (by decide)
      rw [show f_X11_readTold (4 : Int32) (2 : Int32) M4 = some q5 from a5, Option.bind_some]
      have F5 := F4.tr y5
      cases eo3 : seeR K.1 N 2 t3 with
      | inl f =>
        have bm := z5 f eo3
        rw [show partF P n (K, N, lt) t = .inl f from by simp only [partF, bnd, eo, eo2, eo3]]
        obtain ⟨r, a, b⟩ := bad6 q5.2 f q5.1 q2.1 bm
        subst b
        exact ⟨_, a, F5.r, bm⟩
      | inr b =>
        obtain ⟨g5, vb, hb⟩ := w5 b eo3
        obtain ⟨M7, a7, y7, z7, w7⟩ := wdm_y (i := 10) B g5
        rw [r_Free g5.2.1 g5.2.2.1, Option.bind_some, a7, Option.bind_some]
        have F7 := F5.tr y7
        cases eo4 : wdR P n 10 (nx P n t3) with
        | inl f =>
          have bm := z7 f eo4
          rw [rtold_b bm, Option.bind_some]
          simp only
          rw [bm.2.1, if_pos bm.1, show partF P n (K, N, lt) t = .inl f from by simp only [partF, bnd, eo, eo2, eo3, eo4]]
          exact ⟨_, rfl, F7.r, bm⟩
        | inr t5 =>
          have g7 := w7 t5 eo4
          obtain ⟨q8, a8, y8, z8, w8⟩ := rtold_y (x := 4) (q := 2) B g7 (F7.N hD.1) (by decide) (by decide)
          rw [show f_X11_readTold (4 : Int32) (2 : Int32) M7 = some q8 from a8, Option.bind_some]
          have F8 := F7.tr y8
          cases eo5 : seeR K.1 N 2 t5 with
          | inl f =>
            have bm := z8 f eo5
            rw [bm.2.1, if_pos bm.1, show partF P n (K, N, lt) t = .inl f from by simp only [partF, bnd, eo, eo2, eo3, eo4, eo5]]
            exact ⟨_, rfl, F8.r, bm⟩
          | inr d =>
            obtain ⟨g8, vd, hd⟩ := w8 d eo5
            rw [g8.2.2.2, if_neg (show ¬ (0 : Int32) < 0 from by decide), va, vb, vd, show (2058 : Int32) + nI a = nI (2058 + a) from add_nI 2058 a, show (2064 : Int32) + nI a = nI (2064 + a) from add_nI 2064 a, inb_nI_t (show 2058 + a < 2375 by omega) (by decide), if_pos rfl, inb_nI_t (show 2064 + a < 2375 by omega) (by decide), if_pos rfl, nI_clamp (by omega), nI_clamp (by omega), show partF P n (K, N, lt) t = .inr (nx P n t5, folK K a b d, N, lt) from by simp only [partF, bnd, eo, eo2, eo3, eo4, eo5]]
            have R := RD.y F8 hD.2
            refine ⟨_, rfl, (F8.r.tr (McF.C (by omega))).tr (McF.C (by omega)), g8.C.C, (F8.N hD.1).cg (fun q hq => fol_N hq) (fun q hq => by rw [sR_at, upd_ne _ _ (by omega), sR_at, upd_ne _ _ (by omega)]) rfl, ?_⟩
            show (sR _ 55 0 _).1 50 0 24 = _ ∧ RDr ((sR _ 55 0 _).1 55 0) _
            rw [sR_ne _ _ _ _ (by omega), sR_ne _ _ _ _ (by omega), sR_at, sR_at]
            refine ⟨R.1, RDr.cg (RDr.fo (b := b) (d := d) (c2 := K.1 2) bd (show a < 6 by omega) b2' R.2 (fun w hw _ => R.2.2.2.2.2.2.2.1 w hw)) (fun j hj => ?_) rfl⟩
            unfold folK
            simp only
            by_cases ej : j = 2
            · subst ej
              rw [if_neg (by omega), if_neg (by omega), if_neg (by omega), if_neg (by omega)]
              rfl
            · rw [updN_ne _ _ ej]
set_option maxHeartbeats 600000 in
theorem partH_m {P : Nat → Int32} {n : Nat} {M : Mem} {K : Co} {N : Nat → Nat → Int64} {lt : Bool} {t : Tk} (B : BY P n) (h : GM P n M t) (h4 : K.1 4 ≤ 99) (hD : DM M K N lt) : ∃ M', f_X11_readHunger M = some M' ∧ MO P n M M' (partH P n (K, N, lt) t) := by
  have bd := hD.1.bd
  unfold f_X11_readHunger
  rw [hD.2.2.1]
  by_cases c : K.1 4 = 0
  · rw [if_neg (show ¬ (0 : Int32) < nI (K.1 4) from by rw [c]; decide)]
    unfold f_X11_readHunger_20
    rw [h.2.2.2, if_neg (show ¬ (0 : Int32) < 0 from by decide)]
    obtain ⟨M1, a1, b1, d1⟩ := nx_m B h
    rw [a1, Option.bind_some]
    obtain ⟨q, a, y, z, w⟩ := OMv.y (count_m (lo := 1) (hi := 99) B d1)
    rw [a, Option.bind_some]
    have F := b1.y.tr y
    cases eo : numR P n 1 99 (nx P n t) with
    | inl f =>
      have bm := z f eo
      rw [show partH P n (K, N, lt) t = .inl f from by simp only [partH, bnd, eo]; exact if_neg (fun z => z c)]
      exact ⟨_, rfl, F.r.tr (McF.C (by omega)), bm.C⟩
    | inr v =>
      obtain ⟨g, vv⟩ := w v eo
      rw [vv, show partH P n (K, N, lt) t = .inr (v.1, (updN K.1 4 v.2.toNatClampNeg, K.2), N, lt) from by simp only [partH, bnd, eo]; exact if_neg (fun z => z c)]
      obtain ⟨-, -, z1, z2⟩ := num_inv eo
      have ev : v.2 = nI v.2.toNatClampNeg := by
        rcases arg_cases v.2 with q | ⟨i, hi, e⟩
        · exfalso
          apply z1
          rw [Int32.lt_iff_toInt_lt] at q ⊢
          have e0 : (0 : Int32).toInt = 0 := by decide
          have e1 : (1 : Int32).toInt = 1 := by decide
          omega
        · rw [e, nI_clamp hi]
      have R := RD.y F hD.2
      refine ⟨_, rfl, F.r.tr (McF.C (by omega)), g.C, (F.N hD.1).cg (fun q hq => updN_ne _ _ (by omega)) (fun q hq => by rw [sR_at, upd_ne _ _ (by omega)]) rfl, ?_⟩
      show (sR _ 55 0 _).1 50 0 24 = _ ∧ RDr ((sR _ 55 0 _).1 55 0) _
      rw [sR_ne _ _ _ _ (by omega), sR_at]
      refine ⟨R.1, ?_⟩
      have := RDr.two (v := v.2.toNatClampNeg) (p := 1904) bd (Or.inl ⟨rfl, rfl⟩) R.2
      rw [← ev] at this
      exact this
  · rw [if_pos (show (0 : Int32) < nI (K.1 4) from by show nI 0 < _; rw [lt_nI (by omega) (by omega)]; omega)]
    obtain ⟨M', a, b, d⟩ := fail_m (why := 5) h.2.2.2 h.2.1 (by decide)
    rw [a, Option.bind_some]
    unfold f_X11_readHunger_20
    rw [d.2.1, if_pos d.1, show partH P n (K, N, lt) t = .inl (5, t.1) from if_pos c]
    exact ⟨_, rfl, b.r, d⟩
set_option maxHeartbeats 600000 in
theorem partL_m {P : Nat → Int32} {n : Nat} {M : Mem} {K : Co} {N : Nat → Nat → Int64} {lt : Bool} {t : Tk} (B : BY P n) (h : GM P n M t) (hD : DM M K N lt) : ∃ M', f_X11_readLaw M = some M' ∧ MO P n M M' (partL P n (K, N, lt) t) := by
  have bd := hD.1.bd
  unfold f_X11_readLaw
  rw [hD.2.1]
  cases lt with
  | true =>
    rw [if_neg (by decide)]
    obtain ⟨M', a, b, d⟩ := fail_m (why := 5) h.2.2.2 h.2.1 (by decide)
    rw [a, Option.bind_some]
    unfold f_X11_readLaw_16
    rw [d.2.1, if_pos d.1, show partL P n (K, N, true) t = .inl (5, t.1) from if_pos rfl]
    exact ⟨_, rfl, b.r, d⟩
  | false =>
    rw [if_pos (by decide)]
    unfold f_X11_readLaw_16
    rw [h.2.2.2, if_neg (show ¬ (0 : Int32) < 0 from by decide)]
    simp only
    have W : McF M (sR M 50 0 (upd (M.1 50 0) 24 (1 : Int32))) := ⟨fun c i h1 _ => sR_ne _ _ _ _ h1, fun _ _ _ _ => rfl, fun j h1 h2 => by rw [sR_at, upd_ne _ _ h2], fun _ _ => rfl, fun j hj => by rw [sR_ne _ _ _ _ (by omega)], fun _ _ => rfl⟩
    have G1 : GM P n (sR M 50 0 (upd (M.1 50 0) 24 (1 : Int32))) t := by
      obtain ⟨⟨h1, h2, h3⟩, h4, h5, h6⟩ := h
      refine ⟨⟨?_, fun j hj => ?_, h3⟩, ?_, h5, ?_⟩
      · rw [sR_at, upd_ne _ _ (by decide)]; exact h1
      · rw [sR_ne _ _ _ _ (by omega)]; exact h2 j hj
      · unfold TkM at h4 ⊢
        rw [sR_at, upd_ne (i := 24) (j := 15) _ _ (by decide), upd_ne (i := 24) (j := 16) _ _ (by decide), upd_ne (i := 24) (j := 14) _ _ (by decide), upd_ne (i := 24) (j := 18) _ _ (by decide), upd_ne (i := 24) (j := 17) _ _ (by decide)]
        exact h4
      · rw [sR_at, upd_ne _ _ (by decide)]; exact h6
    have e24 : (sR M 50 0 (upd (M.1 50 0) 24 (1 : Int32))).1 50 0 24 = 1 := by rw [sR_at, upd_at]
    have e55 : (sR M 50 0 (upd (M.1 50 0) 24 (1 : Int32))).1 55 0 = M.1 55 0 := sR_ne _ _ _ _ (by omega)
    have e57 : (sR M 50 0 (upd (M.1 50 0) 24 (1 : Int32))).2 57 0 = M.2 57 0 := rfl
    generalize sR M 50 0 (upd (M.1 50 0) 24 (1 : Int32)) = M1 at W G1 e24 e55 e57 ⊢
    obtain ⟨M2, a2, b2, d2⟩ := nx_m B G1
    rw [a2, Option.bind_some, r_lawWord d2.2.1 d2.2.2.1, Option.bind_some]
    have g4 : ∀ f, GM P n (sR M2 55 0 f) (nx P n t) := fun f => d2.C
    rw [r_lawWord (g4 _).2.1 d2.2.2.1, Option.bind_some]
    have k55 : M2.1 55 0 = M.1 55 0 := (b2.1 55 0 (by omega)).1.trans e55
    have k57 : M2.2 57 0 = M.2 57 0 := (b2.1 57 0 (by omega)).2.trans e57
    have k24 : M2.1 50 0 24 = 1 := (b2.2.1 24 (by omega)).trans e24
    have W2 := W.tr b2.y.r
    have good : ∀ v : Nat, jmax 0 (nI v) = nI v → ∃ M', ((f_X11_must (1 : Int32) (sR M2 55 0 (upd (M2.1 55 0) 1905 (jmax 0 (nI v))))).bind fun M7 => some M7) = some M' ∧ MO P n M M' (.inr (nx P n (nx P n t), (updN K.1 5 v, K.2), N, true)) := by
      intro v ev
      obtain ⟨M7, a7, b7, d7⟩ := must_m (r := 1) B (g4 (upd (M2.1 55 0) 1905 (jmax 0 (nI v))))
      rw [if_neg (show ¬ (1 : Int32) = 0 from by decide)] at d7
      rw [a7, Option.bind_some]
      refine ⟨_, rfl, (W2.tr (McF.C (by omega))).tr b7.r, d7, b7.N (hD.1.cg (M' := sR M2 55 0 (upd (M2.1 55 0) 1905 (jmax 0 (nI v)))) (fun q hq => updN_ne _ _ (by omega)) (fun q hq => by rw [sR_at, upd_ne _ _ (by omega), k55]) k57), RD.y b7 ?_⟩
      show (sR _ 55 0 _).1 50 0 24 = _ ∧ RDr ((sR _ 55 0 _).1 55 0) _
      rw [sR_ne _ _ _ _ (by omega), sR_at, k24, k55, ev]
      exact ⟨rfl, RDr.two (p := 1905) bd (Or.inr ⟨rfl, rfl⟩) hD.2.2⟩
    have es : partL P n (K, N, false) t = if wdS (nx P n t) = nI 15 then .inr (nx P n (nx P n t), (updN K.1 5 0, K.2), N, true) else if wdS (nx P n t) = nI 16 then .inr (nx P n (nx P n t), (updN K.1 5 1, K.2), N, true) else if wdS (nx P n t) = nI 17 then .inr (nx P n (nx P n t), (updN K.1 5 2, K.2), N, true) else .inl (badK (nx P n t) 2) := rfl
    rw [es]
    unfold lawV
    by_cases c1 : wdS (nx P n t) = nI 15
    · rw [if_pos c1, if_pos c1, if_neg (show ¬ (0 : Int32) < 0 from by decide)]
      exact good 0 (jmax_nI (by omega))
    · rw [if_neg c1, if_neg c1]
      by_cases c2 : wdS (nx P n t) = nI 16
      · rw [if_pos c2, if_pos c2, if_neg (show ¬ (1 : Int32) < 0 from by decide)]
        exact good 1 (jmax_nI (by omega))
      · rw [if_neg c2, if_neg c2]
        by_cases c3 : wdS (nx P n t) = nI 17
        · rw [if_pos c3, if_pos c3, if_neg (show ¬ (2 : Int32) < 0 from by decide)]
          exact good 2 (jmax_nI (by omega))
        · rw [if_neg c3, if_neg c3, if_pos (show (-1 : Int32) < 0 from by decide)]
          obtain ⟨M7, a7, b7, d7⟩ := must_m (r := 0) B (g4 (upd (M2.1 55 0) 1905 (jmax 0 (-1))))
          rw [if_pos (show (0 : Int32) = 0 from rfl)] at d7
          rw [a7, Option.bind_some]
          exact ⟨_, rfl, (W2.tr (McF.C (by omega))).tr b7.r, d7⟩
