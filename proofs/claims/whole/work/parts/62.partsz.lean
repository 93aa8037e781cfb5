/-! ===== the class reads a court ===== -/
set_option maxHeartbeats 600000 in
theorem growR_cg {P : Nat → Int32} {n q : Nat} {c c' : Nat → Nat} {N N' : Nat → Nat → Int64} (h1 : c' 2 = c 2) (h2 : N' 2 = N 2) : ∀ (m : Nat) (t : Tk) (f : Nat → Nat → Int32), growR P n c' N' q m t f = growR P n c N q m t f
  | 0, _, _ => rfl
  | m + 1, t, f => by
    show (if wdS t = nI 12 then bnd (seeR c' N' 2 (nx P n t)) fun w => bnd (eithR P n 99 (nx P n (nx P n t))) fun v => growR P n c' N' q m v.1 (set2 f 5 (6 * q + w) v.2) else .inr (t, f)) = (if wdS t = nI 12 then bnd (seeR c N 2 (nx P n t)) fun w => bnd (eithR P n 99 (nx P n (nx P n t))) fun v => growR P n c N q m v.1 (set2 f 5 (6 * q + w) v.2) else .inr (t, f))
    have ih := growR_cg (P := P) (n := n) (q := q) h1 h2 m
    simp only [seeR_cg h1 h2, ih]
set_option maxHeartbeats 600000 in
theorem partC_x {P : Nat → Int32} {n : Nat} {M : Mem} {K : Co} {N : Nat → Nat → Int64} {lt : Bool} {t : Tk} (B : BY P n) (mt : MT t) (h : GX P n M t) (h1 : t.2.2.1 = 1) (hD : DX M K N lt) : ∃ r, ((f_X2_needNew 4 (3 : Int32) M).bind fun q2 => if q2.1 = 0 then some ((0 : Int32), q2.2) else (f_X2_readCrop 4 q2.2).bind fun q3 => if q3.1 = 0 then some ((0 : Int32), q3.2) else some ((1 : Int32), q3.2)) = some r ∧ CO P n M r (partC P n (K, N, lt) t) := by
  obtain ⟨r, a, w, k, d⟩ := new_x (q := 3) B h h1 hD.1 (by decide)
  have := B.1
  rw [show f_X2_needNew 4 (3 : Int32) M = some r from a, Option.bind_some]
  cases e : newR P n K.1 N 3 t with
  | inl f =>
    rw [e] at d
    rw [if_pos d.1, show partC P n (K, N, lt) t = .inl f from by simp only [partC, bnd, e]]
    exact ⟨_, rfl, w, rfl, d.2⟩
  | inr x =>
    rw [e] at d
    obtain ⟨d1, d2, d3, d4, d5⟩ := d
    have hJ : K.1 3 < 4 := d4
    have lx := new_le mt e
    have R : DR r.2 (bump K.1 3, K.2) lt := DR.cg (DR.k k hD.2) (fun j hj => bump_ne hj) rfl
    obtain ⟨r2, a2, w2, g⟩ := crop_loop (q := K.1 3) B hJ (n + 1) 0 FU r.2 x.1 (bump K.1 3) K.2 (by omega) (lt_FU (by omega)) (Nat.zero_le _) lx.2 d2 d5 R
    rw [if_neg (by rw [d1]; decide)]
    unfold f_X2_readCrop
    rw [d3, show f_X2_readCrop_8 4 (nI (K.1 3)) FU (0 : Int32) r.2 = some r2 from a2, Option.bind_some]
    rw [growR_cg (c' := bump K.1 3) (N' := addN N 3 (K.1 3) x.2) (c := K.1) (N := N) (bump_ne (by decide)) (by unfold addN; funext i; exact if_neg (fun z => absurd z.1 (by decide)))] at g
    cases e2 : growR P n K.1 N (K.1 3) (n + 1) x.1 K.2 with
    | inl f =>
      rw [e2] at g
      rw [if_pos g.1, show partC P n (K, N, lt) t = .inl f from by simp only [partC, bnd, e, e2]]
      exact ⟨_, rfl, w.tr w2, rfl, g.2⟩
    | inr y =>
      rw [e2] at g
      obtain ⟨g1, g2, g3, g4⟩ := g
      rw [if_neg (by rw [g1]; decide), show partC P n (K, N, lt) t = .inr (y.1, (bump K.1 3, y.2), addN N 3 (K.1 3) x.2, lt) from by simp only [partC, bnd, e, e2]]
      exact ⟨_, rfl, w.tr w2, rfl, g2, g3, g4⟩
set_option maxHeartbeats 600000 in
theorem DR.two {M : Mem} {K : Co} {lt lt' : Bool} {j p : Nat} {v : Nat} (hj : j = 4 ∧ p = 11 ∨ j = 5 ∧ p = 12) (h : DR M K lt) {M' : Mem} (e8 : M'.1 8 4 = upd (M.1 8 4) p (nI v)) (e3 : M'.1 33 0 0 = (if lt' then 1 else 0)) (er : ∀ c, 9 ≤ c → c ≤ 19 → M'.1 c 4 = M.1 c 4) : DR M' (updN K.1 j v, K.2) lt' := by
  obtain ⟨q1, q2, q3, q4, q5, q6, q7, q8, q9⟩ := h
  have n0 : ∀ i, ¬ i = j → (updN K.1 j v) i = K.1 i := fun i hi => updN_ne _ _ hi
  refine ⟨?_, ?_, e3, fun i hi => ?_, fun x y hx hy => ?_, fun y hy => ?_, fun p hp => ?_, fun u hu => ?_, fun c u hc hu => ?_⟩
  · dsimp only
    rw [e8]
    rcases hj with ⟨h1, h2⟩ | ⟨h1, h2⟩
    · rw [h1, h2, upd_at]; rfl
    · rw [h2, upd_ne (i := 12) (j := 11) _ _ (by decide), n0 4 (by omega)]; exact q1
  · dsimp only
    rw [e8]
    rcases hj with ⟨h1, h2⟩ | ⟨h1, h2⟩
    · rw [h2, upd_ne (i := 11) (j := 12) _ _ (by decide), n0 5 (by omega)]; exact q2
    · rw [h1, h2, upd_at]; rfl
  · have hi : i < (updN K.1 j v) 0 := hi
    rw [n0 0 (by omega)] at hi
    rw [er 11 (by decide) (by decide), er 12 (by decide) (by decide), er 13 (by decide) (by decide)]
    exact q4 i hi
  · rw [er 14 (by decide) (by decide)]; exact q5 x y hx hy
  · rw [er 15 (by decide) (by decide)]; exact q6 y hy
  · have hp : p < (updN K.1 j v) 1 := hp
    rw [n0 1 (by omega)] at hp
    rw [er 16 (by decide) (by decide)]; exact q7 p hp
  · have hu : u < (updN K.1 j v) 2 := hu
    rw [n0 2 (by omega)] at hu
    dsimp only
    rw [er 17 (by decide) (by decide), er 18 (by decide) (by decide), n0 _ (by omega), n0 _ (by omega)]; exact q8 u hu
  · rw [er 19 (by decide) (by decide)]; exact q9 c u hc hu
set_option maxHeartbeats 600000 in
theorem fail5 {M : Mem} {P : Nat → Int32} {n : Nat} {t : Tk} {why : Int32} (h : GX P n M t) (h1 : ¬ t.2.2.1 = 4) (hw : ¬ why = 0) : ∃ r, ((f_X5_fail why M).bind fun q => if isB q.1 = true then some (q.1, q.2) else none) = some r ∧ XFr M r.2 ∧ r.1 = 0 ∧ BX r.2 (why, t.1) := by
  obtain ⟨M', a, b, d⟩ := fail_b (why := why) h.2.2.2 h.2.1 h.2.2.1.2.2.1 hw
  rw [show badK t why = (why, t.1) from by unfold badK; rw [if_neg h1]] at d
  exact ⟨_, a, b, rfl, d⟩
set_option maxHeartbeats 600000 in
theorem partH_x {P : Nat → Int32} {n : Nat} {M : Mem} {K : Co} {N : Nat → Nat → Int64} {lt : Bool} {t : Tk} (B : BY P n) (h : GX P n M t) (h1 : t.2.2.1 = 1) (h4 : K.1 4 ≤ 99) (hD : DX M K N lt) : ∃ r, f_X2_readHunger 4 M = some r ∧ CO P n M r (partH P n (K, N, lt) t) := by
  unfold f_X2_readHunger
  rw [hD.2.1]
  by_cases c : K.1 4 = 0
  · rw [if_neg (show ¬ (0 : Int32) < nI (K.1 4) from by rw [c]; decide)]
    obtain ⟨M1, a1, b1, d1⟩ := adv_x B h
    rw [a1, Option.bind_some]
    refine chn (OXv.y (needN_x (lo := 1) (hi := 99) B d1)) (fun M' f eo fx bx => ?_) (fun q v eo x g => ?_)
    · rw [show partH P n (K, N, lt) t = .inl f from by simp only [partH, bnd, eo]; exact if_neg (fun z => z c)]
      exact ⟨(b1.x.tr fx).w, rfl, bx⟩
    obtain ⟨g, vv⟩ := g
    have F := b1.x.tr x
    rw [vv, show partH P n (K, N, lt) t = .inr (v.1, (updN K.1 4 v.2.toNatClampNeg, K.2), N, lt) from by simp only [partH, bnd, eo]; exact if_neg (fun z => z c)]
    obtain ⟨-, -, z1, z2⟩ := num_inv eo
    have ev : v.2 = nI v.2.toNatClampNeg := by
      rcases arg_cases v.2 with q | ⟨i, hi, e⟩
      · exfalso
        apply z1
        rw [Int32.lt_iff_toInt_lt] at q ⊢
        have e0 : (0 : Int32).toInt = 0 := by decide
        have e1 : (1 : Int32).toInt = 1 := by decide
        omega
      · rw [e, nI_clamp hi]
    have R := DR.k F.k hD.2
    refine ⟨_, rfl, F.w.tr (CtF.R (by omega)), rfl, g.sR (by omega), NX.cg (c := K.1) (CtF.N0 (by rw [sR_ne _ _ _ _ (by omega)]) rfl (F.N hD.1)) (fun q hq => updN_ne _ _ (by omega)), ?_⟩
    refine DR.two (p := 11) (Or.inl ⟨rfl, rfl⟩) R ?_ ?_ (fun c h1 h2 => sR_ne _ _ _ _ (by omega))
    · rw [sR_at, ← ev]
    · rw [sR_ne _ _ _ _ (by omega)]; exact R.2.2.1
  · rw [if_pos (show (0 : Int32) < nI (K.1 4) from by show nI 0 < _; rw [lt_nI (by omega) (by omega)]; omega)]
    obtain ⟨r, a, b, d⟩ := fail5 (why := 5) h (by omega) (by decide)
    rw [show partH P n (K, N, lt) t = .inl (5, t.1) from if_pos c]
    exact ⟨r, a, b.w, d⟩
set_option maxHeartbeats 600000 in
theorem partL_x {P : Nat → Int32} {n : Nat} {M : Mem} {K : Co} {N : Nat → Nat → Int64} {lt : Bool} {t : Tk} (B : BY P n) (h : GX P n M t) (h1 : t.2.2.1 = 1) (hD : DX M K N lt) : ∃ r, f_X2_readLaw 4 M = some r ∧ CO P n M r (partL P n (K, N, lt) t) := by
  unfold f_X2_readLaw
  rw [hD.2.2.2.1]
  cases lt with
  | true =>
    rw [if_neg (by decide)]
    obtain ⟨r, a, b, d⟩ := fail5 (why := 5) h (by omega) (by decide)
    rw [show partL P n (K, N, true) t = .inl (5, t.1) from if_pos rfl]
    exact ⟨r, a, b.w, d⟩
  | false =>
    rw [if_pos (by decide)]
    have W : CtF M (sR M 33 0 (upd (M.1 33 0) 0 (1 : Int32))) := ⟨fun c i h1 h2 h3 => ⟨sR_ne _ _ _ _ (fun z => h3 z.1), rfl⟩, fun j hj => by rw [sR_ne _ _ _ _ (by omega)]⟩
    have G1 : GX P n (sR M 33 0 (upd (M.1 33 0) 0 (1 : Int32))) t := by
      obtain ⟨g1, g2, g3, g4⟩ := h
      refine ⟨W.T g1, ?_, g3, ?_⟩
      · unfold TkX at g2 ⊢
        rw [sR_ne _ _ _ _ (by omega)]
        exact g2
      · rw [sR_ne _ _ _ _ (by omega)]; exact g4
    have e33 : (sR M 33 0 (upd (M.1 33 0) 0 (1 : Int32))).1 33 0 0 = 1 := by rw [sR_at, upd_at]
    have er : ∀ c, 8 ≤ c → c ≤ 19 → (sR M 33 0 (upd (M.1 33 0) 0 (1 : Int32))).1 c 4 = M.1 c 4 := fun c _ _ => sR_ne _ _ _ _ (by omega)
    have N1 : NX (sR M 33 0 (upd (M.1 33 0) 0 (1 : Int32))) 4 K.1 N := CtF.N0 (er 9 (by decide) (by decide)) rfl hD.1
    simp only
    generalize sR M 33 0 (upd (M.1 33 0) 0 (1 : Int32)) = M1 at W G1 e33 er N1 ⊢
    obtain ⟨M2, a2, b2, d2⟩ := adv_x B G1
    rw [a2, Option.bind_some, word_sp d2.2.1 d2.2.2.1.2.2.1, Option.bind_some]
    have go : ∀ v : Nat, ∃ r, ((f_X5_advance (sR M2 8 4 (upd (M2.1 8 4) 12 (nI v)))).bind fun M9 => some ((1 : Int32), M9)) = some r ∧ CO P n M r (.inr (nx P n (nx P n t), (updN K.1 5 v, K.2), N, true)) := by
      intro v
      obtain ⟨M9, a9, b9, d9⟩ := adv_x B (d2.sR (c := 8) (f := upd (M2.1 8 4) 12 (nI v)) (by omega))
      rw [a9, Option.bind_some]
      refine ⟨_, rfl, ((W.tr b2.x.w).tr (CtF.R (by omega))).tr b9.x.w, rfl, d9, ?_, ?_⟩
      · exact b9.x.N (NX.cg (c := K.1) (CtF.N0 (by rw [sR_ne _ _ _ _ (by omega)]) rfl (b2.x.N N1)) (fun q hq => updN_ne _ _ (by omega)))
      · refine DR.k b9.x.k (DR.two (p := 12) (Or.inr ⟨rfl, rfl⟩) hD.2 ?_ ?_ (fun c h1 h2 => ?_))
        · rw [sR_at, (b2.1 8 4 (by omega)).1, er 8 (by decide) (by decide)]
        · rw [sR_ne _ _ _ _ (by omega), (b2.1 33 0 (by omega)).1]; exact e33
        · rw [sR_ne _ _ _ _ (by omega), (b2.1 c 4 (by omega)).1, er c (by omega) h2]
    have es : partL P n (K, N, false) t = if wdS (nx P n t) = nI 15 then .inr (nx P n (nx P n t), (updN K.1 5 0, K.2), N, true) else if wdS (nx P n t) = nI 16 then .inr (nx P n (nx P n t), (updN K.1 5 1, K.2), N, true) else if wdS (nx P n t) = nI 17 then .inr (nx P n (nx P n t), (updN K.1 5 2, K.2), N, true) else .inl (badK (nx P n t) 2) := rfl
    rw [es]
    by_cases c1 : wdS (nx P n t) = nI 15
    · rw [if_pos (show wdS (nx P n t) = (15 : Int32) from c1), if_pos c1]
      unfold f_X2_readLaw_51
      rw [if_pos (show wdS (nx P n t) = (15 : Int32) from c1)]
      exact go 0
    · rw [if_neg (show ¬ wdS (nx P n t) = (15 : Int32) from c1), if_neg c1]
      by_cases c2 : wdS (nx P n t) = nI 16
      · rw [if_pos (show wdS (nx P n t) = (16 : Int32) from c2), if_pos c2]
        unfold f_X2_readLaw_51
        rw [if_neg (show ¬ wdS (nx P n t) = (15 : Int32) from c1), if_pos (show wdS (nx P n t) = (16 : Int32) from c2)]
        exact go 1
      · rw [if_neg (show ¬ wdS (nx P n t) = (16 : Int32) from c2), if_neg c2]
        by_cases c3 : wdS (nx P n t) = nI 17
        · rw [if_pos (show wdS (nx P n t) = (17 : Int32) from c3), if_pos c3]
          unfold f_X2_readLaw_51
          rw [if_neg (show ¬ wdS (nx P n t) = (15 : Int32) from c1), if_neg (show ¬ wdS (nx P n t) = (16 : Int32) from c2)]
          exact go 2
        · rw [if_neg (show ¬ wdS (nx P n t) = (17 : Int32) from c3), if_neg c3]
          obtain ⟨M', a, b, d⟩ := fail_b (why := 2) d2.2.2.2 d2.2.1 d2.2.2.1.2.2.1 (by decide)
          exact ⟨_, a, (W.tr b2.x.w).tr b.w, rfl, d⟩
