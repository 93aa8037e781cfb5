/-! ===== the other parts of a court on the class ===== -/
set_option maxHeartbeats 600000 in
theorem chn {α : Type} {F : Option (Int32 × Mem)} {K : Int32 × Mem → Option (Int32 × Mem)} {o : Ft ⊕ α} {G : Int32 × Mem → α → Prop} {Q : Int32 × Mem → Prop} {M : Mem} (h : ∃ r, F = some r ∧ XFr M r.2 ∧ (∀ f, o = .inl f → r.1 = 0 ∧ BX r.2 f) ∧ ∀ i, o = .inr i → r.1 = 1 ∧ G r i)
    (bad : ∀ M' f, o = .inl f → XFr M M' → BX M' f → Q (0, M')) (good : ∀ (q : Int32 × Mem) i, o = .inr i → XFr M q.2 → G q i → ∃ r, K q = some r ∧ Q r) : ∃ r, (F.bind fun q => if q.1 = 0 then some ((0 : Int32), q.2) else K q) = some r ∧ Q r := by
  obtain ⟨r, a, b, d⟩ := h
  rw [a, Option.bind_some]
  cases e : o with
  | inl f =>
    have d1 := d.1 f e
    rw [if_pos d1.1]
    exact ⟨_, rfl, bad r.2 f e b d1.2⟩
  | inr i =>
    have d1 := d.2 i e
    rw [if_neg (by rw [d1.1]; decide)]
    exact good r i e b d1.2
set_option maxHeartbeats 600000 in
theorem known_y {M : Mem} {P : Nat → Int32} {n k q : Nat} {c : Nat → Nat} {N : Nat → Nat → Int64} {t : Tk} (B : BY P n) (h : GX P n M t) (hN : NX M k c N) (hq : q < 4) : ∃ r, f_X5_needKnown k (nI q) M = some r ∧ XFr M r.2 ∧ (∀ f, seeR c N q t = .inl f → r.1 = 0 ∧ BX r.2 f) ∧ ∀ i, seeR c N q t = .inr i → r.1 = 1 ∧ (GX P n r.2 (nx P n t) ∧ r.2.1 30 0 9 = nI i ∧ i < c q) := by
  obtain ⟨r, a, b, d⟩ := known_x B h hN hq
  exact ⟨r, a, b, fun f e => by rw [e] at d; exact d, fun i e => by rw [e] at d; exact d⟩
set_option maxHeartbeats 600000 in
theorem see_y {M : Mem} {P : Nat → Int32} {n k q : Nat} {c : Nat → Nat} {N : Nat → Nat → Int64} {t : Tk} (h : GX P n M t) (hN : NX M k c N) (hq : q < 4) : ∃ r, f_X5_seeKnown k (nI q) M = some r ∧ XFr M r.2 ∧ (∀ f, seeR c N q t = .inl f → r.1 = 0 ∧ BX r.2 f) ∧ ∀ i, seeR c N q t = .inr i → r.1 = 1 ∧ (GX P n r.2 t ∧ r.2.1 30 0 9 = nI i ∧ i < c q) := by
  obtain ⟨r, a, b, d⟩ := see_x h hN hq
  exact ⟨r, a, b, fun f e => by rw [e] at d; exact d, fun i e => by rw [e] at d; exact d⟩
set_option maxHeartbeats 600000 in
theorem needW_y {M : Mem} {P : Nat → Int32} {n i : Nat} {t : Tk} (B : BY P n) (h : GX P n M t) : ∃ r, f_X5_needWord (nI i) M = some r ∧ XFr M r.2 ∧ (∀ f, wdR P n i t = .inl f → r.1 = 0 ∧ BX r.2 f) ∧ ∀ t', wdR P n i t = .inr t' → r.1 = 1 ∧ GX P n r.2 t' := by
  obtain ⟨r, a, b, d⟩ := needW_x (i := i) B h
  exact ⟨r, a, b, fun f e => by rw [e] at d; exact d, fun i e => by rw [e] at d; exact d⟩
set_option maxHeartbeats 600000 in
theorem stop_y {M : Mem} {P : Nat → Int32} {n : Nat} {t : Tk} (B : BY P n) (h : GX P n M t) : ∃ r, f_X5_needStop M = some r ∧ XFr M r.2 ∧ (∀ f, stopR P n t = .inl f → r.1 = 0 ∧ BX r.2 f) ∧ ∀ t', stopR P n t = .inr t' → r.1 = 1 ∧ GX P n r.2 t' := by
  obtain ⟨r, a, b, d⟩ := stop_x B h
  exact ⟨r, a, b, fun f e => by rw [e] at d; exact d, fun i e => by rw [e] at d; exact d⟩
set_option maxHeartbeats 600000 in
theorem OXv.y {P : Nat → Int32} {n : Nat} {F : Option (Int32 × Mem)} {M : Mem} {o : Ft ⊕ (Tk × Int32)} (h : ∃ q, F = some q ∧ OXv P n M q o) : ∃ r, F = some r ∧ XFr M r.2 ∧ (∀ f, o = .inl f → r.1 = 0 ∧ BX r.2 f) ∧ ∀ t, o = .inr t → r.1 = 1 ∧ (GX P n r.2 t.1 ∧ r.2.1 30 0 9 = t.2) := by
  obtain ⟨r, a, b, d⟩ := h
  exact ⟨r, a, b, fun f e => by rw [e] at d; exact d, fun i e => by rw [e] at d; exact d⟩
set_option maxHeartbeats 600000 in
theorem DR.fol {M : Mem} {K : Co} {lt : Bool} {a b d c2 : Nat} (ha : a < 6) (hc2 : c2 ≤ 6) (h : DR M K lt) (hn : ∀ w, w < c2 → ¬ w = a → M.1 17 4 w = nI (K.1 (100 + w)) ∧ M.1 18 4 w = nI (K.1 (200 + w))) : DR (sR (sR M 17 4 (upd (M.1 17 4) a (nI b))) 18 4 (upd ((sR M 17 4 (upd (M.1 17 4) a (nI b))).1 18 4) a (nI d))) (folK (updN K.1 2 c2, K.2) a b d) lt := by
  obtain ⟨q1, q2, q3, q4, q5, q6, q7, q8, q9⟩ := h
  have e3 : ∀ i, i < 100 → ¬ i = 2 → (folK (updN K.1 2 c2, K.2) a b d).1 i = K.1 i := by
    intro i hi h2
    unfold folK
    simp only
    rw [if_neg (by omega), if_neg (by omega)]
    exact updN_ne _ _ h2
  have e2 : (folK (updN K.1 2 c2, K.2) a b d).1 2 = c2 := by
    unfold folK
    simp only
    rw [if_neg (by omega), if_neg (by omega)]
    rfl
  have f1 : ∀ c, ¬ c = 17 → ¬ c = 18 → (sR (sR M 17 4 (upd (M.1 17 4) a (nI b))) 18 4 (upd ((sR M 17 4 (upd (M.1 17 4) a (nI b))).1 18 4) a (nI d))).1 c 4 = M.1 c 4 := fun c h1 h2 => by rw [sR_ne _ _ _ _ (fun z => h2 z.1), sR_ne _ _ _ _ (fun z => h1 z.1)]
  refine ⟨?_, ?_, ?_, fun j hj => ?_, fun a b ha hb => ?_, fun b hb => ?_, fun p hp => ?_, fun v hv => ?_, fun c v hc hv => ?_⟩
  · rw [f1 8 (by decide) (by decide), e3 4 (by decide) (by decide)]; exact q1
  · rw [f1 8 (by decide) (by decide), e3 5 (by decide) (by decide)]; exact q2
  · rw [sR_ne _ _ _ _ (by omega), sR_ne _ _ _ _ (by omega)]; exact q3
  · rw [e3 0 (by decide) (by decide)] at hj
    rw [f1 11 (by decide) (by decide), f1 12 (by decide) (by decide), f1 13 (by decide) (by decide)]; exact q4 j hj
  · rw [f1 14 (by decide) (by decide)]; exact q5 a b ha hb
  · rw [f1 15 (by decide) (by decide)]; exact q6 b hb
  · rw [e3 1 (by decide) (by decide)] at hp
    rw [f1 16 (by decide) (by decide)]; exact q7 p hp
  · rw [e2] at hv
    rw [sR_ne _ 18 4 _ (a := 17) (by omega), sR_at, sR_at, sR_ne _ 17 4 _ (a := 18) (by omega)]
    unfold folK
    simp only
    by_cases ev : v = a
    · rw [ev, upd_at, upd_at, if_pos rfl, if_neg (by omega), if_pos rfl]
      exact ⟨rfl, rfl⟩
    · rw [upd_ne _ _ ev, upd_ne _ _ ev, if_neg (by omega), if_neg (by omega), if_neg (by omega), if_neg (by omega), updN_ne (k := 2) (j := 100 + v) _ _ (by omega), updN_ne (k := 2) (j := 200 + v) _ _ (by omega)]
      exact hn v hv ev
  · rw [f1 19 (by decide) (by decide)]; exact q9 c v hc hv
set_option maxHeartbeats 600000 in
theorem fol_N {c : Nat → Nat} {f : Nat → Nat → Int32} {a b d q : Nat} (hq : q < 4) : (folK (c, f) a b d).1 q = c q := by
  unfold folK
  simp only
  rw [if_neg (by omega), if_neg (by omega)]
set_option maxHeartbeats 600000 in
theorem partW_x {P : Nat → Int32} {n : Nat} {M : Mem} {K : Co} {N : Nat → Nat → Int64} {lt : Bool} {t : Tk} (B : BY P n) (h : GX P n M t) (h1 : t.2.2.1 = 1) (hD : DX M K N lt) : ∃ r, ((f_X2_needNew 4 (2 : Int32) M).bind fun q2 => if q2.1 = 0 then some ((0 : Int32), q2.2) else (f_X2_startWeather 4 q2.2).bind fun q3 => if q3.1 = 0 then some ((0 : Int32), q3.2) else some ((1 : Int32), q3.2)) = some r ∧ CO P n M r (partW P n (K, N, lt) t) := by
  obtain ⟨r, a, w, k, d⟩ := new_x (q := 2) B h h1 hD.1 (by decide)
  rw [show f_X2_needNew 4 (2 : Int32) M = some r from a, Option.bind_some]
  cases e : newR P n K.1 N 2 t with
  | inl f =>
    rw [e] at d
    rw [if_pos d.1, show partW P n (K, N, lt) t = .inl f from by simp only [partW, bnd, e]]
    exact ⟨_, rfl, w, rfl, d.2⟩
  | inr x =>
    rw [e] at d
    obtain ⟨d1, d2, d3, d4, d5⟩ := d
    have hJ : K.1 2 < 6 := d4
    have e9 : r.2.1 9 4 2 - (1 : Int32) = nI (K.1 2) := by
      rw [(d5 2 (by decide)).1, bump_at]
      exact sub_nI (b := 1) (by omega)
    rw [if_neg (by rw [d1]; decide)]
    unfold f_X2_startWeather
    simp only
    rw [e9, inb_nI_t hJ (by decide), if_pos rfl, if_pos rfl, Option.bind_some, if_neg (show ¬ (1 : Int32) = 0 from by decide), nI_clamp (by omega), show partW P n (K, N, lt) t = .inr (x.1, addW K, addN N 2 (K.1 2) x.2, lt) from by simp only [partW, bnd, e]]
    have R := DR.k k hD.2
    refine ⟨_, rfl, (w.tr (CtF.R (by omega))).tr (CtF.R (by omega)), rfl, (d2.sR (by omega)).sR (by omega), ?_, DR.fol (c2 := K.1 2 + 1) hJ (by omega) R (fun v hv hne => R.2.2.2.2.2.2.2.1 v (by omega))⟩
    refine NX.cg (c := bump K.1 2) (CtF.N0 (by rw [sR_ne _ _ _ _ (by omega), sR_ne _ _ _ _ (by omega)]) rfl d5) (fun q hq => ?_)
    exact fol_N hq
set_option maxHeartbeats 600000 in
theorem partF_x {P : Nat → Int32} {n : Nat} {M : Mem} {K : Co} {N : Nat → Nat → Int64} {lt : Bool} {t : Tk} (B : BY P n) (h : GX P n M t) (hD : DX M K N lt) : ∃ r, f_X2_readFollows 4 M = some r ∧ CO P n M r (partF P n (K, N, lt) t) := by
  obtain ⟨M1, a1, b1, d1⟩ := adv_x B h
  have hm : K.1 2 ≤ 6 := (hD.1 2 (by decide)).2.1
  unfold f_X2_readFollows
  rw [a1, Option.bind_some]
  refine chn (known_y (q := 2) B d1 (b1.x.N hD.1) (by decide)) (fun M' f eo fx bx => ?_) (fun q2 a eo x2 g2 => ?_)
  · rw [show partF P n (K, N, lt) t = .inl f from by simp only [partF, bnd, eo]]
    exact ⟨(b1.x.tr fx).w, rfl, bx⟩
  obtain ⟨g2, va, ha⟩ := g2
  have F2 := b1.x.tr x2
  refine chn (needW_y (i := 9) B g2) (fun M' f eo2 fx bx => ?_) (fun q3 t3 eo2 x3 g3 => ?_)
  · rw [show partF P n (K, N, lt) t = .inl f from by simp only [partF, bnd, eo, eo2]]
    exact ⟨(F2.tr fx).w, rfl, bx⟩
  have F3 := F2.tr x3
  refine chn (known_y (q := 2) B g3 (F3.N hD.1) (by decide)) (fun M' f eo3 fx bx => ?_) (fun q4 b eo3 x4 g4 => ?_)
  · rw [show partF P n (K, N, lt) t = .inl f from by simp only [partF, bnd, eo, eo2, eo3]]
    exact ⟨(F3.tr fx).w, rfl, bx⟩
  obtain ⟨g4, vb, hb⟩ := g4
  have F4 := F3.tr x4
  refine chn (needW_y (i := 10) B g4) (fun M' f eo4 fx bx => ?_) (fun q5 t5 eo4 x5 g5 => ?_)
  · rw [show partF P n (K, N, lt) t = .inl f from by simp only [partF, bnd, eo, eo2, eo3, eo4]]
    exact ⟨(F4.tr fx).w, rfl, bx⟩
  have F5 := F4.tr x5
  refine chn (known_y (q := 2) B g5 (F5.N hD.1) (by decide)) (fun M' f eo5 fx bx => ?_) (fun q6 d eo5 x6 g6 => ?_)
  · rw [show partF P n (K, N, lt) t = .inl f from by simp only [partF, bnd, eo, eo2, eo3, eo4, eo5]]
    exact ⟨(F5.tr fx).w, rfl, bx⟩
  obtain ⟨g6, vd, hd⟩ := g6
  have F6 := F5.tr x6
  rw [va, inb_nI_t (show a < 6 by omega) (by decide), if_pos rfl, if_pos rfl, nI_clamp (by omega), vb, show partF P n (K, N, lt) t = .inr (nx P n t5, folK K a b d, N, lt) from by simp only [partF, bnd, eo, eo2, eo3, eo4, eo5]]
  have R := DR.k F6.k hD.2
  refine ⟨_, rfl, (F6.w.tr (CtF.R (by omega))).tr (CtF.R (by omega)), rfl, (g6.sR (by omega)).sR (by omega), ?_, ?_⟩
  · refine NX.cg (c := K.1) (CtF.N0 (by rw [sR_ne _ _ _ _ (by omega), sR_ne _ _ _ _ (by omega)]) rfl (F6.N hD.1)) (fun q hq => ?_)
    exact fol_N hq
  · simp only
    rw [sR_ne _ 17 4 _ (a := 30) (by omega), vd]
    refine DR.cg (DR.fol (b := b) (d := d) (c2 := K.1 2) (show a < 6 by omega) hm R (fun v hv hne => R.2.2.2.2.2.2.2.1 v hv)) (fun j hj => ?_) rfl
    unfold folK
    simp only
    by_cases ej : j = 2
    · subst ej
      rw [if_neg (by omega), if_neg (by omega), if_neg (by omega), if_neg (by omega)]
      rfl
    · rw [updN_ne _ _ ej]
set_option maxHeartbeats 600000 in
theorem swb {T a v : Nat} (ha : a < 10) : (T ||| 2 ^ a).testBit v = (T.testBit v || decide (a = v)) := by
  rw [Nat.testBit_or, Nat.testBit_two_pow]
set_option maxHeartbeats 600000 in
theorem partS_x {P : Nat → Int32} {n : Nat} {M : Mem} {K : Co} {N : Nat → Nat → Int64} {lt : Bool} {t : Tk} (B : BY P n) (h : GX P n M t) (hD : DX M K N lt) : ∃ r, f_X2_readSways 4 M = some r ∧ CO P n M r (partS P n (K, N, lt) t) := by
  obtain ⟨M1, a1, b1, d1⟩ := adv_x B h
  have hm : K.1 0 ≤ 10 := (hD.1 0 (by decide)).2.1
  unfold f_X2_readSways
  rw [a1, Option.bind_some]
  refine chn (known_y (q := 0) B d1 (b1.x.N hD.1) (by decide)) (fun M' f eo fx bx => ?_) (fun q2 a eo x2 g2 => ?_)
  · rw [show partS P n (K, N, lt) t = .inl f from by simp only [partS, bnd, eo]]
    exact ⟨(b1.x.tr fx).w, rfl, bx⟩
  obtain ⟨g2, va, ha⟩ := g2
  have F2 := b1.x.tr x2
  refine chn (see_y (q := 0) g2 (F2.N hD.1) (by decide)) (fun M' f eo2 fx bx => ?_) (fun q3 b eo2 x3 g3 => ?_)
  · rw [show partS P n (K, N, lt) t = .inl f from by simp only [partS, bnd, eo, eo2]]
    exact ⟨(F2.tr fx).w, rfl, bx⟩
  obtain ⟨g3, vb, hb⟩ := g3
  have F3 := F2.tr x3
  rw [va, vb]
  by_cases eab : a = b
  · rw [if_pos (by rw [eab]), show partS P n (K, N, lt) t = .inl (5, (nx P n (nx P n t)).1) from by simp only [partS, bnd, eo, eo2]; exact if_pos eab]
    have hk : (nx P n (nx P n t)).2.2.1 = 1 := by
      unfold seeR at eo2
      by_cases c : isNm (nx P n (nx P n t)) = true
      · exact (nm_long g3.2.2.1 c).1
      · rw [if_neg c] at eo2; cases eo2
    obtain ⟨M', a5, b5, d5⟩ := fail_b (why := 5) g3.2.2.2 g3.2.1 g3.2.2.1.2.2.1 (by decide)
    rw [show badK (nx P n (nx P n t)) 5 = (5, (nx P n (nx P n t)).1) from by unfold badK; rw [if_neg (by omega)]] at d5
    exact ⟨_, a5, (F3.tr b5).w, rfl, d5⟩
  · rw [if_neg (by rw [eq_nI (by omega) (by omega)]; exact eab)]
    obtain ⟨M4, a4, b4, d4⟩ := adv_x B g3
    rw [a4, Option.bind_some]
    have F4 := F3.tr b4.x
    refine chn (OXv.y (needN_x (lo := 0) (hi := 20) B d4)) (fun M' f eo3 fx bx => ?_) (fun q5 v eo3 x5 g5 => ?_)
    · rw [show partS P n (K, N, lt) t = .inl f from by simp only [partS, bnd, eo, eo2, eo3]; exact if_neg eab]
      exact ⟨(F4.tr fx).w, rfl, bx⟩
    obtain ⟨g5, vv⟩ := g5
    have F5 := F4.tr x5
    have hv0 : ¬ v.2 < 0 := by
      unfold numR at eo3
      by_cases c : (nx P n (nx P n (nx P n t))).2.2.1 = 2
      · rw [if_pos c] at eo3
        by_cases c1 : (nx P n (nx P n (nx P n t))).2.2.2.2.2 < 0
        · rw [if_pos c1] at eo3; cases eo3
        · rw [if_neg c1] at eo3
          by_cases c2 : 20 < (nx P n (nx P n (nx P n t))).2.2.2.2.2
          · rw [if_pos c2] at eo3; cases eo3
          · rw [if_neg c2] at eo3
            cases eo3
            exact c1
      · rw [if_neg c] at eo3; cases eo3
    have R := DR.k F5.k hD.2
    obtain ⟨q1, q2', q3', q4', q5', q6, q7, q8, q9⟩ := R
    obtain ⟨T, t1, t2, t3⟩ := q6 b (by omega)
    rw [show partS P n (K, N, lt) t = .inr (v.1, (K.1, set2 K.2 3 (10 * a + b) v.2), N, lt) from by simp only [partS, bnd, eo, eo2, eo3]; exact if_neg eab, vv]
    have es : ∃ T', T' < 1024 ∧ (∀ i, i < 10 → (T'.testBit i = if i = a then decide (¬ v.2 = 0) else T.testBit i)) ∧ f_X1_setSway 4 (nI a) (nI b) v.2 q5.2 = some (sR (sR q5.2 14 4 (upd (q5.2.1 14 4) (10 * b + a) v.2)) 15 4 (upd (q5.2.1 15 4) b (nI T'))) := by
      unfold f_X1_setSway
      rw [show nI b * (10 : Int32) = nI (b * 10) from mul_nI b 10, add_nI, inb_nI_t (show b * 10 + a < 100 by omega) (by decide), if_pos rfl, nI_clamp (by omega), show b * 10 + a = 10 * b + a by omega, shl_1 a (by omega)]
      simp only
      rw [inb_nI_t (show b < 10 by omega) (by decide), if_pos (show true = true from rfl), if_pos (show true = true from rfl), if_pos (show true = true from rfl), if_pos (show true = true from rfl), nI_clamp (by omega), sR_ne _ 14 4 _ (a := 15) (by omega), t1]
      by_cases c : 0 < v.2
      · refine ⟨T ||| 2 ^ a, ?_, fun i hi => ?_, ?_⟩
        · exact Nat.or_lt_two_pow (n := 10) t2 (Nat.pow_lt_pow_right (by decide) (by omega))
        · rw [swb (by omega)]
          by_cases e : i = a
          · rw [if_pos e]
            have : ¬ v.2 = 0 := pos_ne c
            simp [e, this]
          · rw [if_neg e]
            simp [show ¬ a = i from fun z => e z.symm]
        · rw [if_pos c, or_nI]
      · have hz : v.2 = 0 := by
          apply Int32.toInt_inj.mp
          have z1 : ¬ v.2.toInt < (0 : Int32).toInt := fun z => hv0 (Int32.lt_iff_toInt_lt.mpr z)
          have z2 : ¬ (0 : Int32).toInt < v.2.toInt := fun z => c (Int32.lt_iff_toInt_lt.mpr z)
          omega
        refine ⟨T &&& (1023 ^^^ 2 ^ a), ?_, fun i hi => ?_, ?_⟩
        · exact Nat.lt_of_le_of_lt Nat.and_le_left t2
        · rw [strike_bit hi]
          by_cases e : i = a
          · rw [if_pos e]
            simp [e, hz]
          · rw [if_neg e]
            simp [e]
        · have := andn_at T t2 a (by omega)
          rw [shl_1 a (by omega)] at this
          rw [if_neg c, this]
    obtain ⟨T', s1, s2, s3⟩ := es
    rw [s3, Option.bind_some]
    refine ⟨_, rfl, (F5.w.tr (CtF.R (by omega))).tr (CtF.R (by omega)), rfl, (g5.sR (by omega)).sR (by omega), CtF.N0 (by rw [sR_ne _ _ _ _ (by omega), sR_ne _ _ _ _ (by omega)]) rfl (F5.N hD.1), ?_⟩
    have e4 : ∀ i j, ¬ i = 3 → (set2 K.2 3 (10 * a + b) v.2) i j = K.2 i j := fun i j hi => set2_ne (fun z => hi z.1)
    have f1 : ∀ c, ¬ c = 14 → ¬ c = 15 → (sR (sR q5.2 14 4 (upd (q5.2.1 14 4) (10 * b + a) v.2)) 15 4 (upd (q5.2.1 15 4) b (nI T'))).1 c 4 = q5.2.1 c 4 := fun c h1 h2 => by rw [sR_ne _ _ _ _ (fun z => h2 z.1), sR_ne _ _ _ _ (fun z => h1 z.1)]
    refine ⟨?_, ?_, ?_, fun j hj => ?_, fun x y hx hy => ?_, fun y hy => ?_, fun p hp => ?_, fun w hw => ?_, fun c w hc hw => ?_⟩
    · dsimp only
      rw [f1 8 (by decide) (by decide)]; exact q1
    · dsimp only
      rw [f1 8 (by decide) (by decide)]; exact q2'
    · dsimp only
      rw [sR_ne _ _ _ _ (by omega), sR_ne _ _ _ _ (by omega)]; exact q3'
    · dsimp only
      rw [f1 11 (by decide) (by decide), f1 12 (by decide) (by decide), f1 13 (by decide) (by decide), e4 0 _ (by decide), e4 1 _ (by decide), e4 2 _ (by decide)]; exact q4' j hj
    · dsimp only
      rw [sR_ne _ 15 4 _ (a := 14) (by omega), sR_at]
      by_cases exy : x = a ∧ y = b
      · rw [exy.1, exy.2, upd_at, set2_at]
      · rw [upd_ne _ _ (by omega), set2_ne (by omega)]; exact q5' x y hx hy
    · dsimp only
      rw [sR_at]
      by_cases ey : y = b
      · rw [ey, upd_at]
        refine ⟨T', rfl, s1, fun x hx => ?_⟩
        rw [s2 x hx]
        show _ = decide (¬ set2 K.2 3 (10 * a + b) v.2 3 (10 * x + b) = 0)
        by_cases ex : x = a
        · rw [if_pos ex, ex, set2_at]
        · rw [if_neg ex, set2_ne (by omega)]; exact t3 x hx
      · rw [upd_ne _ _ ey]
        obtain ⟨T2, u1, u2, u3⟩ := q6 y hy
        refine ⟨T2, u1, u2, fun x hx => ?_⟩
        show _ = decide (¬ set2 K.2 3 (10 * a + b) v.2 3 (10 * x + y) = 0)
        rw [set2_ne (by omega)]; exact u3 x hx
    · dsimp only
      rw [f1 16 (by decide) (by decide), e4 4 _ (by decide)]; exact q7 p hp
    · dsimp only
      rw [f1 17 (by decide) (by decide), f1 18 (by decide) (by decide)]; exact q8 w hw
    · dsimp only
      rw [f1 19 (by decide) (by decide), e4 5 _ (by decide)]; exact q9 c w hc hw
