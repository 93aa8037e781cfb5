/-! ===== crops on the reference ===== -/
set_option maxHeartbeats 600000 in
theorem RDr.gr {r : Nat → Int32} {k : Nat → Nat} {f : Nat → Nat → Int32} {q w : Nat} {v : Int32} (bd : BdK k) (hq : q < 4) (hw : w < 6) (h : RDr r (k, f)) : RDr (upd r (2070 + 6 * q + w) v) (k, set2 f 5 (6 * q + w) v) := by
  obtain ⟨d0, d1, d2, d3⟩ := bd
  obtain ⟨q1, q2, q3, q4, q5, q6, q7, q8, q9⟩ := h
  have e4 : ∀ i j, ¬ i = 5 → (set2 f 5 (6 * q + w) v) i j = f i j := fun i j hi => set2_ne (fun z => hi z.1)
  refine ⟨?_, ?_, fun j hj => ?_, fun j h1 h2 => ?_, fun x y hx hy => ?_, fun p hp => ?_, fun u hu => ?_, fun c u hc hu => ?_, fun j hz => ?_⟩
  · rw [upd_ne _ _ (by omega)]; exact q1
  · rw [upd_ne _ _ (by omega)]; exact q2
  · have hj : j < k 0 := hj
    dsimp only
    rw [upd_ne _ _ (by omega), upd_ne _ _ (by omega), upd_ne _ _ (by omega), upd_ne _ _ (by omega), e4 0 _ (by decide), e4 1 _ (by decide), e4 2 _ (by decide)]; exact q3 j hj
  · rw [upd_ne _ _ (by omega), upd_ne _ _ (by omega), upd_ne _ _ (by omega)]; exact q4 j h1 h2
  · dsimp only
    rw [upd_ne _ _ (by omega), e4 3 _ (by decide)]; exact q5 x y hx hy
  · have hp : p < k 1 := hp
    dsimp only
    rw [upd_ne _ _ (by omega), e4 4 _ (by decide)]; exact q6 p hp
  · have hu : u < k 2 := hu
    dsimp only
    rw [upd_ne _ _ (by omega), upd_ne _ _ (by omega)]; exact q7 u hu
  · dsimp only
    by_cases e : 6 * c + u = 6 * q + w
    · rw [show 2070 + 6 * c + u = 2070 + 6 * q + w by omega, upd_at, e, set2_at]
    · rw [upd_ne _ _ (by omega), set2_ne (fun z => e z.2)]; exact q8 c u hc hu
  · have hz2 : (6 ≤ j ∧ j ≤ 11) ∨ (194 ≤ j ∧ j < 475) := hz
    rw [upd_ne _ _ (by omega)]; exact q9 j hz
set_option maxHeartbeats 600000 in
theorem crop_b {M : Mem} {x : Int32} {fu : Nat} {f : Ft} (hf : 0 < fu) (h : BM M f) : f_X11_readCrop_7 x fu M = some M := by
  obtain ⟨k, rfl⟩ : ∃ k, fu = k + 1 := ⟨fu - 1, by omega⟩
  rw [f_X11_readCrop_7, h.2.1, if_neg (pos_ne h.1), if_neg (pos_ne h.1)]
set_option maxHeartbeats 600000 in
theorem crop_m {P : Nat → Int32} {n q : Nat} {N : Nat → Nat → Int64} {lt : Bool} (B : BY P n) (hq : q < 4) : ∀ (m x fu : Nat) (M : Mem) (t : Tk) (k : Nat → Nat) (f : Nat → Nat → Int32), x + m = n + 1 → m < fu → x ≤ t.1 → MT t → GM P n M t → NXm M 4 k N → RD M (k, f) lt →
    ∃ M', f_X11_readCrop_7 (nI q) fu M = some M' ∧ McF M M' ∧ (∀ g, growR P n k N q m t f = .inl g → BM M' g) ∧ ∀ a, growR P n k N q m t f = .inr a → ∃ M2, GM P n M2 a.1 ∧ NXm M2 4 k N ∧ RD M2 (k, a.2) lt ∧ M2.2 57 0 = M.2 57 0 ∧ M' = sR M2 55 0 (upd (M2.1 55 0) 1903 (M2.1 55 0 1903 + (1 : Int32)))
  | 0, x, fu, M, t, k, f, hx, _, ht, _, h, _, _ => by
    have := h.2.2.1.1
    omega
  | m + 1, x, 0, M, t, k, f, _, z, _, _, _, _, _ => by omega
  | m + 1, x, fu + 1, M, t, k, f, hx, hf, ht, mt, h, hN, hR => by
    have bd := hN.bd
    have hc2 : k 2 ≤ 6 := bd.2.2.1
    have es : growR P n k N q (m + 1) t f = if wdS t = nI 12 then bnd (seeR k N 2 (nx P n t)) fun w => bnd (eithR P n 99 (nx P n (nx P n t))) fun v => growR P n k N q m v.1 (set2 f 5 (6 * q + w) v.2) else .inr (t, f) := rfl
    rw [f_X11_readCrop_7, h.2.2.2, if_pos rfl, r_On h.2.1 h.2.2.1, Option.bind_some]
    unfold iw
    by_cases c0 : wdS t = nI 12
    · rw [if_pos c0, if_neg (show ¬ (1 : Int32) = 0 from by decide)]
      obtain ⟨M1, a1, b1, d1⟩ := nx_m B h
      rw [a1, Option.bind_some]
      obtain ⟨q2, a2, y2, z2, w2⟩ := rtold_y (x := 4) (q := 2) B d1 (b1.y.N hN) (by decide) (by decide)
      rw [show f_X11_readTold (4 : Int32) (2 : Int32) M1 = some q2 from a2, Option.bind_some]
      have F2 := b1.y.tr y2
      cases eo : seeR k N 2 (nx P n t) with
      | inl g =>
        have bm := z2 g eo
        have ev : growR P n k N q (m + 1) t f = .inl g := by rw [es, if_pos c0, eo]; rfl
        rw [signed_b bm, Option.bind_some]
        simp only
        rw [bm.2.1, if_neg (pos_ne bm.1), crop_b (by omega) bm, ev]
        exact ⟨_, rfl, F2.r, fun g2 e2 => by cases e2; exact bm, fun a e2 => by cases e2⟩
      | inr w =>
        obtain ⟨g2, va, hw⟩ := w2 w eo
        obtain ⟨q3, a3, y3, z3, w3⟩ := OMv.y (signed_m (hi := 99) B g2)
        rw [a3, Option.bind_some]
        have F3 := F2.tr y3
        cases eo2 : eithR P n 99 (nx P n (nx P n t)) with
        | inl g =>
          have bm := z3 g eo2
          have ev : growR P n k N q (m + 1) t f = .inl g := by rw [es, if_pos c0, eo]; unfold bnd; simp only; rw [eo2]
          rw [bm.2.1, if_neg (pos_ne bm.1), crop_b (by omega) bm, ev]
          exact ⟨_, rfl, F3.r, fun g2 e2 => by cases e2; exact bm, fun a e2 => by cases e2⟩
        | inr v =>
          obtain ⟨g3, vv⟩ := w3 v eo2
          have st := grow_step (w := w) (c := k) (N := N) h.2.2.1 mt c0 eo2
          have ev : growR P n k N q (m + 1) t f = growR P n k N q m v.1 (set2 f 5 (6 * q + w) v.2) := by rw [es, if_pos c0, eo]; unfold bnd; simp only; rw [eo2]
          rw [g3.2.2.2, if_pos rfl, va, vv, show (2070 : Int32) + (6 : Int32) * nI q + nI w = nI (2070 + 6 * q + w) from by rw [show (2070 : Int32) = nI 2070 from rfl, show (6 : Int32) = nI 6 from rfl, mul_nI, add_nI, add_nI], inb_nI_t (show 2070 + 6 * q + w < 2375 by omega) (by decide), if_pos rfl, nI_clamp (by omega), ev]
          have R3 := RD.y F3 hR
          have R9 : RD (sR q3.2 55 0 (upd (q3.2.1 55 0) (2070 + 6 * q + w) v.2)) (k, set2 f 5 (6 * q + w) v.2) lt := by
            show (sR _ 55 0 _).1 50 0 24 = _ ∧ RDr ((sR _ 55 0 _).1 55 0) _
            rw [sR_ne _ _ _ _ (by omega), sR_at]
            exact ⟨R3.1, RDr.gr bd hq (by omega) R3.2⟩
          obtain ⟨M', k1, k2, k3, k4⟩ := crop_m B hq m (x + 1) fu (sR q3.2 55 0 (upd (q3.2.1 55 0) (2070 + 6 * q + w) v.2)) v.1 k (set2 f 5 (6 * q + w) v.2) (by omega) (by omega) (by omega) st.2.2 g3.C ((F3.N hN).cg (fun _ _ => rfl) (fun q hq => by rw [sR_at, upd_ne _ _ (by omega)]) rfl) R9
          refine ⟨M', k1, (F3.r.tr (McF.C (by omega))).tr k2, k3, fun a e2 => ?_⟩
          obtain ⟨M2, u1, u2, u3, u4, u5⟩ := k4 a e2
          exact ⟨M2, u1, u2, u3, u4.trans (F3.1 57 0 (by omega)).2, u5⟩
    · have ev : growR P n k N q (m + 1) t f = .inr (t, f) := by rw [es, if_neg c0]
      rw [if_neg c0, if_pos (show (0 : Int32) = 0 from rfl), if_pos (show (0 : Int32) = 0 from rfl), ev]
      refine ⟨_, rfl, McF.C (by omega), ?_, ?_⟩
      · intro g e2
        cases e2
      · intro a e2
        cases e2
        exact ⟨M, h, hN, hR, rfl, rfl⟩
set_option maxHeartbeats 600000 in
theorem partC_m {P : Nat → Int32} {n : Nat} {M : Mem} {K : Co} {N : Nat → Nat → Int64} {lt : Bool} {t : Tk} (B : BY P n) (mt : MT t) (h : GM P n M t) (hD : DM M K N lt) : ∃ M', f_X11_readCrop M = some M' ∧ MO P n M M' (partC P n (K, N, lt) t) := by
  have bd := hD.1.bd
  have := B.1
  obtain ⟨q1, a1, f1, g1, k1, z1, w1⟩ := new_y (q := 3) B h hD.1 (by decide)
  unfold f_X11_readCrop
  rw [show f_X11_readNew (3 : Int32) (4 : Int32) M = some q1 from a1, Option.bind_some]
  cases e : newR P n K.1 N 3 t with
  | inl f =>
    obtain ⟨v0, bm⟩ := z1 f e
    rw [crop_b (lt_FU (by omega)) bm, show partC P n (K, N, lt) t = .inl f from by simp only [partC, bnd, e]]
    exact ⟨_, rfl, f1, bm⟩
  | inr x =>
    obtain ⟨v0, G, hlt, N1, ln⟩ := w1 x e
    have hlt4 : K.1 3 < 4 := hlt
    have lx := new_le mt e
    have R1 : RD q1.2 (K.1, K.2) lt := ⟨k1.trans hD.2.1, by rw [g1]; exact hD.2.2⟩
    obtain ⟨M', a2, f2, z2, w2⟩ := crop_m (q := K.1 3) B hlt4 (n + 1) 0 FU q1.2 x.1 K.1 K.2 (by omega) (lt_FU (by omega)) (Nat.zero_le _) lx.2 G N1 R1
    rw [v0, a2]
    cases e2 : growR P n K.1 N (K.1 3) (n + 1) x.1 K.2 with
    | inl f =>
      rw [show partC P n (K, N, lt) t = .inl f from by simp only [partC, bnd, e, e2]]
      exact ⟨_, rfl, f1.tr f2, z2 f e2⟩
    | inr y =>
      obtain ⟨M2, u1, u2, u3, u4, u5⟩ := w2 y e2
      rw [show partC P n (K, N, lt) t = .inr (y.1, (bump K.1 3, y.2), addN N 3 (K.1 3) x.2, lt) from by simp only [partC, bnd, e, e2]]
      refine ⟨_, rfl, f1.tr f2, ?_, ?_, ?_⟩
      · rw [u5]; exact u1.C
      · rw [u5]
        refine bump_m (M := M2) u2 (by decide) hlt ?_ (fun p hp hne => ?_) rfl (by rw [u4]; exact ln)
        · rw [sR_at, show 1900 + 3 = 1903 from rfl, upd_at, show M2.1 55 0 1903 = nI (K.1 3) from (u2 3 (by decide)).1]
          exact add_nI (K.1 3) 1
        · rw [sR_at, upd_ne _ _ (by omega)]
      · rw [u5]
        show (sR _ 55 0 _).1 50 0 24 = _ ∧ RDr ((sR _ 55 0 _).1 55 0) _
        rw [sR_ne _ _ _ _ (by omega), sR_at]
        exact ⟨u3.1, RDr.low (by omega) (RDr.cg u3.2 (fun j hj => bump_ne hj) rfl)⟩
