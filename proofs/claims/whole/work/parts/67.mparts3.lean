/-! ===== proofs, weathers, jurors on the reference ===== -/
set_option maxHeartbeats 600000 in
theorem NXm.cs {M : Mem} {x : Nat} {c c' : Nat → Nat} {N : Nat → Nat → Int64} (h : NXm M x c N) (e : ∀ q, q < 4 → c' q = c q) : NXm M x c' N := fun q hq => by rw [e q hq]; exact h q hq
set_option maxHeartbeats 600000 in
theorem bump_m {M M' : Mem} {c : Nat → Nat} {N : Nat → Nat → Int64} {q : Nat} {l : Int64} (h : NXm M 4 c N) (hq : q < 4) (hlt : c q < moN q) (e1 : M'.1 55 0 (1900 + q) = nI (c q + 1)) (e2 : ∀ p, p < 4 → ¬ p = q → M'.1 55 0 (1900 + p) = M.1 55 0 (1900 + p)) (e3 : M'.2 57 0 = M.2 57 0) (el : M.2 57 0 (104 + fromN q + c q) = l) : NXm M' 4 (bump c q) (addN N q (c q) l) := by
  intro p hp
  obtain ⟨h1, h2, h3⟩ := h p hp
  by_cases e : p = q
  · subst e
    rw [bump_at]
    refine ⟨e1, by omega, fun i hi => ?_⟩
    rw [e3]
    unfold addN
    by_cases ei : i = c p
    · rw [if_pos ⟨rfl, ei⟩, ei]; exact el
    · rw [if_neg (fun z => ei z.2)]; exact h3 i (by omega)
  · rw [bump_ne e]
    refine ⟨(e2 p hp e).trans h1, h2, fun i hi => ?_⟩
    rw [e3]
    unfold addN
    rw [if_neg (fun z => e z.1)]; exact h3 i hi
set_option maxHeartbeats 600000 in
theorem RDr.low {r : Nat → Int32} {K : Co} {p : Nat} {v : Int32} (hp : p < 1904) (h : RDr r K) : RDr (upd r p v) K := by
  obtain ⟨q1, q2, q3, q4, q5, q6, q7, q8, q9⟩ := h
  have g : ∀ k, 1904 ≤ k → upd r p v k = r k := fun k h1 => upd_ne _ _ (by omega)
  refine ⟨?_, ?_, fun i hi => ?_, fun i h1 h2 => ?_, fun x y hx hy => ?_, fun u hu => ?_, fun w hw => ?_, fun c w hc hw => ?_, fun i hz => ?_⟩
  · rw [g _ (by omega)]; exact q1
  · rw [g _ (by omega)]; exact q2
  · rw [g _ (by omega), g _ (by omega), g _ (by omega), g _ (by omega)]; exact q3 i hi
  · rw [g _ (by omega), g _ (by omega), g _ (by omega)]; exact q4 i h1 h2
  · rw [g _ (by omega)]; exact q5 x y hx hy
  · rw [g _ (by omega)]; exact q6 u hu
  · rw [g _ (by omega), g _ (by omega)]; exact q7 w hw
  · rw [g _ (by omega)]; exact q8 c w hc hw
  · have hz2 : (6 ≤ i ∧ i ≤ 11) ∨ (194 ≤ i ∧ i < 475) := hz
    rw [g _ (by omega)]; exact q9 i hz
set_option maxHeartbeats 600000 in
theorem RDr.pf {r : Nat → Int32} {K : Co} {v : Int32} (bd : BdK K.1) (hlt : K.1 1 < 6) (h : RDr r K) : RDr (upd r (2052 + K.1 1) v) (addP K v) := by
  obtain ⟨d0, d1, d2, d3⟩ := bd
  obtain ⟨q1, q2, q3, q4, q5, q6, q7, q8, q9⟩ := h
  have e3 : ∀ i, ¬ i = 1 → (addP K v).1 i = K.1 i := fun i hi => bump_ne hi
  have e4 : ∀ i j, ¬ i = 4 → (addP K v).2 i j = K.2 i j := fun i j hi => set2_ne (fun z => hi z.1)
  refine ⟨?_, ?_, fun j hj => ?_, fun j h1 h2 => ?_, fun x y hx hy => ?_, fun p hp => ?_, fun w hw => ?_, fun c w hc hw => ?_, fun j hz => ?_⟩
  · rw [upd_ne _ _ (by omega), e3 4 (by decide)]; exact q1
  · rw [upd_ne _ _ (by omega), e3 5 (by decide)]; exact q2
  · rw [e3 0 (by decide)] at hj
    rw [upd_ne _ _ (by omega), upd_ne _ _ (by omega), upd_ne _ _ (by omega), upd_ne _ _ (by omega), e4 0 _ (by decide), e4 1 _ (by decide), e4 2 _ (by decide)]; exact q3 j hj
  · rw [e3 0 (by decide)] at h1
    rw [upd_ne _ _ (by omega), upd_ne _ _ (by omega), upd_ne _ _ (by omega)]; exact q4 j h1 h2
  · rw [upd_ne _ _ (by omega), e4 3 _ (by decide)]; exact q5 x y hx hy
  · have hp : p < bump K.1 1 1 := hp
    rw [bump_at] at hp
    unfold addP
    simp only
    by_cases e : p = K.1 1
    · rw [e, upd_at, set2_at]
    · rw [upd_ne _ _ (by omega), set2_ne (fun z => e z.2)]; exact q6 p (by omega)
  · rw [e3 2 (by decide)] at hw
    rw [upd_ne _ _ (by omega), upd_ne _ _ (by omega), e3 _ (by omega), e3 _ (by omega)]; exact q7 w hw
  · rw [upd_ne _ _ (by omega), e4 5 _ (by decide)]; exact q8 c w hc hw
  · have hz2 : (6 ≤ j ∧ j ≤ 11) ∨ (194 ≤ j ∧ j < 475) := hz
    rw [upd_ne _ _ (by omega)]; exact q9 j hz
set_option maxHeartbeats 600000 in
theorem new_y {M : Mem} {P : Nat → Int32} {n q : Nat} {c : Nat → Nat} {N : Nat → Nat → Int64} {t : Tk} (B : BY P n) (h : GM P n M t) (hN : NXm M 4 c N) (hq : q < 4) : ∃ r, f_X11_readNew (nI q) (nI (moN q)) M = some r ∧ McF M r.2 ∧ r.2.1 55 0 = M.1 55 0 ∧ r.2.1 50 0 24 = M.1 50 0 24 ∧ (∀ f, newR P n c N q t = .inl f → r.1 = 0 ∧ BM r.2 f) ∧ ∀ a, newR P n c N q t = .inr a → r.1 = nI (c q) ∧ GM P n r.2 a.1 ∧ c q < moN q ∧ NXm r.2 4 c N ∧ r.2.2 57 0 (104 + fromN q + c q) = a.2 := by
  obtain ⟨r, a, b, b1, b2, d⟩ := new_m B h hN hq
  exact ⟨r, a, b, b1, b2, fun f e => by rw [e] at d; exact d, fun i e => by rw [e] at d; exact d⟩
set_option maxHeartbeats 600000 in
theorem partP_m {P : Nat → Int32} {n : Nat} {M : Mem} {K : Co} {N : Nat → Nat → Int64} {lt : Bool} {t : Tk} (B : BY P n) (h : GM P n M t) (hD : DM M K N lt) : ∃ M', f_X11_readProof M = some M' ∧ MO P n M M' (partP P n (K, N, lt) t) := by
  have bd := hD.1.bd
  obtain ⟨q1, a1, f1, g1, k1, z1, w1⟩ := new_y (q := 1) B h hD.1 (by decide)
  unfold f_X11_readProof
  rw [show f_X11_readNew (1 : Int32) (6 : Int32) M = some q1 from a1, Option.bind_some]
  cases e : newR P n K.1 N 1 t with
  | inl f =>
    obtain ⟨v0, bm⟩ := z1 f e
    rw [signed_b bm, Option.bind_some, v0, show partP P n (K, N, lt) t = .inl f from by simp only [partP, bnd, e], show (2052 : Int32) + 0 = nI 2052 from by decide, inb_nI_t (show 2052 < 2375 by omega) (by decide), if_pos rfl]
    simp only
    have bc := bm.C (g := upd (q1.2.1 55 0) (nI 2052).toNatClampNeg 0)
    rw [bc.2.1, if_neg (pos_ne bc.1)]
    exact ⟨_, rfl, f1.tr (McF.C (by rw [nI_clamp (by omega)]; omega)), bc⟩
  | inr x =>
    obtain ⟨v0, G, hlt, N1, ln⟩ := w1 x e
    have hlt6 : K.1 1 < 6 := hlt
    obtain ⟨q2, a2, y2, z2, w2⟩ := OMv.y (signed_m (hi := 99) B G)
    rw [a2, Option.bind_some, v0, show (2052 : Int32) + nI (K.1 1) = nI (2052 + K.1 1) from add_nI 2052 _, inb_nI_t (show 2052 + K.1 1 < 2375 by omega) (by decide), if_pos rfl, nI_clamp (by omega)]
    simp only
    cases e2 : eithR P n 99 x.1 with
    | inl f =>
      have bc := (z2 f e2).C (g := upd (q2.2.1 55 0) (2052 + K.1 1) q2.1)
      rw [bc.2.1, if_neg (pos_ne bc.1), show partP P n (K, N, lt) t = .inl f from by simp only [partP, bnd, e, e2]]
      exact ⟨_, rfl, (f1.tr y2.r).tr (McF.C (by omega)), bc⟩
    | inr y =>
      obtain ⟨g2, vv⟩ := w2 y e2
      have g3 := g2.C (f := upd (q2.2.1 55 0) (2052 + K.1 1) q2.1)
      have r55 : q2.2.1 55 0 = M.1 55 0 := ((y2.1 55 0 (by omega)).1).trans g1
      have r57 : q2.2.2 57 0 = q1.2.2 57 0 := (y2.1 57 0 (by omega)).2
      have c1 : M.1 55 0 1901 = nI (K.1 1) := (hD.1 1 (by decide)).1
      rw [g3.2.2.2, if_pos rfl, show partP P n (K, N, lt) t = .inr (y.1, addP K y.2, addN N 1 (K.1 1) x.2, lt) from by simp only [partP, bnd, e, e2]]
      refine ⟨_, rfl, ((f1.tr y2.r).tr (McF.C (by omega))).tr (McF.C (by omega)), g3.C, bump_m (M := q1.2) N1 (by decide) hlt ?_ (fun p hp hne => ?_) r57 ln, ?_⟩
      · rw [sR_at, show 1900 + 1 = 1901 from rfl, upd_at, sR_at, upd_ne _ _ (by omega), r55, c1]
        exact add_nI (K.1 1) 1
      · rw [sR_at, upd_ne _ _ (by omega), sR_at, upd_ne _ _ (by omega), r55, g1]
      · show (sR _ 55 0 _).1 50 0 24 = _ ∧ RDr ((sR _ 55 0 _).1 55 0) _
        rw [sR_ne _ _ _ _ (by omega), sR_ne _ _ _ _ (by omega), sR_at, sR_at, r55, vv]
        exact ⟨((y2.2.1 24 (by omega)).trans k1).trans hD.2.1, RDr.low (by omega) (RDr.pf bd hlt6 hD.2.2)⟩
set_option maxHeartbeats 600000 in
theorem partW_m {P : Nat → Int32} {n : Nat} {M : Mem} {K : Co} {N : Nat → Nat → Int64} {lt : Bool} {t : Tk} (B : BY P n) (h : GM P n M t) (hD : DM M K N lt) : ∃ M', f_X11_readWeather M = some M' ∧ MO P n M M' (partW P n (K, N, lt) t) := by
  have bd := hD.1.bd
  obtain ⟨q1, a1, f1, g1, k1, z1, w1⟩ := new_y (q := 2) B h hD.1 (by decide)
  unfold f_X11_readWeather
  rw [show f_X11_readNew (2 : Int32) (6 : Int32) M = some q1 from a1, Option.bind_some]
  cases e : newR P n K.1 N 2 t with
  | inl f =>
    obtain ⟨v0, bm⟩ := z1 f e
    rw [bm.2.1, if_pos bm.1, show partW P n (K, N, lt) t = .inl f from by simp only [partW, bnd, e]]
    exact ⟨_, rfl, f1, bm⟩
  | inr x =>
    obtain ⟨v0, G, hlt, N1, ln⟩ := w1 x e
    have hlt6 : K.1 2 < 6 := hlt
    have c1 : M.1 55 0 1902 = nI (K.1 2) := (hD.1 2 (by decide)).1
    rw [G.2.2.2, if_neg (show ¬ (0 : Int32) < 0 from by decide), v0, show (2058 : Int32) + nI (K.1 2) = nI (2058 + K.1 2) from add_nI 2058 _, show (2064 : Int32) + nI (K.1 2) = nI (2064 + K.1 2) from add_nI 2064 _, inb_nI_t (show 2058 + K.1 2 < 2375 by omega) (by decide), if_pos rfl, inb_nI_t (show 2064 + K.1 2 < 2375 by omega) (by decide), if_pos rfl, nI_clamp (by omega), nI_clamp (by omega), show partW P n (K, N, lt) t = .inr (x.1, addW K, addN N 2 (K.1 2) x.2, lt) from by simp only [partW, bnd, e]]
    refine ⟨_, rfl, ((f1.tr (McF.C (by omega))).tr (McF.C (by omega))).tr (McF.C (by omega)), G.C.C.C, NXm.cs (c := bump K.1 2) (bump_m (M := q1.2) N1 (by decide) hlt ?_ (fun p hp hne => ?_) rfl ln) (fun q hq => fol_N hq), ?_⟩
    · rw [sR_at, show 1900 + 2 = 1902 from rfl, upd_at, sR_at, upd_ne _ _ (by omega), sR_at, upd_ne _ _ (by omega), g1, c1]
      exact add_nI (K.1 2) 1
    · rw [sR_at, upd_ne _ _ (by omega), sR_at, upd_ne _ _ (by omega), sR_at, upd_ne _ _ (by omega)]
    · show (sR _ 55 0 _).1 50 0 24 = _ ∧ RDr ((sR _ 55 0 _).1 55 0) _
      rw [sR_ne _ _ _ _ (by omega), sR_ne _ _ _ _ (by omega), sR_ne _ _ _ _ (by omega), sR_at, sR_at, sR_at, g1]
      exact ⟨k1.trans hD.2.1, RDr.low (by omega) (RDr.fo (b := K.1 2) (d := K.1 2) (c2 := K.1 2 + 1) bd hlt6 (by omega) hD.2.2 (fun w hw hne => hD.2.2.2.2.2.2.2.2.1 w (by omega)))⟩
set_option maxHeartbeats 600000 in
theorem opt_m {P : Nat → Int32} {n i p J : Nat} {pp : Int32} {R : Tk → Ft ⊕ (Tk × Int32)} {F : Mem → Option (Int32 × Mem)} {W : Mem → Option Int32} {M : Mem} {t : Tk} {K : Mem → Option Mem} {Q : Mem → Prop} (B : BY P n) (hW : W M = some (iw (wdS t) i)) (hF : ∀ M t, GM P n M t → ∃ q, F M = some q ∧ OMv P n M q (R t)) (hp : pp = nI p) (hp1 : 1900 ≤ p) (hp2 : p + J < 2375) (h : GM P n M t) (h0 : M.1 55 0 (p + J) = 0) (kb : ∀ M f, BM M f → K M = some M)
    (bad : ∀ M' f, optR P n i R t = .inl f → McF M M' → BM M' f → Q M') (good : ∀ M' a, optR P n i R t = .inr a → McF M M' → GM P n M' a.1 → M'.1 55 0 = upd (M.1 55 0) (p + J) a.2 → M'.1 50 0 24 = M.1 50 0 24 → M'.2 57 0 = M.2 57 0 → ∃ r, K M' = some r ∧ Q r) :
    ∃ r, (if M.1 50 0 12 = 0 then (W M).bind fun r => if r = 0 then K M else (f_X11_next M).bind fun M17 => (F M17).bind fun q18 => if inb (pp + nI J) 2375 = true then K (sR q18.2 55 0 (upd (q18.2.1 55 0) ((pp + nI J).toNatClampNeg) q18.1)) else none else K M) = some r ∧ Q r := by
  rw [h.2.2.2, if_pos rfl, hW, Option.bind_some]
  unfold iw
  by_cases c : wdS t = nI i
  · have eo : optR P n i R t = R (nx P n t) := if_pos c
    rw [if_pos c, if_neg (show ¬ (1 : Int32) = 0 from by decide)]
    obtain ⟨M1, a1, b1, d1⟩ := nx_m B h
    obtain ⟨q, a2, y2, z2, w2⟩ := OMv.y (hF M1 (nx P n t) d1)
    rw [a1, Option.bind_some, a2, Option.bind_some, hp, add_nI, inb_nI_t hp2 (by decide), if_pos rfl, nI_clamp (by omega)]
    rw [eo] at bad good
    have F2 := b1.y.tr y2
    cases e : R (nx P n t) with
    | inl f =>
      have bc := (z2 f e).C (g := upd (q.2.1 55 0) (p + J) q.1)
      rw [kb _ f bc]
      exact ⟨_, rfl, bad _ f e (F2.r.tr (McF.C (by omega))) bc⟩
    | inr a =>
      obtain ⟨g, vv⟩ := w2 a e
      refine good _ a e (F2.r.tr (McF.C (by omega))) g.C ?_ ?_ ?_
      · rw [sR_at, (F2.1 55 0 (by omega)).1, vv]
      · rw [sR_ne _ _ _ _ (by omega)]; exact F2.2.1 24 (by omega)
      · exact (F2.1 57 0 (by omega)).2
  · have eo : optR P n i R t = .inr (t, 0) := if_neg c
    rw [if_neg c, if_pos (show (0 : Int32) = 0 from rfl)]
    refine good M (t, 0) eo McF.rf h ?_ rfl rfl
    show M.1 55 0 = upd (M.1 55 0) (p + J) 0
    rw [← h0, upd_same]
