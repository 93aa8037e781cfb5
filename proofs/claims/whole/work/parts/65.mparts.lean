/-! ===== the reference's parts: sways, follows, hunger, law ===== -/
def RDr (r : Nat → Int32) (K : Co) : Prop := r 1904 = nI (K.1 4) ∧ r 1905 = nI (K.1 5) ∧ (∀ j, j < K.1 0 → r (1912 + j) = K.2 0 j ∧ r (1922 + j) = K.2 1 j ∧ r (1932 + j) = K.2 2 j ∧ r (1942 + j) = K.2 0 j) ∧
  (∀ j, K.1 0 ≤ j → j < 10 → r (1912 + j) = 0 ∧ r (1922 + j) = 0 ∧ r (1932 + j) = 0) ∧ (∀ a b, a < 10 → b < 10 → r (1952 + 10 * a + b) = K.2 3 (10 * a + b)) ∧ (∀ p, p < K.1 1 → r (2052 + p) = K.2 4 p) ∧
  (∀ w, w < K.1 2 → r (2058 + w) = nI (K.1 (100 + w)) ∧ r (2064 + w) = nI (K.1 (200 + w))) ∧ (∀ c w, c < 4 → w < 6 → r (2070 + 6 * c + w) = K.2 5 (6 * c + w)) ∧ ∀ j, zone j → r (1900 + j) = 0
def MO (P : Nat → Int32) (n : Nat) (M M' : Mem) (o : Po) : Prop := McF M M' ∧ match o with | .inl f => BM M' f | .inr a => GM P n M' a.1 ∧ DM M' a.2.1 a.2.2.1 a.2.2.2
def BdK (c : Nat → Nat) : Prop := c 0 ≤ 10 ∧ c 1 ≤ 6 ∧ c 2 ≤ 6 ∧ c 3 ≤ 4
set_option maxHeartbeats 600000 in
theorem NXm.bd {M : Mem} {x : Nat} {c : Nat → Nat} {N : Nat → Nat → Int64} (h : NXm M x c N) : BdK c := ⟨(h 0 (by decide)).2.1, (h 1 (by decide)).2.1, (h 2 (by decide)).2.1, (h 3 (by decide)).2.1⟩
set_option maxHeartbeats 600000 in
theorem RD.y {M M' : Mem} {K : Co} {lt : Bool} (f : YFr M M') (h : RD M K lt) : RD M' K lt := by
  unfold RD at h ⊢
  rw [(f.1 55 0 (by omega)).1, f.2.1 24 (by omega)]
  exact h
set_option maxHeartbeats 600000 in
theorem NXm.cg {M M' : Mem} {x : Nat} {c c' : Nat → Nat} {N : Nat → Nat → Int64} (h : NXm M x c N) (e : ∀ q, q < 4 → c' q = c q) (e1 : ∀ q, q < 4 → M'.1 55 0 (475 * x + q) = M.1 55 0 (475 * x + q)) (e2 : M'.2 57 0 = M.2 57 0) : NXm M' x c' N := fun q hq => by rw [e q hq, e1 q hq, e2]; exact h q hq
set_option maxHeartbeats 600000 in
theorem RDr.sw {r : Nat → Int32} {K : Co} {a b : Nat} {v : Int32} (bd : BdK K.1) (ha : a < 10) (hb : b < 10) (h : RDr r K) : RDr (upd r (1952 + 10 * a + b) v) (K.1, set2 K.2 3 (10 * a + b) v) := by
  obtain ⟨d0, d1, d2, d3⟩ := bd
  obtain ⟨q1, q2, q3, q4, q5, q6, q7, q8, q9⟩ := h
  have e4 : ∀ i j, ¬ i = 3 → (set2 K.2 3 (10 * a + b) v) i j = K.2 i j := fun i j hi => set2_ne (fun z => hi z.1)
  refine ⟨?_, ?_, fun j hj => ?_, fun j h1 h2 => ?_, fun x y hx hy => ?_, fun p hp => ?_, fun w hw => ?_, fun c w hc hw => ?_, fun j hz => ?_⟩
  · rw [upd_ne _ _ (by omega)]; exact q1
  · rw [upd_ne _ _ (by omega)]; exact q2
  · have hj : j < K.1 0 := hj
    dsimp only
    rw [upd_ne _ _ (by omega), upd_ne _ _ (by omega), upd_ne _ _ (by omega), upd_ne _ _ (by omega), e4 0 _ (by decide), e4 1 _ (by decide), e4 2 _ (by decide)]; exact q3 j hj
  · rw [upd_ne _ _ (by omega), upd_ne _ _ (by omega), upd_ne _ _ (by omega)]; exact q4 j h1 h2
  · dsimp only
    by_cases e : 10 * x + y = 10 * a + b
    · rw [show 1952 + 10 * x + y = 1952 + 10 * a + b by omega, upd_at, e, set2_at]
    · rw [upd_ne _ _ (by omega), set2_ne (fun z => e z.2)]; exact q5 x y hx hy
  · have hp : p < K.1 1 := hp
    dsimp only
    rw [upd_ne _ _ (by omega), e4 4 _ (by decide)]; exact q6 p hp
  · have hw : w < K.1 2 := hw
    dsimp only
    rw [upd_ne _ _ (by omega), upd_ne _ _ (by omega)]; exact q7 w hw
  · dsimp only
    rw [upd_ne _ _ (by omega), e4 5 _ (by decide)]; exact q8 c w hc hw
  · have hz2 : (6 ≤ j ∧ j ≤ 11) ∨ (194 ≤ j ∧ j < 475) := hz
    rw [upd_ne _ _ (by omega)]; exact q9 j hz
set_option maxHeartbeats 600000 in
theorem RDr.fo {r : Nat → Int32} {K : Co} {a b d c2 : Nat} (bd : BdK K.1) (ha : a < 6) (hc2 : c2 ≤ 6) (h : RDr r K) (hn : ∀ w, w < c2 → ¬ w = a → r (2058 + w) = nI (K.1 (100 + w)) ∧ r (2064 + w) = nI (K.1 (200 + w))) : RDr (upd (upd r (2058 + a) (nI b)) (2064 + a) (nI d)) (folK (updN K.1 2 c2, K.2) a b d) := by
  obtain ⟨d0, d1, d2, d3⟩ := bd
  obtain ⟨q1, q2, q3, q4, q5, q6, q7, q8, q9⟩ := h
  have e3 : ∀ i, i < 100 → ¬ i = 2 → (folK (updN K.1 2 c2, K.2) a b d).1 i = K.1 i := by
    intro i hi h2
    unfold folK
    simp only
    rw [if_neg (by omega), if_neg (by omega)]
    exact updN_ne _ _ h2
  have e2 : (folK (updN K.1 2 c2, K.2) a b d).1 2 = c2 := by
    unfold folK
    simp only
    rw [if_neg (by omega), if_neg (by omega)]
    rfl
  refine ⟨?_, ?_, fun j hj => ?_, fun j h1 h2 => ?_, fun x y hx hy => ?_, fun p hp => ?_, fun w hw => ?_, fun c w hc hw => ?_, fun j hz => ?_⟩
  · rw [upd_ne _ _ (by omega), upd_ne _ _ (by omega), e3 4 (by decide) (by decide)]; exact q1
  · rw [upd_ne _ _ (by omega), upd_ne _ _ (by omega), e3 5 (by decide) (by decide)]; exact q2
  · rw [e3 0 (by decide) (by decide)] at hj
    have g : ∀ k, ¬ k = 2058 + a → ¬ k = 2064 + a → upd (upd r (2058 + a) (nI b)) (2064 + a) (nI d) k = r k := fun k h1 h2 => by rw [upd_ne _ _ h2, upd_ne _ _ h1]
    rw [g _ (by omega) (by omega), g _ (by omega) (by omega), g _ (by omega) (by omega), g _ (by omega) (by omega)]; exact q3 j hj
  · rw [e3 0 (by decide) (by decide)] at h1
    have g : ∀ k, ¬ k = 2058 + a → ¬ k = 2064 + a → upd (upd r (2058 + a) (nI b)) (2064 + a) (nI d) k = r k := fun k h1 h2 => by rw [upd_ne _ _ h2, upd_ne _ _ h1]
    rw [g _ (by omega) (by omega), g _ (by omega) (by omega), g _ (by omega) (by omega)]; exact q4 j h1 h2
  · rw [upd_ne _ _ (by omega), upd_ne _ _ (by omega)]; exact q5 x y hx hy
  · rw [e3 1 (by decide) (by decide)] at hp
    rw [upd_ne _ _ (by omega), upd_ne _ _ (by omega)]; exact q6 p hp
  · rw [e2] at hw
    unfold folK
    simp only
    by_cases ev : w = a
    · rw [ev, if_pos rfl, if_neg (by omega), if_pos rfl, upd_at, upd_ne _ _ (by omega), upd_at]
      exact ⟨rfl, rfl⟩
    · rw [if_neg (by omega), if_neg (by omega), if_neg (by omega), if_neg (by omega), updN_ne (k := 2) (j := 100 + w) _ _ (by omega), updN_ne (k := 2) (j := 200 + w) _ _ (by omega), upd_ne (i := 2064 + a) (j := 2058 + w) _ _ (by omega), upd_ne (i := 2058 + a) (j := 2058 + w) _ _ (by omega), upd_ne (i := 2064 + a) (j := 2064 + w) _ _ (by omega), upd_ne (i := 2058 + a) (j := 2064 + w) _ _ (by omega)]
      exact hn w hw ev
  · rw [upd_ne _ _ (by omega), upd_ne _ _ (by omega)]; exact q8 c w hc hw
  · have hz2 : (6 ≤ j ∧ j ≤ 11) ∨ (194 ≤ j ∧ j < 475) := hz
    rw [upd_ne _ _ (by omega), upd_ne _ _ (by omega)]; exact q9 j hz
set_option maxHeartbeats 600000 in
theorem RDr.cg {r : Nat → Int32} {K K' : Co} (h : RDr r K) (e1 : ∀ j, ¬ j = 3 → K'.1 j = K.1 j) (e2 : K'.2 = K.2) : RDr r K' := by
  unfold RDr at h ⊢
  rw [e1 0 (by decide), e1 1 (by decide), e1 2 (by decide), e1 4 (by decide), e1 5 (by decide), e2]
  refine ⟨h.1, h.2.1, h.2.2.1, h.2.2.2.1, h.2.2.2.2.1, h.2.2.2.2.2.1, fun w hw => ?_, h.2.2.2.2.2.2.2⟩
  rw [e1 _ (by omega), e1 _ (by omega)]
  exact h.2.2.2.2.2.2.1 w hw
set_option maxHeartbeats 600000 in
theorem RDr.two {r : Nat → Int32} {K : Co} {j p v : Nat} (bd : BdK K.1) (hj : j = 4 ∧ p = 1904 ∨ j = 5 ∧ p = 1905) (h : RDr r K) : RDr (upd r p (nI v)) (updN K.1 j v, K.2) := by
  obtain ⟨d0, d1, d2, d3⟩ := bd
  obtain ⟨q1, q2, q3, q4, q5, q6, q7, q8, q9⟩ := h
  have n0 : ∀ i, ¬ i = j → (updN K.1 j v) i = K.1 i := fun i hi => updN_ne _ _ hi
  have g : ∀ k, 1906 ≤ k → upd r p (nI v) k = r k := fun k h1 => upd_ne _ _ (by omega)
  refine ⟨?_, ?_, fun i hi => ?_, fun i h1 h2 => ?_, fun x y hx hy => ?_, fun u hu => ?_, fun w hw => ?_, fun c w hc hw => ?_, fun i hz => ?_⟩
  · dsimp only
    rcases hj with ⟨h1, h2⟩ | ⟨h1, h2⟩
    · rw [h1, h2, upd_at]; rfl
    · rw [h2, upd_ne (i := 1905) (j := 1904) _ _ (by decide), n0 4 (by omega)]; exact q1
  · dsimp only
    rcases hj with ⟨h1, h2⟩ | ⟨h1, h2⟩
    · rw [h2, upd_ne (i := 1904) (j := 1905) _ _ (by decide), n0 5 (by omega)]; exact q2
    · rw [h1, h2, upd_at]; rfl
  · have hi : i < (updN K.1 j v) 0 := hi
    rw [n0 0 (by omega)] at hi
    rw [g _ (by omega), g _ (by omega), g _ (by omega), g _ (by omega)]; exact q3 i hi
  · have h1 : (updN K.1 j v) 0 ≤ i := h1
    rw [n0 0 (by omega)] at h1
    rw [g _ (by omega), g _ (by omega), g _ (by omega)]; exact q4 i h1 h2
  · rw [g _ (by omega)]; exact q5 x y hx hy
  · have hu : u < (updN K.1 j v) 1 := hu
    rw [n0 1 (by omega)] at hu
    rw [g _ (by omega)]; exact q6 u hu
  · have hw : w < (updN K.1 j v) 2 := hw
    rw [n0 2 (by omega)] at hw
    dsimp only
    rw [g _ (by omega), g _ (by omega), n0 _ (by omega), n0 _ (by omega)]; exact q7 w hw
  · rw [g _ (by omega)]; exact q8 c w hc hw
  · have hz2 : (6 ≤ i ∧ i ≤ 11) ∨ (194 ≤ i ∧ i < 475) := hz
    rw [g _ (by omega)]; exact q9 i hz
set_option maxHeartbeats 600000 in
theorem rtold_y {M : Mem} {P : Nat → Int32} {n x q : Nat} {c : Nat → Nat} {N : Nat → Nat → Int64} {t : Tk} (B : BY P n) (h : GM P n M t) (hN : NXm M x c N) (hx : x < 5) (hq : q < 4) : ∃ r, f_X11_readTold (nI x) (nI q) M = some r ∧ YFr M r.2 ∧ (∀ f, seeR c N q t = .inl f → BM r.2 f) ∧ ∀ i, seeR c N q t = .inr i → GM P n r.2 (nx P n t) ∧ r.1 = nI i ∧ i < c q := by
  obtain ⟨r, a, b, d⟩ := rtold_m B h hN hx hq
  exact ⟨r, a, b, fun f e => by rw [e] at d; exact d, fun i e => by rw [e] at d; exact d⟩
set_option maxHeartbeats 600000 in
theorem told_y {M : Mem} {P : Nat → Int32} {n x q : Nat} {c : Nat → Nat} {N : Nat → Nat → Int64} {t : Tk} (B : BY P n) (h : GM P n M t) (hN : NXm M x c N) (hx : x < 5) (hq : q < 4) : ∃ r, f_X11_told (nI x) (nI q) M = some r ∧ YFr M r.2 ∧ (∀ f, seeR c N q t = .inl f → BM r.2 f) ∧ ∀ i, seeR c N q t = .inr i → GM P n r.2 t ∧ r.1 = nI i ∧ i < c q := by
  obtain ⟨r, a, b, d⟩ := told_m B h hN hx hq
  exact ⟨r, a, b, fun f e => by rw [e] at d; exact d, fun i e => by rw [e] at d; exact d⟩
set_option maxHeartbeats 600000 in
theorem OMv.y {P : Nat → Int32} {n : Nat} {F : Option (Int32 × Mem)} {M : Mem} {o : Ft ⊕ (Tk × Int32)} (h : ∃ q, F = some q ∧ OMv P n M q o) : ∃ r, F = some r ∧ YFr M r.2 ∧ (∀ f, o = .inl f → BM r.2 f) ∧ ∀ t, o = .inr t → GM P n r.2 t.1 ∧ r.1 = t.2 := by
  obtain ⟨r, a, b, d⟩ := h
  exact ⟨r, a, b, fun f e => by rw [e] at d; exact d, fun i e => by rw [e] at d; exact d⟩
set_option maxHeartbeats 600000 in
theorem sways39_b {M : Mem} {x y : Int32} {f : Ft} (h : BM M f) : f_X11_readSways_39 x y M = some M := by
  unfold f_X11_readSways_39
  rw [must_b h, Option.bind_some, count_b h, Option.bind_some, h.2.1, if_neg (pos_ne h.1)]
set_option maxHeartbeats 600000 in
theorem partS_m {P : Nat → Int32} {n : Nat} {M : Mem} {K : Co} {N : Nat → Nat → Int64} {lt : Bool} {t : Tk} (B : BY P n) (h : GM P n M t) (hD : DM M K N lt) : ∃ M', f_X11_readSways M = some M' ∧ MO P n M M' (partS P n (K, N, lt) t) := by
  have bd := hD.1.bd
  obtain ⟨M1, a1, b1, d1⟩ := nx_m B h
  unfold f_X11_readSways
  rw [a1, Option.bind_some]
  obtain ⟨q2, a2, y2, z2, w2⟩ := rtold_y (x := 4) (q := 0) B d1 (b1.y.N hD.1) (by decide) (by decide)
  rw [show f_X11_readTold (4 : Int32) (0 : Int32) M1 = some q2 from a2, Option.bind_some]
  have F2 := b1.y.tr y2
  cases eo : seeR K.1 N 0 (nx P n t) with
  | inl f =>
    have bm := z2 f eo
    rw [told_b bm, Option.bind_some, show partS P n (K, N, lt) t = .inl f from by simp only [partS, bnd, eo]]
    simp only
    rw [bm.2.1, if_neg (pos_ne bm.1), sways39_b bm]
    exact ⟨_, rfl, F2.r, bm⟩
  | inr a =>
    obtain ⟨g2, va, ha⟩ := w2 a eo
    obtain ⟨q3, a3, y3, z3, w3⟩ := told_y (x := 4) (q := 0) B g2 (F2.N hD.1) (by decide) (by decide)
    rw [show f_X11_told (4 : Int32) (0 : Int32) q2.2 = some q3 from a3, Option.bind_some]
    have F3 := F2.tr y3
    cases eo2 : seeR K.1 N 0 (nx P n (nx P n t)) with
    | inl f =>
      have bm := z3 f eo2
      rw [show partS P n (K, N, lt) t = .inl f from by simp only [partS, bnd, eo, eo2]]
      rw [bm.2.1, if_neg (pos_ne bm.1), sways39_b bm]
      exact ⟨_, rfl, F3.r, bm⟩
    | inr b =>
      obtain ⟨g3, vb, hb⟩ := w3 b eo2
      have := bd.1
      rw [g3.2.2.2, if_pos rfl, va, vb]
      by_cases eab : a = b
      · rw [if_pos (by rw [eab]), show partS P n (K, N, lt) t = .inl (5, (nx P n (nx P n t)).1) from by simp only [partS, bnd, eo, eo2]; exact if_pos eab]
        obtain ⟨M', a5, b5, d5⟩ := fail_m (why := 5) g3.2.2.2 g3.2.1 (by decide)
        rw [a5, Option.bind_some, sways39_b d5]
        exact ⟨_, rfl, (F3.tr b5).r, d5⟩
      · rw [if_neg (by rw [eq_nI (by omega) (by omega)]; exact eab)]
        unfold f_X11_readSways_39
        obtain ⟨M4, a4, b4, d4⟩ := must_m (r := 1) B g3
        rw [if_neg (show ¬ (1 : Int32) = 0 from by decide)] at d4
        rw [a4, Option.bind_some]
        obtain ⟨q5, a5, y5, z5, w5⟩ := OMv.y (count_m (lo := 0) (hi := 20) B d4)
        rw [a5, Option.bind_some]
        have F5 := (F3.tr b4).tr y5
        cases eo3 : numR P n 0 20 (nx P n (nx P n (nx P n t))) with
        | inl f =>
          have bm := z5 f eo3
          rw [bm.2.1, if_neg (pos_ne bm.1), show partS P n (K, N, lt) t = .inl f from by simp only [partS, bnd, eo, eo2, eo3]; exact if_neg eab]
          exact ⟨_, rfl, F5.r, bm⟩
        | inr v =>
          obtain ⟨g5, vv⟩ := w5 v eo3
          rw [g5.2.2.2, if_pos rfl, show (1952 : Int32) + (10 : Int32) * nI a + nI b = nI (1952 + 10 * a + b) from by rw [show (1952 : Int32) = nI 1952 from rfl, show (10 : Int32) = nI 10 from rfl, mul_nI, add_nI, add_nI], inb_nI_t (show 1952 + 10 * a + b < 2375 by omega) (by decide), if_pos rfl, nI_clamp (by omega), vv, show partS P n (K, N, lt) t = .inr (v.1, (K.1, set2 K.2 3 (10 * a + b) v.2), N, lt) from by simp only [partS, bnd, eo, eo2, eo3]; exact if_neg eab]
          have R := RD.y F5 hD.2
          refine ⟨_, rfl, F5.r.tr (McF.C (by omega)), g5.C, (F5.N hD.1).cg (fun _ _ => rfl) (fun q hq => by rw [sR_at, upd_ne _ _ (by omega)]) rfl, ?_⟩
          show (sR q5.2 55 0 _).1 50 0 24 = _ ∧ RDr ((sR q5.2 55 0 _).1 55 0) _
          rw [sR_ne _ _ _ _ (by omega), sR_at]
          exact ⟨R.1, RDr.sw bd (by omega) (by omega) R.2⟩
