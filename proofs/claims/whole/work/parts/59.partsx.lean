/-! ===== the parts of a court on the class ===== -/
set_option maxHeartbeats 600000 in
theorem NX.cg {M : Mem} {k : Nat} {c c' : Nat → Nat} {N : Nat → Nat → Int64} (h : NX M k c N) (e : ∀ q, q < 4 → c' q = c q) : NX M k c' N := fun q hq => by rw [e q hq]; exact h q hq
set_option maxHeartbeats 600000 in
theorem CtF.N0 {M M' : Mem} {c : Nat → Nat} {N : Nat → Nat → Int64} (e1 : M'.1 9 4 = M.1 9 4) (e2 : M'.2 10 4 = M.2 10 4) (h : NX M 4 c N) : NX M' 4 c N := fun q hq => by rw [e1, e2]; exact h q hq
set_option maxHeartbeats 600000 in
theorem DR.cg {M : Mem} {K K' : Co} {lt : Bool} (h : DR M K lt) (e1 : ∀ j, ¬ j = 3 → K'.1 j = K.1 j) (e2 : K'.2 = K.2) : DR M K' lt := by
  unfold DR at h ⊢
  rw [e1 0 (by decide), e1 1 (by decide), e1 2 (by decide), e1 4 (by decide), e1 5 (by decide), e2]
  refine ⟨h.1, h.2.1, h.2.2.1, h.2.2.2.1, h.2.2.2.2.1, h.2.2.2.2.2.1, h.2.2.2.2.2.2.1, fun w hw => ?_, h.2.2.2.2.2.2.2.2⟩
  rw [e1 _ (by omega), e1 _ (by omega)]
  exact h.2.2.2.2.2.2.2.1 w hw
set_option maxHeartbeats 600000 in
theorem set2_ne {f : Nat → Nat → Int32} {a b x y : Nat} {v : Int32} (h : ¬ (x = a ∧ y = b)) : set2 f a b v x y = f x y := if_neg h
set_option maxHeartbeats 600000 in
theorem set2_at {f : Nat → Nat → Int32} {a b : Nat} {v : Int32} : set2 f a b v a b = v := if_pos ⟨rfl, rfl⟩
set_option maxHeartbeats 600000 in
theorem bump_at {c : Nat → Nat} {q : Nat} : bump c q q = c q + 1 := if_pos rfl
set_option maxHeartbeats 600000 in
theorem bump_ne {c : Nat → Nat} {q p : Nat} (h : ¬ p = q) : bump c q p = c p := if_neg h
set_option maxHeartbeats 600000 in
theorem partJ_x {P : Nat → Int32} {n : Nat} {M : Mem} {K : Co} {N : Nat → Nat → Int64} {lt : Bool} {t : Tk} (B : BY P n) (h : GX P n M t) (h1 : t.2.2.1 = 1) (hD : DX M K N lt) : ∃ r, ((f_X2_needNew 4 (0 : Int32) M).bind fun q2 => if q2.1 = 0 then some ((0 : Int32), q2.2) else (f_X2_readJuror 4 q2.2).bind fun q3 => if q3.1 = 0 then some ((0 : Int32), q3.2) else some ((1 : Int32), q3.2)) = some r ∧ CO P n M r (partJ P n (K, N, lt) t) := by
  obtain ⟨r, a, w, k, d⟩ := new_x (q := 0) B h h1 hD.1 (by decide)
  rw [show f_X2_needNew 4 (0 : Int32) M = some r from a, Option.bind_some]
  cases e : newR P n K.1 N 0 t with
  | inl f =>
    rw [e] at d
    rw [if_pos d.1, show partJ P n (K, N, lt) t = .inl f from by simp only [partJ, bnd, e]]
    exact ⟨_, rfl, w, rfl, d.2⟩
  | inr x =>
    rw [e] at d
    obtain ⟨d1, d2, d3, d4, d5⟩ := d
    have hm := (hD.1 0 (by decide)).2.1
    have hJ : K.1 0 < 10 := d4
    obtain ⟨r2, a2, w2, ⟨f1, f2, f3, f4⟩, g⟩ := juror_x B d2 hJ d3
    rw [if_neg (by rw [d1]; decide), a2, Option.bind_some]
    cases e2 : jurR P n x.1 with
    | inl f =>
      rw [e2] at g
      rw [if_pos g.1, show partJ P n (K, N, lt) t = .inl f from by simp only [partJ, bnd, e, e2]]
      exact ⟨_, rfl, w.tr w2, rfl, g.2⟩
    | inr y =>
      rw [e2] at g
      obtain ⟨g1, g2, g3, g4, g5⟩ := g
      rw [if_neg (by rw [g1]; decide), show partJ P n (K, N, lt) t = .inr (y.1, addJ K y.2.1 y.2.2.1 y.2.2.2, addN N 0 (K.1 0) x.2, lt) from by simp only [partJ, bnd, e, e2]]
      refine ⟨_, rfl, w.tr w2, rfl, g2, CtF.N0 (f1 9 (by decide) (by decide) (by decide) (by decide) (by decide)) f4 d5, ?_⟩
      have R := DR.k k hD.2
      obtain ⟨q1, q2, q3, q4, q5, q6, q7, q8, q9⟩ := R
      have e3 : ∀ i, ¬ i = 0 → (addJ K y.2.1 y.2.2.1 y.2.2.2).1 i = K.1 i := fun i hi => bump_ne hi
      have e4 : ∀ i j, ¬ i = 0 → ¬ i = 1 → ¬ i = 2 → (addJ K y.2.1 y.2.2.1 y.2.2.2).2 i j = K.2 i j := by
        intro i j h0 h1 h2
        unfold addJ
        simp only
        rw [set2_ne (fun z => h2 z.1), set2_ne (fun z => h1 z.1), set2_ne (fun z => h0 z.1)]
      have e5 : ∀ i j, ¬ j = K.1 0 → (addJ K y.2.1 y.2.2.1 y.2.2.2).2 i j = K.2 i j := by
        intro i j h0
        unfold addJ
        simp only
        rw [set2_ne (fun z => h0 z.2), set2_ne (fun z => h0 z.2), set2_ne (fun z => h0 z.2)]
      refine ⟨?_, ?_, ?_, fun j hj => ?_, fun a b ha hb => ?_, fun b hb => ?_, fun p hp => ?_, fun v hv => ?_, fun c v hc hv => ?_⟩
      · rw [f1 8 (by decide) (by decide) (by decide) (by decide) (by decide), e3 4 (by decide)]; exact q1
      · rw [f1 8 (by decide) (by decide) (by decide) (by decide) (by decide), e3 5 (by decide)]; exact q2
      · rw [f3]; exact q3
      · have hj : j < bump K.1 0 0 := hj
        rw [bump_at] at hj
        by_cases ej : j = K.1 0
        · unfold addJ
          simp only
          rw [ej, set2_ne (by omega), set2_ne (by omega), set2_at, set2_ne (by omega), set2_at, set2_at]
          exact ⟨g3, g4, g5⟩
        · rw [e5 0 j ej, e5 1 j ej, e5 2 j ej, (f2 j ej).1, (f2 j ej).2.1, (f2 j ej).2.2]
          exact q4 j (by omega)
      · rw [f1 14 (by decide) (by decide) (by decide) (by decide) (by decide), e4 3 _ (by decide) (by decide) (by decide)]; exact q5 a b ha hb
      · obtain ⟨T, t1, t2, t3⟩ := q6 b hb
        refine ⟨T, by rw [f1 15 (by decide) (by decide) (by decide) (by decide) (by decide)]; exact t1, t2, fun a ha => ?_⟩
        rw [e4 3 _ (by decide) (by decide) (by decide)]; exact t3 a ha
      · rw [e3 1 (by decide)] at hp
        rw [f1 16 (by decide) (by decide) (by decide) (by decide) (by decide), e4 4 _ (by decide) (by decide) (by decide)]; exact q7 p hp
      · rw [e3 2 (by decide)] at hv
        rw [f1 17 (by decide) (by decide) (by decide) (by decide) (by decide), f1 18 (by decide) (by decide) (by decide) (by decide) (by decide), e3 _ (by omega), e3 _ (by omega)]; exact q8 v hv
      · rw [f1 19 (by decide) (by decide) (by decide) (by decide) (by decide), e4 5 _ (by decide) (by decide) (by decide)]; exact q9 c v hc hv
set_option maxHeartbeats 600000 in
theorem partP_x {P : Nat → Int32} {n : Nat} {M : Mem} {K : Co} {N : Nat → Nat → Int64} {lt : Bool} {t : Tk} (B : BY P n) (h : GX P n M t) (h1 : t.2.2.1 = 1) (hD : DX M K N lt) : ∃ r, ((f_X2_needNew 4 (1 : Int32) M).bind fun q2 => if q2.1 = 0 then some ((0 : Int32), q2.2) else (f_X2_readProof 4 q2.2).bind fun q3 => if q3.1 = 0 then some ((0 : Int32), q3.2) else some ((1 : Int32), q3.2)) = some r ∧ CO P n M r (partP P n (K, N, lt) t) := by
  obtain ⟨r, a, w, k, d⟩ := new_x (q := 1) B h h1 hD.1 (by decide)
  rw [show f_X2_needNew 4 (1 : Int32) M = some r from a, Option.bind_some]
  cases e : newR P n K.1 N 1 t with
  | inl f =>
    rw [e] at d
    rw [if_pos d.1, show partP P n (K, N, lt) t = .inl f from by simp only [partP, bnd, e]]
    exact ⟨_, rfl, w, rfl, d.2⟩
  | inr x =>
    rw [e] at d
    obtain ⟨d1, d2, d3, d4, d5⟩ := d
    have hJ : K.1 1 < 6 := d4
    obtain ⟨r2, a2, w2, g⟩ := eith_x (hi := 99) B d2
    rw [if_neg (by rw [d1]; decide)]
    unfold f_X2_readProof
    rw [a2, Option.bind_some]
    cases e2 : eithR P n 99 x.1 with
    | inl f =>
      rw [e2] at g
      rw [if_pos g.1, Option.bind_some, if_pos rfl, show partP P n (K, N, lt) t = .inl f from by simp only [partP, bnd, e, e2]]
      exact ⟨_, rfl, w.tr w2.w, rfl, g.2⟩
    | inr y =>
      rw [e2] at g
      obtain ⟨g1, g2, g3⟩ := g
      rw [if_neg (by rw [g1]; decide), d3, inb_nI_t hJ (by decide), if_pos rfl, Option.bind_some, if_neg (show ¬ (1 : Int32) = 0 from by decide), nI_clamp (by omega), show partP P n (K, N, lt) t = .inr (y.1, addP K y.2, addN N 1 (K.1 1) x.2, lt) from by simp only [partP, bnd, e, e2]]
      have R := DR.k (k.tr w2.k) hD.2
      obtain ⟨q1, q2, q3, q4, q5, q6, q7, q8, q9⟩ := R
      refine ⟨_, rfl, (w.tr w2.w).tr (CtF.R (by omega)), rfl, g2.sR (by omega), CtF.N0 (sR_ne _ _ _ _ (by omega)) rfl (w2.N d5), ?_⟩
      have e3 : ∀ i, ¬ i = 1 → (addP K y.2).1 i = K.1 i := fun i hi => bump_ne hi
      have e4 : ∀ i j, ¬ i = 4 → (addP K y.2).2 i j = K.2 i j := fun i j hi => set2_ne (fun z => hi z.1)
      have f1 : ∀ c, ¬ c = 16 → (sR r2.2 16 4 (upd (r2.2.1 16 4) (K.1 1) (r2.2.1 30 0 9))).1 c 4 = r2.2.1 c 4 := fun c hc => sR_ne _ _ _ _ (fun z => hc z.1)
      refine ⟨?_, ?_, ?_, fun j hj => ?_, fun a b ha hb => ?_, fun b hb => ?_, fun p hp => ?_, fun v hv => ?_, fun c v hc hv => ?_⟩
      · rw [f1 8 (by decide), e3 4 (by decide)]; exact q1
      · rw [f1 8 (by decide), e3 5 (by decide)]; exact q2
      · rw [sR_ne _ _ _ _ (by omega)]; exact q3
      · rw [e3 0 (by decide)] at hj
        rw [f1 11 (by decide), f1 12 (by decide), f1 13 (by decide), e4 0 _ (by decide), e4 1 _ (by decide), e4 2 _ (by decide)]; exact q4 j hj
      · rw [f1 14 (by decide), e4 3 _ (by decide)]; exact q5 a b ha hb
      · obtain ⟨T, t1, t2, t3⟩ := q6 b hb
        refine ⟨T, by rw [f1 15 (by decide)]; exact t1, t2, fun a ha => ?_⟩
        rw [e4 3 _ (by decide)]; exact t3 a ha
      · have hp : p < bump K.1 1 1 := hp
        rw [bump_at] at hp
        rw [sR_at]
        unfold addP
        simp only
        by_cases ep : p = K.1 1
        · rw [ep, upd_at, set2_at]; exact g3
        · rw [upd_ne _ _ ep, set2_ne (fun z => ep z.2)]; exact q7 p (by omega)
      · rw [e3 2 (by decide)] at hv
        rw [f1 17 (by decide), f1 18 (by decide), e3 _ (by omega), e3 _ (by omega)]; exact q8 v hv
      · rw [f1 19 (by decide), e4 5 _ (by decide)]; exact q9 c v hc hv
