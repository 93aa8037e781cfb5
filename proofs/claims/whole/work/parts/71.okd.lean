/-! ===== what a draft is; every part keeps it ===== -/
def OKD (D : Dr) : Prop := BdK D.1.1 ∧ D.1.1 4 ≤ 99 ∧ D.1.1 5 ≤ 2 ∧ (∀ w, w < D.1.1 2 → D.1.1 (100 + w) < D.1.1 2 ∧ D.1.1 (200 + w) < D.1.1 2) ∧ (∀ j, j < D.1.1 0 → inR (-99) 99 (D.1.2 0 j) ∧ inR 0 20 (D.1.2 1 j) ∧ inR 0 99 (D.1.2 2 j)) ∧
  (∀ a b, a < 10 → b < 10 → inR 0 20 (D.1.2 3 (10 * a + b)) ∧ (¬ (a < D.1.1 0 ∧ b < D.1.1 0 ∧ ¬ a = b) → D.1.2 3 (10 * a + b) = 0)) ∧ (∀ p, p < D.1.1 1 → inR (-99) 99 (D.1.2 4 p)) ∧ ∀ c w, c < 4 → w < 6 → inR (-99) 99 (D.1.2 5 (6 * c + w))
set_option maxHeartbeats 600000 in
theorem in_num {P : Nat → Int32} {n : Nat} {lo hi : Int32} {t : Tk} {a : Tk × Int32} (e : numR P n lo hi t = .inr a) : inR lo hi a.2 := by
  obtain ⟨-, -, h1, h2⟩ := num_inv e
  exact ⟨Int32.not_lt.mp h1, Int32.not_lt.mp h2⟩
set_option maxHeartbeats 600000 in
theorem in_neg {v : Int32} (h : inR 0 99 v) : inR (-99) 99 v ∧ inR (-99) 99 (-v) := by
  rcases arg_cases v with q | ⟨i, hi, rfl⟩
  · exact absurd q (Int32.not_lt.mpr h.1)
  · have h2 : ¬ nI 99 < nI i := Int32.not_lt.mpr h.2
    rw [lt_nI (by omega) hi] at h2
    have all : ∀ i, i < 100 → inR (-99) 99 (nI i) ∧ inR (-99) 99 (-(nI i)) := by
      unfold inR
      decide +kernel
    exact all i (by omega)
set_option maxHeartbeats 600000 in
theorem in_eith {P : Nat → Int32} {n : Nat} {t : Tk} {a : Tk × Int32} (e : eithR P n 99 t = .inr a) : inR (-99) 99 a.2 := by
  obtain ⟨b, e1, -, e3⟩ := eith_inv e
  have h := in_neg (in_num e1)
  rw [e3]
  split
  · exact h.2
  · exact h.1
set_option maxHeartbeats 600000 in
theorem in_opt {P : Nat → Int32} {n i : Nat} {R : Tk → Ft ⊕ (Tk × Int32)} {lo hi : Int32} {t : Tk} {a : Tk × Int32} (hR : ∀ t a, R t = .inr a → inR lo hi a.2) (h0 : inR lo hi 0) (e : optR P n i R t = .inr a) : inR lo hi a.2 := by
  unfold optR at e
  by_cases c : wdS t = nI i
  · rw [if_pos c] at e
    exact hR _ _ e
  · rw [if_neg c] at e
    cases e
    exact h0
set_option maxHeartbeats 600000 in
theorem okd_0 : OKD DrO := by
  refine ⟨⟨Nat.zero_le _, Nat.zero_le _, Nat.zero_le _, Nat.zero_le _⟩, Nat.zero_le _, Nat.zero_le _, fun w hw => absurd hw (Nat.not_lt_zero _), fun w hw => absurd hw (Nat.not_lt_zero _), fun a b _ _ => ⟨?_, fun _ => rfl⟩, fun w hw => absurd hw (Nat.not_lt_zero _), fun c w _ _ => ?_⟩
  · show inR 0 20 0
    unfold inR; decide
  · show inR (-99) 99 0
    unfold inR; decide
set_option maxHeartbeats 600000 in
theorem okd_J {P : Nat → Int32} {n : Nat} {D : Dr} {t : Tk} {a : Tk × Dr} (h : OKD D) (e : partJ P n D t = .inr a) : OKD a.2 := by
  obtain ⟨x, e1, e⟩ := bnd_inv e
  obtain ⟨y, e2, e⟩ := bnd_inv e
  cases e
  obtain ⟨u, e3, e2⟩ := bnd_inv e2
  obtain ⟨v, e4, e2⟩ := bnd_inv e2
  obtain ⟨w, e5, e2⟩ := bnd_inv e2
  cases e2
  have i1 := in_opt (fun _ _ e => in_eith e) (by unfold inR; decide) e3
  have i2 := in_opt (fun _ _ e => in_num e) (by unfold inR; decide) e4
  have i3 := in_opt (fun _ _ e => in_num e) (by unfold inR; decide) e5
  obtain ⟨⟨b0, b1, b2, b3⟩, h4, h5, h6, h7, h8, h9, h10⟩ := h
  have hlt : D.1.1 0 < 10 := by
    have z := (new_inv e1).1
    have : moN 0 = 10 := rfl
    omega
  have c0 : (addJ D.1 u.2 v.2 w.2).1 0 = D.1.1 0 + 1 := by show bump D.1.1 0 0 = D.1.1 0 + 1; exact bump_at
  have c1 : ∀ i, ¬ i = 0 → (addJ D.1 u.2 v.2 w.2).1 i = D.1.1 i := fun i hi => bump_ne hi
  have e4' : ∀ i j, ¬ i = 0 → ¬ i = 1 → ¬ i = 2 → (addJ D.1 u.2 v.2 w.2).2 i j = D.1.2 i j := by
    intro i j h0 h1 h2
    unfold addJ
    simp only
    rw [set2_ne (fun z => h2 z.1), set2_ne (fun z => h1 z.1), set2_ne (fun z => h0 z.1)]
  refine ⟨⟨?_, ?_, ?_, ?_⟩, ?_, ?_, fun q hq => ?_, fun j hj => ?_, fun p q hp hq => ?_, fun p hp => ?_, fun c q hc hq => ?_⟩
  · show (addJ D.1 u.2 v.2 w.2).1 0 ≤ 10; rw [c0]; omega
  · show (addJ D.1 u.2 v.2 w.2).1 1 ≤ 6; rw [c1 1 (by decide)]; exact b1
  · show (addJ D.1 u.2 v.2 w.2).1 2 ≤ 6; rw [c1 2 (by decide)]; exact b2
  · show (addJ D.1 u.2 v.2 w.2).1 3 ≤ 4; rw [c1 3 (by decide)]; exact b3
  · show (addJ D.1 u.2 v.2 w.2).1 4 ≤ 99; rw [c1 4 (by decide)]; exact h4
  · show (addJ D.1 u.2 v.2 w.2).1 5 ≤ 2; rw [c1 5 (by decide)]; exact h5
  · dsimp only at hq ⊢
    rw [c1 2 (by decide)] at hq ⊢
    rw [c1 _ (by omega), c1 _ (by omega)]
    exact h6 q hq
  · dsimp only at hj ⊢
    rw [c0] at hj
    by_cases ej : j = D.1.1 0
    · unfold addJ
      simp only
      rw [ej, set2_ne (by omega), set2_ne (by omega), set2_at, set2_ne (by omega), set2_at, set2_at]
      exact ⟨i1, i2, i3⟩
    · have e5' : ∀ i, (addJ D.1 u.2 v.2 w.2).2 i j = D.1.2 i j := by
        intro i
        unfold addJ
        simp only
        rw [set2_ne (fun z => ej z.2), set2_ne (fun z => ej z.2), set2_ne (fun z => ej z.2)]
      rw [e5', e5', e5']
      exact h7 j (by omega)
  · dsimp only
    rw [e4' 3 _ (by decide) (by decide) (by decide), c0]
    exact ⟨(h8 p q hp hq).1, fun z => (h8 p q hp hq).2 (fun y => z ⟨by omega, by omega, y.2.2⟩)⟩
  · dsimp only at hp ⊢
    rw [c1 1 (by decide)] at hp
    rw [e4' 4 _ (by decide) (by decide) (by decide)]
    exact h9 p hp
  · dsimp only
    rw [e4' 5 _ (by decide) (by decide) (by decide)]
    exact h10 c q hc hq
set_option maxHeartbeats 600000 in
theorem okd_P {P : Nat → Int32} {n : Nat} {D : Dr} {t : Tk} {a : Tk × Dr} (h : OKD D) (e : partP P n D t = .inr a) : OKD a.2 := by
  obtain ⟨x, e1, e⟩ := bnd_inv e
  obtain ⟨y, e2, e⟩ := bnd_inv e
  cases e
  have i1 := in_eith e2
  obtain ⟨⟨b0, b1, b2, b3⟩, h4, h5, h6, h7, h8, h9, h10⟩ := h
  have hlt : D.1.1 1 < 6 := by
    have z := (new_inv e1).1
    have : moN 1 = 6 := rfl
    omega
  have c0 : (addP D.1 y.2).1 1 = D.1.1 1 + 1 := by show bump D.1.1 1 1 = D.1.1 1 + 1; exact bump_at
  have c1 : ∀ i, ¬ i = 1 → (addP D.1 y.2).1 i = D.1.1 i := fun i hi => bump_ne hi
  have e4' : ∀ i j, ¬ i = 4 → (addP D.1 y.2).2 i j = D.1.2 i j := fun i j h0 => set2_ne (fun z => h0 z.1)
  refine ⟨⟨?_, ?_, ?_, ?_⟩, ?_, ?_, fun q hq => ?_, fun j hj => ?_, fun p q hp hq => ?_, fun p hp => ?_, fun c q hc hq => ?_⟩
  · show (addP D.1 y.2).1 0 ≤ 10; rw [c1 0 (by decide)]; exact b0
  · show (addP D.1 y.2).1 1 ≤ 6; rw [c0]; omega
  · show (addP D.1 y.2).1 2 ≤ 6; rw [c1 2 (by decide)]; exact b2
  · show (addP D.1 y.2).1 3 ≤ 4; rw [c1 3 (by decide)]; exact b3
  · show (addP D.1 y.2).1 4 ≤ 99; rw [c1 4 (by decide)]; exact h4
  · show (addP D.1 y.2).1 5 ≤ 2; rw [c1 5 (by decide)]; exact h5
  · dsimp only at hq ⊢
    rw [c1 2 (by decide)] at hq ⊢
    rw [c1 _ (by omega), c1 _ (by omega)]
    exact h6 q hq
  · dsimp only at hj ⊢
    rw [c1 0 (by decide)] at hj
    rw [e4' 0 _ (by decide), e4' 1 _ (by decide), e4' 2 _ (by decide)]
    exact h7 j hj
  · dsimp only
    rw [e4' 3 _ (by decide), c1 0 (by decide)]
    exact h8 p q hp hq
  · dsimp only at hp ⊢
    rw [c0] at hp
    by_cases ep : p = D.1.1 1
    · unfold addP
      simp only
      rw [ep, set2_at]
      exact i1
    · rw [show (addP D.1 y.2).2 4 p = D.1.2 4 p from set2_ne (fun z => ep z.2)]
      exact h9 p (by omega)
  · dsimp only
    rw [e4' 5 _ (by decide)]
    exact h10 c q hc hq
set_option maxHeartbeats 600000 in
theorem okd_fol {K : Co} {N : Nat → Nat → Int64} {lt : Bool} {a b d c2 : Nat} (h : OKD (K, N, lt)) (hc : K.1 2 ≤ c2) (hc6 : c2 ≤ 6) (hb : b < c2) (hd : d < c2) (hn : ∀ w, w < c2 → ¬ w = a → w < K.1 2) (ha : a < 6) {N' : Nat → Nat → Int64} : OKD (folK (updN K.1 2 c2, K.2) a b d, N', lt) := by
  obtain ⟨⟨b0, b1, b2, b3⟩, h4, h5, h6, h7, h8, h9, h10⟩ := h
  have e3 : ∀ i, i < 100 → ¬ i = 2 → (folK (updN K.1 2 c2, K.2) a b d).1 i = K.1 i := by
    intro i hi h2
    unfold folK
    simp only
    rw [if_neg (by omega), if_neg (by omega)]
    exact updN_ne _ _ h2
  have e2 : (folK (updN K.1 2 c2, K.2) a b d).1 2 = c2 := by
    unfold folK
    simp only
    rw [if_neg (by omega), if_neg (by omega)]
    rfl
  refine ⟨⟨?_, ?_, ?_, ?_⟩, ?_, ?_, fun q hq => ?_, fun j hj => ?_, fun p q hp hq => ?_, fun p hp => ?_, h10⟩
  · show (folK (updN K.1 2 c2, K.2) a b d).1 0 ≤ 10; rw [e3 0 (by decide) (by decide)]; exact b0
  · show (folK (updN K.1 2 c2, K.2) a b d).1 1 ≤ 6; rw [e3 1 (by decide) (by decide)]; exact b1
  · show (folK (updN K.1 2 c2, K.2) a b d).1 2 ≤ 6; rw [e2]; exact hc6
  · show (folK (updN K.1 2 c2, K.2) a b d).1 3 ≤ 4; rw [e3 3 (by decide) (by decide)]; exact b3
  · show (folK (updN K.1 2 c2, K.2) a b d).1 4 ≤ 99; rw [e3 4 (by decide) (by decide)]; exact h4
  · show (folK (updN K.1 2 c2, K.2) a b d).1 5 ≤ 2; rw [e3 5 (by decide) (by decide)]; exact h5
  · dsimp only at hq ⊢
    rw [e2] at hq ⊢
    unfold folK
    simp only
    by_cases ev : q = a
    · rw [ev, if_pos rfl, if_neg (by omega), if_pos rfl]
      exact ⟨hb, hd⟩
    · have hq6 : q < 6 := by omega
      rw [if_neg (by omega), if_neg (by omega), if_neg (by omega), if_neg (by omega), updN_ne (k := 2) (j := 100 + q) _ _ (by omega), updN_ne (k := 2) (j := 200 + q) _ _ (by omega)]
      have z := h6 q (hn q hq ev)
      exact ⟨Nat.lt_of_lt_of_le z.1 hc, Nat.lt_of_lt_of_le z.2 hc⟩
  · dsimp only at hj ⊢
    rw [e3 0 (by decide) (by decide)] at hj
    exact h7 j hj
  · dsimp only
    rw [e3 0 (by decide) (by decide)]
    exact h8 p q hp hq
  · dsimp only at hp ⊢
    rw [e3 1 (by decide) (by decide)] at hp
    exact h9 p hp
