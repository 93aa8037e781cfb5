/-! ===== every part keeps a draft a draft ===== -/
set_option maxHeartbeats 600000 in
theorem okd_W {P : Nat → Int32} {n : Nat} {D : Dr} {t : Tk} {a : Tk × Dr} (h : OKD D) (e : partW P n D t = .inr a) : OKD a.2 := by
  obtain ⟨x, e1, e⟩ := bnd_inv e
  cases e
  have hlt : D.1.1 2 < 6 := by
    have z := (new_inv e1).1
    have : moN 2 = 6 := rfl
    have := h.1.2.2.1
    omega
  exact okd_fol (K := D.1) (N := D.2.1) (lt := D.2.2) (c2 := D.1.1 2 + 1) h (by omega) (by omega) (by omega) (by omega) (fun w h1 h2 => by omega) hlt
set_option maxHeartbeats 600000 in
theorem okd_N {K : Co} {N N' : Nat → Nat → Int64} {lt lt' : Bool} (h : OKD (K, N, lt)) : OKD (K, N', lt') := h
set_option maxHeartbeats 600000 in
theorem okd_F {P : Nat → Int32} {n : Nat} {D : Dr} {t : Tk} {a : Tk × Dr} (h : OKD D) (e : partF P n D t = .inr a) : OKD a.2 := by
  obtain ⟨x, e1, e⟩ := bnd_inv e
  obtain ⟨t3, e2, e⟩ := bnd_inv e
  obtain ⟨y, e3, e⟩ := bnd_inv e
  obtain ⟨t5, e4, e⟩ := bnd_inv e
  obtain ⟨z, e5, e⟩ := bnd_inv e
  cases e
  have hx := (see_inv e1).2
  have hy := (see_inv e3).2
  have hz := (see_inv e5).2
  have b2 := h.1.2.2.1
  have w := okd_fol (K := D.1) (N := D.2.1) (lt := D.2.2) (a := x) (b := y) (d := z) (c2 := D.1.1 2) (N' := D.2.1) h (Nat.le_refl _) b2 hy hz (fun w h1 _ => h1) (by omega)
  have ee : updN D.1.1 2 (D.1.1 2) = D.1.1 := by
    funext j
    by_cases ej : j = 2
    · subst ej; rfl
    · exact updN_ne _ _ ej
  rw [ee] at w
  exact w
set_option maxHeartbeats 600000 in
theorem okd_S {P : Nat → Int32} {n : Nat} {D : Dr} {t : Tk} {a : Tk × Dr} (h : OKD D) (e : partS P n D t = .inr a) : OKD a.2 := by
  obtain ⟨x, e1, e⟩ := bnd_inv e
  obtain ⟨y, e2, e⟩ := bnd_inv e
  by_cases c : x = y
  · rw [if_pos c] at e; cases e
  rw [if_neg c] at e
  obtain ⟨v, e3, e⟩ := bnd_inv e
  cases e
  have hx := (see_inv e1).2
  have hy := (see_inv e2).2
  have i1 := in_num e3
  obtain ⟨⟨b0, b1, b2, b3⟩, h4, h5, h6, h7, h8, h9, h10⟩ := h
  have g : ∀ i j, ¬ i = 3 → set2 D.1.2 3 (10 * x + y) v.2 i j = D.1.2 i j := fun i j hi => set2_ne (fun z => hi z.1)
  refine ⟨⟨b0, b1, b2, b3⟩, h4, h5, h6, fun j hj => ?_, fun p q hp hq => ?_, fun p hp => ?_, fun c q hc hq => ?_⟩
  · dsimp only
    rw [g 0 _ (by decide), g 1 _ (by decide), g 2 _ (by decide)]
    exact h7 j hj
  · dsimp only
    by_cases e : p = x ∧ q = y
    · rw [e.1, e.2, set2_at]
      exact ⟨i1, fun z => absurd ⟨hx, hy, c⟩ z⟩
    · rw [set2_ne (by omega)]
      exact h8 p q hp hq
  · dsimp only
    rw [g 4 _ (by decide)]
    exact h9 p hp
  · dsimp only
    rw [g 5 _ (by decide)]
    exact h10 c q hc hq
set_option maxHeartbeats 600000 in
theorem grow_in {P : Nat → Int32} {n q : Nat} {c : Nat → Nat} {N : Nat → Nat → Int64} : ∀ (m : Nat) (t : Tk) (f : Nat → Nat → Int32) (a : Tk × (Nat → Nat → Int32)), growR P n c N q m t f = .inr a → (∀ i j, ¬ i = 5 → a.2 i j = f i j) ∧ ((∀ j, j < 24 → inR (-99) 99 (f 5 j)) → ∀ j, j < 24 → inR (-99) 99 (a.2 5 j))
  | 0, t, f, a, e => by
    have e : (Sum.inr (t, f) : Ft ⊕ (Tk × (Nat → Nat → Int32))) = .inr a := e
    cases e
    exact ⟨fun _ _ _ => rfl, fun h => h⟩
  | m + 1, t, f, a, e => by
    have e : (if wdS t = nI 12 then bnd (seeR c N 2 (nx P n t)) fun w => bnd (eithR P n 99 (nx P n (nx P n t))) fun v => growR P n c N q m v.1 (set2 f 5 (6 * q + w) v.2) else .inr (t, f)) = .inr a := e
    by_cases c0 : wdS t = nI 12
    · rw [if_pos c0] at e
      obtain ⟨w, e1, e⟩ := bnd_inv e
      obtain ⟨v, e2, e⟩ := bnd_inv e
      obtain ⟨k1, k2⟩ := grow_in m _ _ _ e
      refine ⟨fun i j hi => (k1 i j hi).trans (set2_ne (fun z => hi z.1)), fun h => k2 (fun j hj => ?_)⟩
      by_cases ej : j = 6 * q + w
      · rw [ej, set2_at]; exact in_eith e2
      · rw [set2_ne (fun z => ej z.2)]; exact h j hj
    · rw [if_neg c0] at e
      cases e
      exact ⟨fun _ _ _ => rfl, fun h => h⟩
set_option maxHeartbeats 600000 in
theorem okd_H {P : Nat → Int32} {n : Nat} {D : Dr} {t : Tk} {a : Tk × Dr} (h : OKD D) (e : partH P n D t = .inr a) : OKD a.2 := by
  unfold partH at e
  by_cases c : ¬ D.1.1 4 = 0
  · rw [if_pos c] at e; cases e
  rw [if_neg c] at e
  obtain ⟨v, e3, e⟩ := bnd_inv e
  cases e
  have i1 := in_num e3
  have hv : v.2.toNatClampNeg ≤ 99 := by
    rcases arg_cases v.2 with q | ⟨i, hi, ei⟩
    · exfalso
      have z : ¬ v.2 < 1 := Int32.not_lt.mpr i1.1
      apply z
      rw [Int32.lt_iff_toInt_lt] at q ⊢
      have e0 : (0 : Int32).toInt = 0 := by decide
      have e1 : (1 : Int32).toInt = 1 := by decide
      omega
    · have h2 : ¬ nI 99 < v.2 := Int32.not_lt.mpr i1.2
      rw [ei] at h2
      rw [lt_nI (by omega) hi] at h2
      rw [ei, nI_clamp hi]
      omega
  obtain ⟨⟨b0, b1, b2, b3⟩, h4, h5, h6, h7, h8, h9, h10⟩ := h
  have g : ∀ i, ¬ i = 4 → updN D.1.1 4 v.2.toNatClampNeg i = D.1.1 i := fun i hi => updN_ne _ _ hi
  have ee : ∀ i, i < 100 → ¬ i = 4 → (updN D.1.1 4 v.2.toNatClampNeg) i = D.1.1 i := fun i _ hi => g i hi
  refine ⟨⟨?_, ?_, ?_, ?_⟩, ?_, ?_, fun q hq => ?_, fun j hj => ?_, fun p q hp hq => ?_, fun p hp => ?_, h10⟩
  · show updN D.1.1 4 v.2.toNatClampNeg 0 ≤ 10; rw [g 0 (by decide)]; exact b0
  · show updN D.1.1 4 v.2.toNatClampNeg 1 ≤ 6; rw [g 1 (by decide)]; exact b1
  · show updN D.1.1 4 v.2.toNatClampNeg 2 ≤ 6; rw [g 2 (by decide)]; exact b2
  · show updN D.1.1 4 v.2.toNatClampNeg 3 ≤ 4; rw [g 3 (by decide)]; exact b3
  · exact hv
  · show updN D.1.1 4 v.2.toNatClampNeg 5 ≤ 2; rw [g 5 (by decide)]; exact h5
  · dsimp only at hq ⊢
    rw [g 2 (by decide)] at hq ⊢
    rw [g _ (by omega), g _ (by omega)]
    exact h6 q hq
  · dsimp only at hj ⊢
    rw [g 0 (by decide)] at hj
    exact h7 j hj
  · dsimp only
    rw [g 0 (by decide)]
    exact h8 p q hp hq
  · dsimp only at hp ⊢
    rw [g 1 (by decide)] at hp
    exact h9 p hp
set_option maxHeartbeats 600000 in
theorem okd_C {P : Nat → Int32} {n : Nat} {D : Dr} {t : Tk} {a : Tk × Dr} (h : OKD D) (e : partC P n D t = .inr a) : OKD a.2 := by
  obtain ⟨x, e1, e⟩ := bnd_inv e
  obtain ⟨y, e2, e⟩ := bnd_inv e
  cases e
  obtain ⟨k1, k2⟩ := grow_in _ _ _ _ e2
  obtain ⟨⟨b0, b1, b2, b3⟩, h4, h5, h6, h7, h8, h9, h10⟩ := h
  have hlt : D.1.1 3 < 4 := by
    have z := (new_inv e1).1
    have : moN 3 = 4 := rfl
    omega
  have g : ∀ i, ¬ i = 3 → bump D.1.1 3 i = D.1.1 i := fun i hi => bump_ne hi
  refine ⟨⟨?_, ?_, ?_, ?_⟩, ?_, ?_, fun q hq => ?_, fun j hj => ?_, fun p q hp hq => ?_, fun p hp => ?_, fun c w hc hw => ?_⟩
  · show bump D.1.1 3 0 ≤ 10; rw [g 0 (by decide)]; exact b0
  · show bump D.1.1 3 1 ≤ 6; rw [g 1 (by decide)]; exact b1
  · show bump D.1.1 3 2 ≤ 6; rw [g 2 (by decide)]; exact b2
  · show bump D.1.1 3 3 ≤ 4; rw [bump_at]; omega
  · show bump D.1.1 3 4 ≤ 99; rw [g 4 (by decide)]; exact h4
  · show bump D.1.1 3 5 ≤ 2; rw [g 5 (by decide)]; exact h5
  · dsimp only at hq ⊢
    rw [g 2 (by decide)] at hq ⊢
    rw [g _ (by omega), g _ (by omega)]
    exact h6 q hq
  · dsimp only at hj ⊢
    rw [g 0 (by decide)] at hj
    rw [k1 0 _ (by decide), k1 1 _ (by decide), k1 2 _ (by decide)]
    exact h7 j hj
  · dsimp only
    rw [g 0 (by decide), k1 3 _ (by decide)]
    exact h8 p q hp hq
  · dsimp only at hp ⊢
    rw [g 1 (by decide)] at hp
    rw [k1 4 _ (by decide)]
    exact h9 p hp
  · refine k2 (fun j hj => ?_) (6 * c + w) (by omega)
    have z := h10 (j / 6) (j % 6) (by omega) (by omega)
    rw [show 6 * (j / 6) + j % 6 = j by omega] at z
    exact z
set_option maxHeartbeats 600000 in
theorem okd_law {K : Co} {N : Nat → Nat → Int64} {lt : Bool} {v : Nat} (h : OKD (K, N, lt)) (hv : v ≤ 2) {lt' : Bool} : OKD ((updN K.1 5 v, K.2), N, lt') := by
  obtain ⟨⟨b0, b1, b2, b3⟩, h4, h5, h6, h7, h8, h9, h10⟩ := h
  have g : ∀ i, ¬ i = 5 → updN K.1 5 v i = K.1 i := fun i hi => updN_ne _ _ hi
  refine ⟨⟨?_, ?_, ?_, ?_⟩, ?_, hv, fun q hq => ?_, fun j hj => ?_, fun p q hp hq => ?_, fun p hp => ?_, h10⟩
  · show updN K.1 5 v 0 ≤ 10; rw [g 0 (by decide)]; exact b0
  · show updN K.1 5 v 1 ≤ 6; rw [g 1 (by decide)]; exact b1
  · show updN K.1 5 v 2 ≤ 6; rw [g 2 (by decide)]; exact b2
  · show updN K.1 5 v 3 ≤ 4; rw [g 3 (by decide)]; exact b3
  · show updN K.1 5 v 4 ≤ 99; rw [g 4 (by decide)]; exact h4
  · dsimp only at hq ⊢
    rw [g 2 (by decide)] at hq ⊢
    rw [g _ (by omega), g _ (by omega)]
    exact h6 q hq
  · dsimp only at hj ⊢
    rw [g 0 (by decide)] at hj
    exact h7 j hj
  · dsimp only
    rw [g 0 (by decide)]
    exact h8 p q hp hq
  · dsimp only at hp ⊢
    rw [g 1 (by decide)] at hp
    exact h9 p hp
set_option maxHeartbeats 600000 in
theorem okd_L {P : Nat → Int32} {n : Nat} {D : Dr} {t : Tk} {a : Tk × Dr} (h : OKD D) (e : partL P n D t = .inr a) : OKD a.2 := by
  unfold partL at e
  by_cases d0 : D.2.2 = true
  · rw [if_pos d0] at e; cases e
  rw [if_neg d0] at e
  by_cases d1 : wdS (nx P n t) = nI 15
  · rw [if_pos d1] at e; cases e; exact okd_law (lt := D.2.2) h (by omega)
  rw [if_neg d1] at e
  by_cases d2 : wdS (nx P n t) = nI 16
  · rw [if_pos d2] at e; cases e; exact okd_law (lt := D.2.2) h (by omega)
  rw [if_neg d2] at e
  by_cases d3 : wdS (nx P n t) = nI 17
  · rw [if_pos d3] at e; cases e; exact okd_law (lt := D.2.2) h (by omega)
  rw [if_neg d3] at e
  cases e
set_option maxHeartbeats 600000 in
theorem okd_part {P : Nat → Int32} {n : Nat} (D : Dr) (t : Tk) (a : Tk × Dr) (h : OKD D) (e : partR P n D t = .inr a) : OKD a.2 := by
  unfold partR at e
  by_cases c0 : wdS t = nI 0
  · rw [if_pos c0] at e; exact okd_J h e
  rw [if_neg c0] at e
  by_cases c1 : wdS t = nI 5
  · rw [if_pos c1] at e; exact okd_S h e
  rw [if_neg c1] at e
  by_cases c2 : wdS t = nI 6
  · rw [if_pos c2] at e; exact okd_P h e
  rw [if_neg c2] at e
  by_cases c3 : wdS t = nI 7
  · rw [if_pos c3] at e; exact okd_W h e
  rw [if_neg c3] at e
  by_cases c4 : wdS t = nI 8
  · rw [if_pos c4] at e; exact okd_F h e
  rw [if_neg c4] at e
  by_cases c5 : wdS t = nI 11
  · rw [if_pos c5] at e; exact okd_C h e
  rw [if_neg c5] at e
  by_cases c6 : wdS t = nI 13
  · rw [if_pos c6] at e; exact okd_H h e
  rw [if_neg c6] at e
  by_cases c7 : wdS t = nI 14
  · rw [if_pos c7] at e; exact okd_L h e
  rw [if_neg c7] at e
  cases e
set_option maxHeartbeats 600000 in
theorem okd_hun (D : Dr) (h : OKD D) : D.1.1 4 ≤ 99 := h.2.1
