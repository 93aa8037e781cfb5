/-! ===== weeks: what their steps say, what a draft of weeks is ===== -/
def stpN (w : Int32) : Nat := if w = nI 18 then 0 else if w = nI 19 then 1 else if w = nI 20 then 2 else if w = nI 21 then 3 else if w = nI 22 then 4 else if w = nI 23 then 5 else if w = nI 24 then 6 else if w = nI 25 then 7 else if w = nI 27 then 8 else if w = nI 29 then 9 else 10
theorem stp_n1 : stpN (-1) = 10 ∧ stpV (-1) = -1 := by decide +kernel
theorem stp_all : ∀ j, j < 30 → stpN (nI j) ≤ 10 ∧ stpV (nI j) = (if stpN (nI j) = 10 then -1 else nI (stpN (nI j))) ∧ (¬ stpN (nI j) = 10 → j = codeW (stpN (nI j))) ∧ (stpN (nI j) = 10 → ¬ (j = 29 ∨ j = 25 ∨ j = 27 ∨ (18 ≤ j ∧ j ≤ 24))) := by decide +kernel
theorem stp_le {t : Tk} : stpN (wdS t) ≤ 10 := by
  rcases wd_val (t := t) with e | ⟨j, hj, e⟩
  · rw [e, stp_n1.1]; decide
  · rw [e]; exact (stp_all j hj).1
theorem stp_v {t : Tk} : stpV (wdS t) = if stpN (wdS t) = 10 then -1 else nI (stpN (wdS t)) := by
  rcases wd_val (t := t) with e | ⟨j, hj, e⟩
  · rw [e, stp_n1.1, if_pos rfl]; exact stp_n1.2
  · rw [e]; exact (stp_all j hj).2.1
theorem stp_c {t : Tk} (h : ¬ stpN (wdS t) = 10) : wdS t = nI (codeW (stpN (wdS t))) := by
  rcases wd_val (t := t) with e | ⟨j, hj, e⟩
  · rw [e, stp_n1.1] at h; exact absurd rfl h
  · rw [e] at h ⊢
    rw [← (stp_all j hj).2.2.1 h]
theorem stp_o {t : Tk} (h : stpN (wdS t) = 10) : wdS t = -1 ∨ ∃ j, j < 30 ∧ wdS t = nI j ∧ ¬ (j = 29 ∨ j = 25 ∨ j = 27 ∨ (18 ≤ j ∧ j ≤ 24)) := by
  rcases wd_val (t := t) with e | ⟨j, hj, e⟩
  · exact Or.inl e
  · rw [e] at h
    exact Or.inr ⟨j, hj, e, (stp_all j hj).2.2.2 h⟩
theorem code_le : ∀ k, k < 10 → codeW k < 30 ∧ ¬ codeW k = 28 := by decide
abbrev Rs : Type := Int32 × Int32 × Int32 × Int32
def testR (P : Nat → Int32) (n : Nat) (c : Nat → Nat) (N : Nat → Nat → Int64) (t : Tk) : Ft ⊕ (Tk × Rs) :=
  if wdS t = nI 26 then bnd (cmpR P n (nx P n t)) fun a => bnd (numR P n 0 10 a.1) fun b => .inr (b.1, 0, b.2, 0, a.2)
  else if wdS t = nI 7 then bnd (seeR c N 2 (nx P n t)) fun i => .inr (nx P n (nx P n t), nI i, 0, 1, 0)
  else if wdS t = nI 11 then bnd (seeR c N 3 (nx P n t)) fun i => bnd (cmpR P n (nx P n (nx P n t))) fun a => bnd (eithR P n 9999 a.1) fun b => .inr (b.1, nI i, b.2, 2, a.2)
  else .inl (badK t 2)
def restR (P : Nat → Int32) (n : Nat) (c : Nat → Nat) (N : Nat → Nat → Int64) (k : Nat) (t : Tk) : Ft ⊕ (Tk × Rs) :=
  if k = 0 then bnd (seeR c N 1 t) fun i => .inr (nx P n t, nI i, 0, 0, 0)
  else if k = 1 ∨ k = 8 then bnd (numR P n 1 99 t) fun a => .inr (a.1, a.2, 0, 0, 0)
  else if k = 3 ∨ k = 4 then bnd (seeR c N 0 t) fun i => .inr (nx P n t, nI i, 0, 0, 0)
  else if k = 5 then bnd (seeR c N 0 t) fun i => .inr (if wdS (nx P n t) = nI 2 then nx P n (nx P n t) else nx P n t, nI i, (if wdS (nx P n t) = nI 2 then -1 else 1), 0, 0)
  else if k = 7 then testR P n c N t
  else .inr (t, 0, 0, 0, 0)
/-- a draft of weeks: what is told, how many blocks are open, which -/
abbrev Zw : Type := Wk × Nat × (Nat → Nat)
def pushZ (Z : Zw) (k : Nat) (r : Rs) : Zw :=
  ((fun j => if j = 1 then Z.1.1 1 + 1 else if j = 10 + Z.1.1 1 then k else if j = 100 + Z.1.1 1 then (if k = 7 ∨ k = 8 then 1000 else Z.1.1 1 + 1) else Z.1.1 j,
    fun a b => if b = Z.1.1 1 then (if a = 0 then r.1 else if a = 1 then r.2.1 else if a = 2 then r.2.2.1 else r.2.2.2) else Z.1.2 a b),
   (if k = 7 ∨ k = 8 then Z.2.1 + 1 else Z.2.1), if k = 7 ∨ k = 8 then updN Z.2.2 Z.2.1 (Z.1.1 1) else Z.2.2)
def closeZ (Z : Zw) : Zw := ((updN Z.1.1 (100 + Z.2.2 (Z.2.1 - 1)) (Z.1.1 1), Z.1.2), Z.2.1 - 1, Z.2.2)
def stepR (P : Nat → Int32) (n : Nat) (c : Nat → Nat) (N : Nat → Nat → Int64) (Z : Zw) (t : Tk) : Ft ⊕ (Tk × Zw) :=
  if stpN (wdS t) = 10 then .inl (badK t 2) else if Z.1.1 1 = 30 then .inl (6, t.1) else if (stpN (wdS t) = 7 ∨ stpN (wdS t) = 8) ∧ Z.2.1 = 3 then .inl (7, t.1)
  else bnd (restR P n c N (stpN (wdS t)) (nx P n t)) fun a => .inr (a.1, pushZ Z (stpN (wdS t)) a.2)
def weeksR (P : Nat → Int32) (n : Nat) (c : Nat → Nat) (N : Nat → Nat → Int64) : Nat → Zw → Tk → Ft ⊕ Zw
  | 0, Z, _ => .inr Z
  | m + 1, Z, t => if t.2.2.1 = 0 then (if Z.2.1 = 0 then .inr Z else .inl (2, t.1))
    else if wdS t = nI 28 then (if Z.2.1 = 0 then .inl (2, t.1) else bnd (stopR P n (nx P n t)) fun t' => weeksR P n c N m (closeZ Z) t')
    else bnd (stepR P n c N Z t) fun a => bnd (stopR P n a.1) fun t' => weeksR P n c N m a.2 t'
def zw0 : Zw := ((fun j => if j = 0 then 1 else 0, fun _ _ => 0), 0, fun _ => 0)
/-- what of a step is told well -/
def OKs (K : Co) (w : Wk) (s : Nat) : Prop := (w.1 (10 + s) = 0 → ∃ p, p < K.1 1 ∧ w.2 0 s = nI p) ∧ (w.1 (10 + s) = 1 ∨ w.1 (10 + s) = 8 → ∃ n, 1 ≤ n ∧ n ≤ 99 ∧ w.2 0 s = nI n) ∧ (w.1 (10 + s) = 3 ∨ w.1 (10 + s) = 4 ∨ w.1 (10 + s) = 5 → ∃ j, j < K.1 0 ∧ w.2 0 s = nI j) ∧ (w.1 (10 + s) = 5 → w.2 1 s = 1 ∨ w.2 1 s = -1) ∧
  (w.1 (10 + s) = 7 → (w.2 2 s = 0 ∨ w.2 2 s = 1 ∨ w.2 2 s = 2) ∧ (w.2 2 s = 1 → ∃ v, v < K.1 2 ∧ w.2 0 s = nI v) ∧ (w.2 2 s = 2 → ∃ q, q < K.1 3 ∧ w.2 0 s = nI q) ∧ (w.2 2 s = 1 ∨ w.2 3 s = 60 ∨ w.2 3 s = 61 ∨ w.2 3 s = 62))
def ZOK (K : Co) (Z : Zw) : Prop := (Z.1.1 0 = 1 ∧ Z.1.1 1 ≤ 30 ∧ Z.2.1 ≤ 3) ∧
  (∀ s, s < Z.1.1 1 → Z.1.1 (10 + s) ≤ 9 ∧ s < Z.1.1 (100 + s) ∧ (Z.1.1 (100 + s) ≤ Z.1.1 1 ∨ (isBl Z.1 s = true ∧ Z.1.1 (100 + s) = 1000)) ∧ (isBl Z.1 s = false → Z.1.1 (100 + s) = s + 1) ∧
    (isBl Z.1 s = true → Z.1.1 (100 + s) ≤ Z.1.1 1 → ∀ t, s < t → t < Z.1.1 (100 + s) → Z.1.1 (100 + t) ≤ Z.1.1 (100 + s)) ∧
    cntR (fun b => isBl Z.1 b && decide (s < Z.1.1 (100 + b))) 0 s ≤ 3 ∧ (isBl Z.1 s = true → cntR (fun b => isBl Z.1 b && decide (s < Z.1.1 (100 + b))) 0 s ≤ 2) ∧ OKs K Z.1 s) ∧
  (∀ j, j < Z.2.1 → Z.2.2 j < Z.1.1 1 ∧ isBl Z.1 (Z.2.2 j) = true ∧ Z.1.1 (100 + Z.2.2 j) = 1000) ∧ (∀ i j, i < j → j < Z.2.1 → Z.2.2 i < Z.2.2 j) ∧
  (∀ s, s < Z.1.1 1 → Z.1.1 (100 + s) = 1000 → ∃ j, j < Z.2.1 ∧ Z.2.2 j = s) ∧ cntR (fun b => isBl Z.1 b && decide (Z.1.1 1 < Z.1.1 (100 + b))) 0 (Z.1.1 1) = Z.2.1 ∧
  ∀ s j, s < Z.1.1 1 → Z.1.1 (100 + s) ≤ Z.1.1 1 → j < Z.2.1 → s < Z.2.2 j → Z.1.1 (100 + s) ≤ Z.2.2 j
theorem zok_0 {K : Co} : ZOK K zw0 := ⟨⟨rfl, Nat.zero_le _, Nat.zero_le _⟩, fun s hs => absurd hs (Nat.not_lt_zero _), fun s hs => absurd hs (Nat.not_lt_zero _), fun i j _ hj => absurd hj (Nat.not_lt_zero _), fun s hs => absurd hs (Nat.not_lt_zero _), rfl, fun s j hs => absurd hs (Nat.not_lt_zero _)⟩
theorem zok_end {K : Co} {Z : Zw} (h : ZOK K Z) (h0 : Z.2.1 = 0) : OKK K Z.1 := by
  obtain ⟨⟨a1, a2, a3⟩, a4, a5, a6, a7, a8, a9⟩ := h
  refine ⟨by rw [a1]; exact Nat.le_refl _, a2, fun z => absurd (a1.symm.trans z) (by decide), fun s hs => ?_⟩
  obtain ⟨b1, b2, b3, b4, b5, b6, b7, b8⟩ := a4 s hs
  have e : Z.1.1 (100 + s) ≤ Z.1.1 1 := by
    rcases b3 with b3 | ⟨-, b3⟩
    · exact b3
    · obtain ⟨j, hj, -⟩ := a7 s hs b3
      omega
  exact ⟨b1, b2, e, b4, fun hb => b5 hb e, b6, b7, b8⟩
theorem cntR_one {p q : Nat → Bool} {b : Nat} : ∀ (k i : Nat), i ≤ b → b < i + k → p b = true → q b = false → (∀ j, i ≤ j → j < i + k → ¬ j = b → q j = p j) → cntR p i k = cntR q i k + 1
  | 0, i, h1, h2, _, _, _ => by omega
  | k + 1, i, h1, h2, hp, hq, h => by
    unfold cntR
    by_cases c : i = b
    · rw [c, hp, hq, cntR_congr (p := p) (q := q) k (b + 1) (fun j x y => (h j (by omega) (by omega) (by omega)).symm)]
      simp; omega
    · rw [cntR_one k (i + 1) (by omega) (by omega) hp hq (fun j x y z => h j (by omega) (by omega) z), h i (by omega) (by omega) c]
      omega
theorem cntR_mon2 {p q : Nat → Bool} : ∀ (k i : Nat), (∀ j, i ≤ j → j < i + k → p j = true → q j = true) → cntR p i k ≤ cntR q i k
  | 0, _, _ => Nat.le_refl _
  | k + 1, i, h => by
    have ih := cntR_mon2 (p := p) (q := q) k (i + 1) (fun j a b c => h j (by omega) (by omega) c)
    have h0 := h i (Nat.le_refl _) (by omega)
    unfold cntR
    cases hp : p i with
    | false => simp; omega
    | true => rw [h0 hp]; simp; omega
theorem cntR_ext {p : Nat → Bool} {a b : Nat} (h : a ≤ b) : cntR p 0 a ≤ cntR p 0 b := by
  have := cntR_app p a (b - a) 0
  rw [show a + (b - a) = b by omega] at this
  omega
