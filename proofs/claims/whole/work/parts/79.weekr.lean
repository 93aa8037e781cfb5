/-! ===== where the class keeps a draft of weeks ===== -/
def WkP (R : Nat → Nat → Int32) (w : Wk) (s : Nat) : Prop :=
  R 24 (posW w s) = nI (codeW (w.1 (10 + s))) ∧ (isBl w s = true → w.1 (100 + s) ≤ w.1 1 → R 29 (posW w s) = nI (endW w s) ∧ R 24 (endW w s) = nI 28 ∧ R 29 (endW w s) = nI (posW w s)) ∧
  (w.1 (10 + s) ≠ 7 → w.1 (10 + s) ≠ 2 → w.1 (10 + s) ≠ 6 → w.1 (10 + s) ≠ 9 → R 25 (posW w s) = w.2 0 s) ∧ (w.1 (10 + s) = 5 → R 27 (posW w s) = w.2 1 s) ∧
  (w.1 (10 + s) = 7 → (w.2 2 s = 0 → R 25 (posW w s) = 26 ∧ R 28 (posW w s) = w.2 1 s ∧ R 27 (posW w s) = w.2 3 s) ∧ (w.2 2 s = 1 → R 25 (posW w s) = 7 ∧ R 26 (posW w s) = w.2 0 s) ∧ (w.2 2 s = 2 → R 25 (posW w s) = 11 ∧ R 26 (posW w s) = w.2 0 s ∧ R 28 (posW w s) = w.2 1 s ∧ R 27 (posW w s) = w.2 3 s))
def RsX (R : Nat → Nat → Int32) (L k : Nat) (r : Rs) : Prop := (k ≠ 7 → k ≠ 2 → k ≠ 6 → k ≠ 9 → R 25 L = r.1) ∧ (k = 5 → R 27 L = r.2.1) ∧ (k = 7 → (r.2.2.1 = 0 → R 25 L = 26 ∧ R 28 L = r.2.1 ∧ R 27 L = r.2.2.2) ∧ (r.2.2.1 = 1 → R 25 L = 7 ∧ R 26 L = r.1) ∧ (r.2.2.1 = 2 → R 25 L = 11 ∧ R 26 L = r.1 ∧ R 28 L = r.2.1 ∧ R 27 L = r.2.2.2))
def ZX (M : Mem) (Z : Zw) : Prop := M.1 23 4 8 = 1 ∧ M.1 23 4 7 = nI (Z.1.1 1) ∧ M.1 23 4 6 = nI (posW Z.1 (Z.1.1 1)) ∧ M.1 34 0 1 = nI Z.2.1 ∧ (∀ j, j < Z.2.1 → M.1 35 0 j = nI (posW Z.1 (Z.2.2 j))) ∧ ∀ s, s < Z.1.1 1 → WkP (fun c => M.1 c 4) Z.1 s
theorem posW_mon2 {w : Wk} {a b : Nat} (h : a < b) : posW w a < posW w b := by
  have h1 := cntR_mon2 (p := fun x => isBl w x && decide (w.1 (100 + x) ≤ a)) (q := fun x => isBl w x && decide (w.1 (100 + x) ≤ b)) a 0 (fun j _ _ hj => by
    rw [Bool.and_eq_true] at hj ⊢
    exact ⟨hj.1, decide_eq_true (by have := of_decide_eq_true hj.2; omega)⟩)
  have h2 := cntR_ext (p := fun x => isBl w x && decide (w.1 (100 + x) ≤ b)) (Nat.le_of_lt h)
  unfold posW
  omega
theorem endW_lt_pos {w : Wk} {s u : Nat} (h1 : isBl w s = true) (h2 : s < w.1 (100 + s)) (h3 : w.1 (100 + s) ≤ u) : endW w s < posW w u := by
  have e1 := cntR_one (p := fun d => (isBl w d && (decide (w.1 (100 + d) < w.1 (100 + s)) || (decide (w.1 (100 + d) = w.1 (100 + s)) && decide (s < d)))) || decide (d = s)) (q := fun d => isBl w d && (decide (w.1 (100 + d) < w.1 (100 + s)) || (decide (w.1 (100 + d) = w.1 (100 + s)) && decide (s < d)))) (b := s) (w.1 (100 + s)) 0 (Nat.zero_le _) (by omega) (by simp) (by simp) (fun j _ _ hj => by simp [hj])
  have e2 := cntR_mon2 (p := fun d => (isBl w d && (decide (w.1 (100 + d) < w.1 (100 + s)) || (decide (w.1 (100 + d) = w.1 (100 + s)) && decide (s < d)))) || decide (d = s)) (q := fun x => isBl w x && decide (w.1 (100 + x) ≤ u)) (w.1 (100 + s)) 0 (fun j _ _ hj => by
    rw [Bool.or_eq_true] at hj
    rw [Bool.and_eq_true]
    rcases hj with hj | hj
    · rw [Bool.and_eq_true, Bool.or_eq_true, Bool.and_eq_true] at hj
      refine ⟨hj.1, decide_eq_true ?_⟩
      rcases hj.2 with y | y
      · have := of_decide_eq_true y; omega
      · have := of_decide_eq_true y.1; omega
    · have := of_decide_eq_true hj
      subst this
      exact ⟨h1, decide_eq_true h3⟩)
  have e3 := cntR_ext (p := fun x => isBl w x && decide (w.1 (100 + x) ≤ u)) h3
  unfold endW posW
  omega
theorem pos_ne_end {w : Wk} {s b : Nat} (h1 : isBl w s = true) (h2 : s < w.1 (100 + s)) : ¬ posW w b = endW w s := by
  by_cases c : w.1 (100 + s) ≤ b
  · have := endW_lt_pos h1 h2 c
    omega
  · have e1 := cntR_mon2 (p := fun x => isBl w x && decide (w.1 (100 + x) ≤ b)) (q := fun d => isBl w d && (decide (w.1 (100 + d) < w.1 (100 + s)) || (decide (w.1 (100 + d) = w.1 (100 + s)) && decide (s < d)))) b 0 (fun j _ _ hj => by
      rw [Bool.and_eq_true] at hj
      rw [Bool.and_eq_true, Bool.or_eq_true]
      exact ⟨hj.1, Or.inl (decide_eq_true (by have := of_decide_eq_true hj.2; omega))⟩)
    have e2 := cntR_ext (p := fun d => isBl w d && (decide (w.1 (100 + d) < w.1 (100 + s)) || (decide (w.1 (100 + d) = w.1 (100 + s)) && decide (s < d)))) (a := b) (b := w.1 (100 + s)) (by omega)
    unfold endW posW
    omega
theorem posW_cg {w w' : Wk} {s : Nat} (h : ∀ x, x < s → isBl w' x = isBl w x ∧ (w'.1 (100 + x) ≤ s ↔ w.1 (100 + x) ≤ s)) : posW w' s = posW w s := by
  unfold posW
  rw [cntR_congr (p := fun b => isBl w' b && decide (w'.1 (100 + b) ≤ s)) (q := fun b => isBl w b && decide (w.1 (100 + b) ≤ s)) s 0 (fun j _ hj => by
    have := h j (by omega)
    rw [this.1, decide_eq_decide.mpr this.2])]
theorem push_pos {K : Co} {Z : Zw} {k : Nat} {r : Rs} (h : ZOK K Z) (h30 : Z.1.1 1 < 30) : (∀ s, s ≤ Z.1.1 1 → posW (pushZ Z k r).1 s = posW Z.1 s) ∧ (∀ s, s < Z.1.1 1 → Z.1.1 (100 + s) ≤ Z.1.1 1 → endW (pushZ Z k r).1 s = endW Z.1 s) ∧ posW (pushZ Z k r).1 (Z.1.1 1 + 1) = posW Z.1 (Z.1.1 1) + 1 := by
  have pk := fun s (hs : s < Z.1.1 1) => push_k (k := k) (r := r) hs h30
  obtain ⟨s1, s2, s3, s4⟩ := push_S (Z := Z) (k := k) (r := r) h30
  have bl : ∀ s, s < Z.1.1 1 → isBl (pushZ Z k r).1 s = isBl Z.1 s := fun s hs => isBl_cg (pk s hs).1
  refine ⟨fun s hs => posW_cg (fun x hx => ⟨bl x (by omega), by rw [(pk x (by omega)).2.1]⟩), fun s hs he => ?_, ?_⟩
  · unfold endW
    rw [(pk s hs).2.1]
    rw [cntR_congr _ _ (fun j _ hj => by rw [bl j (by omega), (pk j (by omega)).2.1])]
  · unfold posW
    rw [cntR_app _ (Z.1.1 1) 1 0, Nat.zero_add]
    have e1 : cntR (fun b => isBl (pushZ Z k r).1 b && decide ((pushZ Z k r).1.1 (100 + b) ≤ Z.1.1 1 + 1)) 0 (Z.1.1 1) = cntR (fun b => isBl Z.1 b && decide (Z.1.1 (100 + b) ≤ Z.1.1 1)) 0 (Z.1.1 1) := by
      refine cntR_congr _ _ (fun j _ hj => ?_)
      rw [bl j (by omega), (pk j (by omega)).2.1]
      rcases (h.2.1 j (by omega)).2.2.1 with q | ⟨-, q⟩
      · rw [decide_eq_true (by omega), decide_eq_true q]
      · rw [decide_eq_false (by omega), decide_eq_false (by omega)]
    have e2 : cntR (fun b => isBl (pushZ Z k r).1 b && decide ((pushZ Z k r).1.1 (100 + b) ≤ Z.1.1 1 + 1)) (Z.1.1 1) 1 = 0 := by
      show (if (isBl (pushZ Z k r).1 (Z.1.1 1) && decide ((pushZ Z k r).1.1 (100 + Z.1.1 1) ≤ Z.1.1 1 + 1)) = true then 1 else 0) + 0 = 0
      rw [isBl_k s1, s2]
      by_cases c2 : k = 7 ∨ k = 8
      · rw [if_pos c2, decide_eq_false (p := 1000 ≤ Z.1.1 1 + 1) (by omega)]; simp
      · rw [decide_eq_false c2]; simp
    rw [e1, e2]
    omega
theorem WkP.cg {R R' : Nat → Nat → Int32} {w w' : Wk} {s : Nat} (hp : posW w' s = posW w s) (hc : isBl w s = true → w'.1 (100 + s) ≤ w'.1 1 → w.1 (100 + s) ≤ w.1 1 ∧ endW w' s = endW w s) (hk : w'.1 (10 + s) = w.1 (10 + s)) (hv : ∀ a, w'.2 a s = w.2 a s)
    (e1 : ∀ c, 24 ≤ c → c ≤ 28 → R' c (posW w s) = R c (posW w s)) (e2 : isBl w s = true → w.1 (100 + s) ≤ w.1 1 → R' 29 (posW w s) = R 29 (posW w s) ∧ R' 24 (endW w s) = R 24 (endW w s) ∧ R' 29 (endW w s) = R 29 (endW w s)) (h : WkP R w s) : WkP R' w' s := by
  unfold WkP at h ⊢
  rw [isBl_cg hk, hp, hk, hv 0, hv 1, hv 2, hv 3, e1 24 (by decide) (by decide), e1 25 (by decide) (by decide), e1 26 (by decide) (by decide), e1 27 (by decide) (by decide), e1 28 (by decide) (by decide)]
  refine ⟨h.1, fun x y => ?_, h.2.2⟩
  obtain ⟨y1, y2⟩ := hc x y
  obtain ⟨z1, z2, z3⟩ := e2 x y1
  rw [y2, z1, z2, z3]
  exact h.2.1 x y1
theorem ZX.push {K : Co} {Z : Zw} {k : Nat} {r : Rs} {M M' : Mem} (o : ZOK K Z) (h30 : Z.1.1 1 < 30) (h : ZX M Z) (f : ∀ c, 24 ≤ c → c ≤ 29 → ∀ j, ¬ j = posW Z.1 (Z.1.1 1) → M'.1 c 4 j = M.1 c 4 j) (e8 : M'.1 23 4 8 = 1) (e7 : M'.1 23 4 7 = nI (Z.1.1 1 + 1)) (e6 : M'.1 23 4 6 = nI (posW Z.1 (Z.1.1 1) + 1))
    (e34 : M'.1 34 0 1 = nI (pushZ Z k r).2.1) (e35 : ∀ j, j < Z.2.1 → M'.1 35 0 j = M.1 35 0 j) (e35' : k = 7 ∨ k = 8 → M'.1 35 0 Z.2.1 = nI (posW Z.1 (Z.1.1 1))) (e24 : M'.1 24 4 (posW Z.1 (Z.1.1 1)) = nI (codeW k)) (hr : RsX (fun c => M'.1 c 4) (posW Z.1 (Z.1.1 1)) k r) : ZX M' (pushZ Z k r) := by
  obtain ⟨h8, h7, h6, h34, h35, hw⟩ := h
  obtain ⟨p1, p2, p3⟩ := push_pos (k := k) (r := r) o h30
  have pk := fun s (hs : s < Z.1.1 1) => push_k (k := k) (r := r) hs h30
  obtain ⟨s1, s2, s3, s4⟩ := push_S (Z := Z) (k := k) (r := r) h30
  refine ⟨e8, by rw [s3]; exact e7, by rw [s3, p3]; exact e6, e34, fun j hj => ?_, fun s hs => ?_⟩
  · have hd : (pushZ Z k r).2.1 = if k = 7 ∨ k = 8 then Z.2.1 + 1 else Z.2.1 := rfl
    have hf : (pushZ Z k r).2.2 = if k = 7 ∨ k = 8 then updN Z.2.2 Z.2.1 (Z.1.1 1) else Z.2.2 := rfl
    rw [hd] at hj
    rw [hf]
    by_cases c : k = 7 ∨ k = 8
    · rw [if_pos c] at hj ⊢
      by_cases e : j = Z.2.1
      · rw [e, e35' c]
        unfold updN
        rw [if_pos rfl, p1 _ (Nat.le_refl _)]
      · have hj' : j < Z.2.1 := by omega
        unfold updN
        rw [if_neg e, e35 j hj', h35 j hj', p1 _ (Nat.le_of_lt (o.2.2.1 j hj').1)]
    · rw [if_neg c] at hj ⊢
      rw [e35 j hj, h35 j hj, p1 _ (Nat.le_of_lt (o.2.2.1 j hj).1)]
  · rw [s3] at hs
    by_cases c : s < Z.1.1 1
    · have hb := o.2.1 s c
      refine WkP.cg (p1 s (by omega)) (fun x y => ?_) (pk s c).1 (pk s c).2.2 (fun a x y => ?_) (fun x y => ⟨?_, ?_, ?_⟩) (hw s c)
      · rw [(pk s c).2.1, s3] at y
        have q : Z.1.1 (100 + s) ≤ Z.1.1 1 := by
          rcases hb.2.2.1 with q | ⟨-, q⟩
          · exact q
          · omega
        exact ⟨q, p2 s c q⟩
      · have := posW_mon2 (w := Z.1) c
        exact f a (by omega) (by omega) _ (by omega)
      · have := posW_mon2 (w := Z.1) c
        exact f 29 (by decide) (by decide) _ (by omega)
      · have := endW_lt_pos x hb.2.1 y
        exact f 24 (by decide) (by decide) _ (by omega)
      · have := endW_lt_pos x hb.2.1 y
        exact f 29 (by decide) (by decide) _ (by omega)
    · have e : s = Z.1.1 1 := by omega
      subst e
      obtain ⟨v0, v1, v2, v3⟩ := push_v (Z := Z) (k := k) (r := r)
      unfold WkP
      rw [p1 _ (Nat.le_refl _), s1, v0, v1, v2, v3, isBl_k s1, s2, s3]
      refine ⟨e24, fun x y => ?_, hr⟩
      rw [if_pos (of_decide_eq_true x)] at y
      omega
theorem close_pos {K : Co} {Z : Zw} (o : ZOK K Z) (h0 : ¬ Z.2.1 = 0) : (∀ s, s < Z.1.1 1 → posW (closeZ Z).1 s = posW Z.1 s) ∧ (∀ s, s < Z.1.1 1 → isBl Z.1 s = true → Z.1.1 (100 + s) ≤ Z.1.1 1 → endW (closeZ Z).1 s = endW Z.1 s) ∧ endW (closeZ Z).1 (Z.2.2 (Z.2.1 - 1)) = posW Z.1 (Z.1.1 1) ∧ posW (closeZ Z).1 (Z.1.1 1) = posW Z.1 (Z.1.1 1) + 1 := by
  obtain ⟨⟨a1, a2, a3⟩, a4, a5, a6, a7, a8, a9⟩ := o
  obtain ⟨c1, c2, c3, c4, c5⟩ := close_k (Z := Z) (s := 0)
  obtain ⟨x1, x2, x3⟩ := a5 (Z.2.1 - 1) (by omega)
  have ck : ∀ s, s < 30 → (closeZ Z).1.1 (10 + s) = Z.1.1 (10 + s) := fun s hs => c4 _ (by omega)
  have ce : ∀ s, ¬ s = Z.2.2 (Z.2.1 - 1) → (closeZ Z).1.1 (100 + s) = Z.1.1 (100 + s) := fun s hs => c4 _ (by omega)
  have bl : ∀ s, s < Z.1.1 1 → isBl (closeZ Z).1 s = isBl Z.1 s := fun s hs => isBl_cg (ck s (by omega))
  refine ⟨fun s hs => posW_cg (fun x hx => ⟨bl x (by omega), ?_⟩), fun s hs hb he => ?_, ?_, ?_⟩
  · by_cases e : x = Z.2.2 (Z.2.1 - 1)
    · rw [e, c5, x3]; omega
    · rw [ce x e]
  · have hne : ¬ s = Z.2.2 (Z.2.1 - 1) := fun z => by rw [z, x3] at he; omega
    unfold endW
    rw [ce s hne]
    rw [cntR_congr _ _ (fun j _ hj => ?_)]
    rw [bl j (by omega)]
    by_cases e : j = Z.2.2 (Z.2.1 - 1)
    · rw [e, c5, x3]
      have q1 : decide (Z.1.1 1 < Z.1.1 (100 + s)) = false := decide_eq_false (by omega)
      have q2 : decide (1000 < Z.1.1 (100 + s)) = false := decide_eq_false (by omega)
      have q3 : decide (1000 = Z.1.1 (100 + s)) = false := decide_eq_false (by omega)
      have q4 : (decide (Z.1.1 1 = Z.1.1 (100 + s)) && decide (s < Z.2.2 (Z.2.1 - 1))) = false := by
        by_cases y : s < Z.2.2 (Z.2.1 - 1)
        · have := a9 s (Z.2.1 - 1) hs he (by omega) y
          rw [decide_eq_false (p := Z.1.1 1 = Z.1.1 (100 + s)) (by omega)]; rfl
        · rw [decide_eq_false y, Bool.and_false]
      rw [q1, q2, q3, q4]; rfl
    · rw [ce j e]
  · unfold endW posW
    rw [c5]
    rw [cntR_congr (p := fun d => isBl (closeZ Z).1 d && (decide ((closeZ Z).1.1 (100 + d) < Z.1.1 1) || (decide ((closeZ Z).1.1 (100 + d) = Z.1.1 1) && decide (Z.2.2 (Z.2.1 - 1) < d)))) (q := fun b => isBl Z.1 b && decide (Z.1.1 (100 + b) ≤ Z.1.1 1)) _ _ (fun j _ hj => ?_)]
    rw [bl j (by omega)]
    by_cases e : j = Z.2.2 (Z.2.1 - 1)
    · rw [e, c5, x3]
      have q1 : decide (Z.1.1 1 < Z.1.1 1) = false := decide_eq_false (by omega)
      have q2 : decide (Z.2.2 (Z.2.1 - 1) < Z.2.2 (Z.2.1 - 1)) = false := decide_eq_false (by omega)
      have q3 : decide (1000 ≤ Z.1.1 1) = false := decide_eq_false (by omega)
      rw [q1, q2, q3]; simp
    · rw [ce j e]
      by_cases y : Z.1.1 (100 + j) ≤ Z.1.1 1
      · rw [decide_eq_true y]
        by_cases y2 : Z.1.1 (100 + j) < Z.1.1 1
        · rw [decide_eq_true y2]; rfl
        · have y3 : Z.1.1 (100 + j) = Z.1.1 1 := by omega
          have y4 : Z.2.2 (Z.2.1 - 1) < j := by
            rcases Nat.lt_or_ge (Z.2.2 (Z.2.1 - 1)) j with q | q
            · exact q
            · have := a9 j (Z.2.1 - 1) (by omega) y (by omega) (by omega)
              omega
          rw [decide_eq_true y3, decide_eq_true y4]; simp
      · have y2 : decide (Z.1.1 (100 + j) < Z.1.1 1) = false := decide_eq_false (by omega)
        have y3 : decide (Z.1.1 (100 + j) = Z.1.1 1) = false := decide_eq_false (by omega)
        rw [decide_eq_false y, y2, y3]; rfl
  · unfold posW
    have := cntR_one (p := fun b => isBl (closeZ Z).1 b && decide ((closeZ Z).1.1 (100 + b) ≤ Z.1.1 1)) (q := fun b => isBl Z.1 b && decide (Z.1.1 (100 + b) ≤ Z.1.1 1)) (b := Z.2.2 (Z.2.1 - 1)) (Z.1.1 1) 0 (Nat.zero_le _) (by omega) (by
      show (isBl (closeZ Z).1 _ && decide ((closeZ Z).1.1 _ ≤ _)) = true
      rw [bl _ x1, x2, c5, decide_eq_true (Nat.le_refl _)]; rfl) (by
      show (_ && decide (Z.1.1 _ ≤ _)) = false
      rw [x3, decide_eq_false (by omega), Bool.and_false]) (fun j _ hj hne => by
      show _ = (isBl (closeZ Z).1 j && decide ((closeZ Z).1.1 (100 + j) ≤ _))
      rw [bl j (by omega), ce j hne])
    omega
theorem ZX.close {K : Co} {Z : Zw} {M M' : Mem} (o : ZOK K Z) (h0 : ¬ Z.2.1 = 0) (h : ZX M Z) (f : ∀ c, 24 ≤ c → c ≤ 28 → ∀ j, ¬ j = posW Z.1 (Z.1.1 1) → M'.1 c 4 j = M.1 c 4 j) (f9 : ∀ j, ¬ j = posW Z.1 (Z.1.1 1) → ¬ j = posW Z.1 (Z.2.2 (Z.2.1 - 1)) → M'.1 29 4 j = M.1 29 4 j) (e8 : M'.1 23 4 8 = 1) (e7 : M'.1 23 4 7 = nI (Z.1.1 1)) (e6 : M'.1 23 4 6 = nI (posW Z.1 (Z.1.1 1) + 1))
    (e34 : M'.1 34 0 1 = nI (Z.2.1 - 1)) (e35 : ∀ j, j < Z.2.1 - 1 → M'.1 35 0 j = M.1 35 0 j) (e24 : M'.1 24 4 (posW Z.1 (Z.1.1 1)) = nI 28) (e29 : M'.1 29 4 (posW Z.1 (Z.1.1 1)) = nI (posW Z.1 (Z.2.2 (Z.2.1 - 1)))) (e29' : M'.1 29 4 (posW Z.1 (Z.2.2 (Z.2.1 - 1))) = nI (posW Z.1 (Z.1.1 1))) : ZX M' (closeZ Z) := by
  obtain ⟨h8, h7, h6, h34, h35, hw⟩ := h
  obtain ⟨p1, p2, p3, p4⟩ := close_pos o h0
  obtain ⟨⟨a1, a2, a3⟩, a4, a5, a6, a7, a8, a9⟩ := o
  obtain ⟨c1, c2, c3, c4, c5⟩ := close_k (Z := Z) (s := 0)
  obtain ⟨x1, x2, x3⟩ := a5 (Z.2.1 - 1) (by omega)
  have ck : ∀ s, s < 30 → (closeZ Z).1.1 (10 + s) = Z.1.1 (10 + s) := fun s hs => c4 _ (by omega)
  have ce : ∀ s, ¬ s = Z.2.2 (Z.2.1 - 1) → (closeZ Z).1.1 (100 + s) = Z.1.1 (100 + s) := fun s hs => c4 _ (by omega)
  have cS : (closeZ Z).1.1 1 = Z.1.1 1 := c4 1 (by omega)
  refine ⟨e8, by rw [cS]; exact e7, by rw [cS, p4]; exact e6, by rw [c3]; exact e34, fun j hj => ?_, fun s hs => ?_⟩
  · rw [c3] at hj
    rw [c2, e35 j hj, h35 j (by omega), p1 _ (a5 j (by omega)).1]
  · rw [cS] at hs
    have lt := posW_mon2 (w := Z.1) hs
    by_cases e : s = Z.2.2 (Z.2.1 - 1)
    · have hh := hw s hs
      unfold WkP at hh ⊢
      rw [isBl_cg (ck s (by omega)), p1 s hs, ck s (by omega), c1]
      simp only at hh ⊢
      rw [f 24 (by decide) (by decide) _ (by omega), f 25 (by decide) (by decide) _ (by omega), f 26 (by decide) (by decide) _ (by omega), f 27 (by decide) (by decide) _ (by omega), f 28 (by decide) (by decide) _ (by omega)]
      refine ⟨hh.1, fun _ _ => ?_, hh.2.2⟩
      rw [e, p3]
      exact ⟨e29', e24, e29⟩
    · have hb := a4 s hs
      refine WkP.cg (p1 s hs) (fun x y => ?_) (ck s (by omega)) (fun a => by rw [c1]) (fun a x y => ?_) (fun x y => ⟨?_, ?_, ?_⟩) (hw s hs)
      · rw [ce s e, cS] at y
        exact ⟨y, p2 s hs x y⟩
      · exact f a (by omega) (by omega) _ (by omega)
      · refine f9 _ (by omega) (fun z => ?_)
        rcases Nat.lt_or_ge s (Z.2.2 (Z.2.1 - 1)) with q | q
        · have := posW_mon2 (w := Z.1) q; omega
        · have := posW_mon2 (w := Z.1) (show Z.2.2 (Z.2.1 - 1) < s by omega); omega
      · have := endW_lt_pos x hb.2.1 y
        exact f 24 (by decide) (by decide) _ (by omega)
      · have := endW_lt_pos x hb.2.1 y
        exact f9 _ (by omega) (fun z => pos_ne_end x hb.2.1 z.symm)
theorem zx_end {K : Co} {Z : Zw} {M : Mem} (o : ZOK K Z) (h0 : Z.2.1 = 0) (h : ZX M Z) : WkXR (fun c => M.1 c 4) Z.1 := by
  obtain ⟨h8, h7, h6, h34, h35, hw⟩ := h
  have ok := zok_end o h0
  refine ⟨?_, h7, ?_, fun s hs => ?_⟩
  · show M.1 23 4 8 = _
    rw [h8, o.1.1]; rfl
  · show M.1 23 4 6 = _
    rw [h6]
    unfold posW
    rw [cntR_congr (p := fun b => isBl Z.1 b && decide (Z.1.1 (100 + b) ≤ Z.1.1 1)) (q := isBl Z.1) _ _ (fun j _ hj => by
      rw [decide_eq_true (ok.2.2.2 j (by omega)).2.2.1, Bool.and_true])]
  · obtain ⟨g1, g2, g3⟩ := hw s hs
    exact ⟨g1, fun x => g2 x (ok.2.2.2 s hs).2.2.1, g3⟩
