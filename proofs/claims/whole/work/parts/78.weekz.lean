/-! ===== a draft of weeks: a step more, a block closed ===== -/
theorem push_k {Z : Zw} {k s : Nat} {r : Rs} (hs : s < Z.1.1 1) (h30 : Z.1.1 1 < 30) : (pushZ Z k r).1.1 (10 + s) = Z.1.1 (10 + s) ∧ (pushZ Z k r).1.1 (100 + s) = Z.1.1 (100 + s) ∧ ∀ a, (pushZ Z k r).1.2 a s = Z.1.2 a s := by
  refine ⟨?_, ?_, fun a => ?_⟩
  · show (if 10 + s = 1 then _ else if 10 + s = 10 + Z.1.1 1 then _ else if 10 + s = 100 + Z.1.1 1 then _ else _) = _
    rw [if_neg (by omega), if_neg (by omega), if_neg (by omega)]
  · show (if 100 + s = 1 then _ else if 100 + s = 10 + Z.1.1 1 then _ else if 100 + s = 100 + Z.1.1 1 then _ else _) = _
    rw [if_neg (by omega), if_neg (by omega), if_neg (by omega)]
  · show (if s = Z.1.1 1 then _ else _) = _
    rw [if_neg (by omega)]
theorem push_S {Z : Zw} {k : Nat} {r : Rs} (h30 : Z.1.1 1 < 30) : (pushZ Z k r).1.1 (10 + Z.1.1 1) = k ∧ (pushZ Z k r).1.1 (100 + Z.1.1 1) = (if k = 7 ∨ k = 8 then 1000 else Z.1.1 1 + 1) ∧ (pushZ Z k r).1.1 1 = Z.1.1 1 + 1 ∧ (pushZ Z k r).1.1 0 = Z.1.1 0 := by
  refine ⟨?_, ?_, rfl, ?_⟩
  · show (if 10 + Z.1.1 1 = 1 then _ else if 10 + Z.1.1 1 = 10 + Z.1.1 1 then _ else _) = _
    rw [if_neg (by omega), if_pos rfl]
  · show (if 100 + Z.1.1 1 = 1 then _ else if 100 + Z.1.1 1 = 10 + Z.1.1 1 then _ else if 100 + Z.1.1 1 = 100 + Z.1.1 1 then _ else _) = _
    rw [if_neg (by omega), if_neg (by omega), if_pos rfl]
  · show (if (0 : Nat) = 1 then Z.1.1 1 + 1 else if 0 = 10 + Z.1.1 1 then k else if 0 = 100 + Z.1.1 1 then (if k = 7 ∨ k = 8 then 1000 else Z.1.1 1 + 1) else Z.1.1 0) = Z.1.1 0
    rw [if_neg (by omega), if_neg (by omega), if_neg (by omega)]
theorem push_v {Z : Zw} {k : Nat} {r : Rs} : (pushZ Z k r).1.2 0 (Z.1.1 1) = r.1 ∧ (pushZ Z k r).1.2 1 (Z.1.1 1) = r.2.1 ∧ (pushZ Z k r).1.2 2 (Z.1.1 1) = r.2.2.1 ∧ (pushZ Z k r).1.2 3 (Z.1.1 1) = r.2.2.2 := by
  refine ⟨?_, ?_, ?_, ?_⟩
  · show (if Z.1.1 1 = Z.1.1 1 then _ else _) = _
    rw [if_pos rfl, if_pos rfl]
  · show (if Z.1.1 1 = Z.1.1 1 then _ else _) = _
    rw [if_pos rfl, if_neg (by decide), if_pos rfl]
  · show (if Z.1.1 1 = Z.1.1 1 then _ else _) = _
    rw [if_pos rfl, if_neg (by decide), if_neg (by decide), if_pos rfl]
  · show (if Z.1.1 1 = Z.1.1 1 then _ else _) = _
    rw [if_pos rfl, if_neg (by decide), if_neg (by decide), if_neg (by decide)]
theorem isBl_cg {w w' : Wk} {s : Nat} (h : w'.1 (10 + s) = w.1 (10 + s)) : isBl w' s = isBl w s := by unfold isBl; rw [h]
theorem isBl_k {w : Wk} {s k : Nat} (h : w.1 (10 + s) = k) : isBl w s = decide (k = 7 ∨ k = 8) := by
  unfold isBl
  rw [h]
  by_cases a : k = 7
  · subst a; rfl
  · by_cases b : k = 8
    · subst b; rfl
    · rw [decide_eq_false (by omega), Bool.or_eq_false_iff]
      exact ⟨beq_false_of_ne a, beq_false_of_ne b⟩
theorem OKs.cg {K : Co} {w w' : Wk} {s : Nat} (h1 : w'.1 (10 + s) = w.1 (10 + s)) (h2 : ∀ a, w'.2 a s = w.2 a s) (h : OKs K w s) : OKs K w' s := by
  unfold OKs at h ⊢
  rw [h1, h2 0, h2 1, h2 2, h2 3]
  exact h
theorem ZOK.push {K : Co} {Z : Zw} {k : Nat} {r : Rs} (h : ZOK K Z) (h30 : Z.1.1 1 < 30) (hk : k ≤ 9) (hb : (k = 7 ∨ k = 8) → Z.2.1 < 3) (hr : OKs K (pushZ Z k r).1 (Z.1.1 1)) : ZOK K (pushZ Z k r) := by
  obtain ⟨⟨a1, a2, a3⟩, a4, a5, a6, a7, a8, a9⟩ := h
  have pk := fun s (hs : s < Z.1.1 1) => push_k (k := k) (r := r) hs h30
  obtain ⟨s1, s2, s3, s4⟩ := push_S (Z := Z) (k := k) (r := r) h30
  have bl : ∀ s, s < Z.1.1 1 → isBl (pushZ Z k r).1 s = isBl Z.1 s := fun s hs => isBl_cg (pk s hs).1
  have blS := isBl_k s1
  have c1 : ∀ s, s ≤ Z.1.1 1 → cntR (fun b => isBl (pushZ Z k r).1 b && decide (s < (pushZ Z k r).1.1 (100 + b))) 0 s = cntR (fun b => isBl Z.1 b && decide (s < Z.1.1 (100 + b))) 0 s := fun s hs => cntR_congr _ _ (fun j _ hj => by rw [bl j (by omega), (pk j (by omega)).2.1])
  have hd : (pushZ Z k r).2.1 = if k = 7 ∨ k = 8 then Z.2.1 + 1 else Z.2.1 := rfl
  have hf : (pushZ Z k r).2.2 = if k = 7 ∨ k = 8 then updN Z.2.2 Z.2.1 (Z.1.1 1) else Z.2.2 := rfl
  have stk : ∀ j, j < (pushZ Z k r).2.1 → (j < Z.2.1 ∧ (pushZ Z k r).2.2 j = Z.2.2 j) ∨ (j = Z.2.1 ∧ (k = 7 ∨ k = 8) ∧ (pushZ Z k r).2.2 j = Z.1.1 1) := by
    intro j hj
    rw [hd] at hj
    rw [hf]
    by_cases c : k = 7 ∨ k = 8
    · rw [if_pos c] at hj ⊢
      by_cases e : j = Z.2.1
      · exact Or.inr ⟨e, c, by unfold updN; rw [if_pos e]⟩
      · exact Or.inl ⟨by omega, by unfold updN; rw [if_neg e]⟩
    · rw [if_neg c] at hj ⊢
      exact Or.inl ⟨hj, rfl⟩
  refine ⟨⟨s4.trans a1, by rw [s3]; omega, ?_⟩, fun s hs => ?_, fun j hj => ?_, fun i j hij hj => ?_, fun s hs he => ?_, ?_, fun s j hs he hj hsj => ?_⟩
  · rw [hd]
    by_cases c : k = 7 ∨ k = 8
    · rw [if_pos c]; have := hb c; omega
    · rw [if_neg c]; exact a3
  · rw [s3] at hs ⊢
    by_cases c : s < Z.1.1 1
    · obtain ⟨b1, b2, b3, b4, b5, b6, b7, b8⟩ := a4 s c
      rw [(pk s c).1, (pk s c).2.1, bl s c, c1 s (by omega)]
      refine ⟨b1, b2, ?_, b4, fun x y t h1 h2 => ?_, b6, b7, b8.cg (pk s c).1 (pk s c).2.2⟩
      · rcases b3 with b3 | b3
        · exact Or.inl (by omega)
        · exact Or.inr b3
      · have q : Z.1.1 (100 + s) ≤ Z.1.1 1 := by
          rcases b3 with b3 | ⟨-, b3⟩
          · exact b3
          · omega
        rw [(pk t (by omega)).2.1]
        exact b5 x q t h1 h2
    · have e : s = Z.1.1 1 := by omega
      subst e
      rw [s1, s2, c1 _ (Nat.le_refl _), a8, blS]
      refine ⟨hk, ?_, ?_, fun z => ?_, fun z y t h1 h2 => ?_, a3, fun z => ?_, hr⟩
      · split <;> omega
      · by_cases c2 : k = 7 ∨ k = 8
        · rw [if_pos c2]; exact Or.inr ⟨decide_eq_true c2, rfl⟩
        · rw [if_neg c2]; exact Or.inl (Nat.le_refl _)
      · rw [if_neg (of_decide_eq_false z)]
      · rw [if_pos (of_decide_eq_true z)] at y
        omega
      · have := hb (of_decide_eq_true z); omega
  · rcases stk j hj with ⟨e1, e2⟩ | ⟨e1, e2, e3⟩
    · obtain ⟨x1, x2, x3⟩ := a5 j e1
      rw [e2, s3, bl _ x1, (pk _ x1).2.1]
      exact ⟨by omega, x2, x3⟩
    · rw [e3, s3, blS, s2, if_pos e2]
      exact ⟨by omega, decide_eq_true e2, rfl⟩
  · rcases stk j hj with ⟨e1, e2⟩ | ⟨e1, e2, e3⟩
    · rcases stk i (by omega) with ⟨y1, y2⟩ | ⟨y1, -⟩
      · rw [e2, y2]; exact a6 i j hij e1
      · omega
    · rcases stk i (by omega) with ⟨y1, y2⟩ | ⟨y1, -⟩
      · rw [e3, y2]; exact (a5 i y1).1
      · omega
  · rw [s3] at hs
    by_cases c : s < Z.1.1 1
    · rw [(pk s c).2.1] at he
      obtain ⟨j, hj, ej⟩ := a7 s c he
      refine ⟨j, ?_, ?_⟩
      · rw [hd]; split <;> omega
      · rw [hf]
        by_cases c2 : k = 7 ∨ k = 8
        · rw [if_pos c2]; unfold updN; rw [if_neg (by omega)]; exact ej
        · rw [if_neg c2]; exact ej
    · have e : s = Z.1.1 1 := by omega
      subst e
      rw [s2] at he
      by_cases c2 : k = 7 ∨ k = 8
      · refine ⟨Z.2.1, ?_, ?_⟩
        · rw [hd, if_pos c2]; omega
        · rw [hf, if_pos c2]; unfold updN; rw [if_pos rfl]
      · rw [if_neg c2] at he; omega
  · rw [s3, cntR_app _ (Z.1.1 1) 1 0]
    have e1 : cntR (fun b => isBl (pushZ Z k r).1 b && decide (Z.1.1 1 + 1 < (pushZ Z k r).1.1 (100 + b))) 0 (Z.1.1 1) = Z.2.1 := by
      rw [← a8]
      refine cntR_congr _ _ (fun j _ hj => ?_)
      rw [bl j (by omega), (pk j (by omega)).2.1]
      rcases (a4 j (by omega)).2.2.1 with q | ⟨-, q⟩
      · rw [decide_eq_false (by omega), decide_eq_false (by omega)]
      · rw [decide_eq_true (by omega), decide_eq_true (by omega)]
    rw [e1, hd, Nat.zero_add]
    show Z.2.1 + ((if (isBl (pushZ Z k r).1 (Z.1.1 1) && decide (Z.1.1 1 + 1 < (pushZ Z k r).1.1 (100 + Z.1.1 1))) = true then 1 else 0) + 0) = _
    rw [blS, s2]
    by_cases c2 : k = 7 ∨ k = 8
    · rw [if_pos c2, if_pos c2, decide_eq_true c2, decide_eq_true (by omega)]; simp
    · rw [if_neg c2, if_neg c2, decide_eq_false c2]; simp
  · rw [s3] at hs he
    rcases stk j hj with ⟨e1, e2⟩ | ⟨e1, e2, e3⟩
    · rw [e2] at hsj ⊢
      have := (a5 j e1).1
      rw [(pk s (by omega)).2.1] at he ⊢
      have q : Z.1.1 (100 + s) ≤ Z.1.1 1 := by
        rcases (a4 s (by omega)).2.2.1 with q | ⟨-, q⟩
        · exact q
        · omega
      exact a9 s j (by omega) q e1 hsj
    · rw [e3] at hsj ⊢
      rw [(pk s hsj).2.1] at he ⊢
      rcases (a4 s hsj).2.2.1 with q | ⟨-, q⟩
      · exact q
      · omega
theorem close_k {Z : Zw} {s : Nat} : (closeZ Z).1.2 = Z.1.2 ∧ (closeZ Z).2.2 = Z.2.2 ∧ (closeZ Z).2.1 = Z.2.1 - 1 ∧ (∀ j, ¬ j = 100 + Z.2.2 (Z.2.1 - 1) → (closeZ Z).1.1 j = Z.1.1 j) ∧ (closeZ Z).1.1 (100 + Z.2.2 (Z.2.1 - 1)) = Z.1.1 1 := by
  refine ⟨rfl, rfl, rfl, fun j hj => ?_, ?_⟩
  · show updN _ _ _ j = _
    unfold updN
    rw [if_neg hj]
  · show updN _ _ _ _ = _
    unfold updN
    rw [if_pos rfl]
theorem ZOK.close {K : Co} {Z : Zw} (h : ZOK K Z) (h0 : ¬ Z.2.1 = 0) : ZOK K (closeZ Z) := by
  obtain ⟨⟨a1, a2, a3⟩, a4, a5, a6, a7, a8, a9⟩ := h
  obtain ⟨c1, c2, c3, c4, c5⟩ := close_k (Z := Z) (s := 0)
  obtain ⟨x1, x2, x3⟩ := a5 (Z.2.1 - 1) (by omega)
  have ck : ∀ s, s < 30 → (closeZ Z).1.1 (10 + s) = Z.1.1 (10 + s) := fun s hs => c4 _ (by omega)
  have ce : ∀ s, ¬ s = Z.2.2 (Z.2.1 - 1) → (closeZ Z).1.1 (100 + s) = Z.1.1 (100 + s) := fun s hs => c4 _ (by omega)
  have cS : (closeZ Z).1.1 1 = Z.1.1 1 := c4 1 (by omega)
  have bl : ∀ s, s < Z.1.1 1 → isBl (closeZ Z).1 s = isBl Z.1 s := fun s hs => isBl_cg (ck s (by omega))
  have top : ∀ j, j < Z.2.1 → Z.2.2 j ≤ Z.2.2 (Z.2.1 - 1) := by
    intro j hj
    by_cases e : j = Z.2.1 - 1
    · rw [e]; exact Nat.le_refl _
    · exact Nat.le_of_lt (a6 j (Z.2.1 - 1) (by omega) (by omega))
  have cn : ∀ s, s < Z.1.1 1 → cntR (fun b => isBl (closeZ Z).1 b && decide (s < (closeZ Z).1.1 (100 + b))) 0 s = cntR (fun b => isBl Z.1 b && decide (s < Z.1.1 (100 + b))) 0 s := by
    intro s hs
    refine cntR_congr _ _ (fun j _ hj => ?_)
    rw [bl j (by omega)]
    by_cases e : j = Z.2.2 (Z.2.1 - 1)
    · rw [e, c5, x3, decide_eq_true (by omega), decide_eq_true (by omega)]
    · rw [ce j e]
  refine ⟨⟨(c4 0 (by omega)).trans a1, by rw [cS]; exact a2, by rw [c3]; omega⟩, fun s hs => ?_, fun j hj => ?_, fun i j hij hj => ?_, fun s hs he => ?_, ?_, fun s j hs he hj hsj => ?_⟩
  · rw [cS] at hs ⊢
    obtain ⟨b1, b2, b3, b4, b5, b6, b7, b8⟩ := a4 s hs
    rw [ck s (by omega), bl s hs, cn s hs]
    by_cases e : s = Z.2.2 (Z.2.1 - 1)
    · subst e
      rw [c5]
      refine ⟨b1, x1, Or.inl (Nat.le_refl _), fun z => absurd (x2.symm.trans z) (by decide), fun _ _ t h1 h2 => ?_, b6, b7, b8.cg (ck _ (by omega)) (fun a => by rw [c1])⟩
      rw [ce t (by omega)]
      rcases (a4 t h2).2.2.1 with q | ⟨-, q⟩
      · exact q
      · obtain ⟨j, hj, ej⟩ := a7 t h2 q
        have := top j hj
        omega
    · rw [ce s e]
      refine ⟨b1, b2, b3, b4, fun x y t h1 h2 => ?_, b6, b7, b8.cg (ck _ (by omega)) (fun a => by rw [c1])⟩
      by_cases e2 : t = Z.2.2 (Z.2.1 - 1)
      · have := b5 x y t h1 h2
        rw [e2, x3] at this
        omega
      · rw [ce t e2]; exact b5 x y t h1 h2
  · rw [c3] at hj
    have hne : ¬ Z.2.2 j = Z.2.2 (Z.2.1 - 1) := by
      have := a6 j (Z.2.1 - 1) (by omega) (by omega)
      omega
    obtain ⟨y1, y2, y3⟩ := a5 j (by omega)
    rw [c2, cS, bl _ y1, ce _ hne]
    exact ⟨y1, y2, y3⟩
  · rw [c2]; rw [c3] at hj; exact a6 i j hij (by omega)
  · rw [cS] at hs
    have hne : ¬ s = Z.2.2 (Z.2.1 - 1) := by
      intro z
      rw [z, c5] at he
      omega
    rw [ce s hne] at he
    obtain ⟨j, hj, ej⟩ := a7 s hs he
    have hj2 : ¬ j = Z.2.1 - 1 := fun z => hne (by rw [← ej, z])
    exact ⟨j, by rw [c3]; omega, by rw [c2]; exact ej⟩
  · rw [cS, c3, ← a8]
    have := cntR_one (p := fun b => isBl Z.1 b && decide (Z.1.1 1 < Z.1.1 (100 + b))) (q := fun b => isBl (closeZ Z).1 b && decide (Z.1.1 1 < (closeZ Z).1.1 (100 + b))) (b := Z.2.2 (Z.2.1 - 1)) (Z.1.1 1) 0 (Nat.zero_le _) (by omega) (by
      show (isBl Z.1 _ && decide (_ < Z.1.1 _)) = true
      rw [x2, x3, decide_eq_true (by omega)]; rfl) (by
      show (_ && decide (_ < (closeZ Z).1.1 _)) = false
      rw [c5, decide_eq_false (by omega), Bool.and_false]) (fun j _ hj hne => by
      show (isBl (closeZ Z).1 j && decide (_ < (closeZ Z).1.1 (100 + j))) = _
      rw [bl j (by omega), ce j hne])
    omega
  · rw [cS] at hs he
    rw [c3] at hj
    rw [c2] at hsj ⊢
    have hj' := a6 j (Z.2.1 - 1) (by omega) (by omega)
    have hne : ¬ s = Z.2.2 (Z.2.1 - 1) := by omega
    rw [ce s hne] at he ⊢
    exact a9 s j hs he (by omega) hsj
