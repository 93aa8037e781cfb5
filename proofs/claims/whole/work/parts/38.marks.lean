/-! ===== copies of a world; calls on both: mark, back ===== -/
/-- of M' what D, DL name at h is as M's at i; all else is as it was, but at h -/
def Cpy (h i : Nat) (D DL : Nat → Nat → Prop) (M M' : Mem) : Prop := (∀ c j, D c j → M'.1 c h j = M.1 c i j) ∧ (∀ c j, DL c j → M'.2 c h j = M.2 c i j) ∧ ∀ c a, ¬ (a = h ∧ 8 ≤ c ∧ c ≤ 29) → M'.1 c a = M.1 c a ∧ M'.2 c a = M.2 c a
def D0 (_ _ : Nat) : Prop := False
theorem Cpy.rf {h i : Nat} {M : Mem} : Cpy h i D0 D0 M M := ⟨fun _ _ h => absurd h (by unfold D0; exact id), fun _ _ h => absurd h (by unfold D0; exact id), fun _ _ _ => ⟨rfl, rfl⟩⟩
theorem Cpy.row {h i c n : Nat} {D DL : Nat → Nat → Prop} {M M1 : Mem} (k : Cpy h i D DL M M1) (hne : ¬ i = h) (h8 : 8 ≤ c) (h29 : c ≤ 29) : Cpy h i (fun a j => D a j ∨ (a = c ∧ j < n)) DL M (sR M1 c h (va_cpy (M1.1 c i) (M1.1 c h) 0 0 n)) := by
  refine ⟨fun a j hd => ?_, fun a j hd => k.2.1 a j hd, fun a b hn => ⟨?_, (k.2.2 a b hn).2⟩⟩
  · by_cases e : a = c
    · subst e
      rw [sR_at]
      unfold va_cpy
      by_cases z : j < n
      · rw [if_pos (by omega), Nat.zero_add, Nat.sub_zero, (k.2.2 a i (fun q => hne q.1)).1]
      · rw [if_neg (by omega)]; exact k.1 a j (hd.resolve_right (fun q => z q.2))
    · rw [sR_ne _ _ _ _ (fun q => e q.1)]; exact k.1 a j (hd.resolve_right (fun q => e q.1))
  · rw [sR_ne _ _ _ _ (fun q => hn ⟨q.2, by rw [q.1]; exact h8, by rw [q.1]; exact h29⟩)]; exact (k.2.2 a b hn).1
theorem Cpy.lng {h i c n : Nat} {D DL : Nat → Nat → Prop} {M M1 : Mem} (k : Cpy h i D DL M M1) (hne : ¬ i = h) (h8 : 8 ≤ c) (h29 : c ≤ 29) : Cpy h i D (fun a j => DL a j ∨ (a = c ∧ j < n)) M (sL M1 c h (va_cpy (M1.2 c i) (M1.2 c h) 0 0 n)) := by
  refine ⟨fun a j hd => k.1 a j hd, fun a j hd => ?_, fun a b hn => ⟨(k.2.2 a b hn).1, ?_⟩⟩
  · by_cases e : a = c
    · subst e
      rw [sL_at]
      unfold va_cpy
      by_cases z : j < n
      · rw [if_pos (by omega), Nat.zero_add, Nat.sub_zero, (k.2.2 a i (fun q => hne q.1)).2]
      · rw [if_neg (by omega)]; exact k.2.1 a j (hd.resolve_right (fun q => z q.2))
    · rw [sL_ne _ _ _ _ (fun q => e q.1)]; exact k.2.1 a j (hd.resolve_right (fun q => e q.1))
  · rw [sL_ne _ _ _ _ (fun q => hn ⟨q.2, by rw [q.1]; exact h8, by rw [q.1]; exact h29⟩)]; exact (k.2.2 a b hn).2
theorem Cpy.fld {h i c p : Nat} {D DL : Nat → Nat → Prop} {M M1 : Mem} (k : Cpy h i D DL M M1) (hne : ¬ i = h) (h8 : 8 ≤ c) (h29 : c ≤ 29) : Cpy h i (fun a j => D a j ∨ (a = c ∧ j = p)) DL M (sR M1 c h (upd (M1.1 c h) p (M1.1 c i p))) := by
  refine ⟨fun a j hd => ?_, fun a j hd => k.2.1 a j hd, fun a b hn => ⟨?_, (k.2.2 a b hn).2⟩⟩
  · by_cases e : a = c
    · subst e
      rw [sR_at]
      by_cases z : j = p
      · subst z
        rw [upd_at, (k.2.2 a i (fun q => hne q.1)).1]
      · rw [upd_ne _ _ z]; exact k.1 a j (hd.resolve_right (fun q => z q.2))
    · rw [sR_ne _ _ _ _ (fun q => e q.1)]; exact k.1 a j (hd.resolve_right (fun q => e q.1))
  · rw [sR_ne _ _ _ _ (fun q => hn ⟨q.2, by rw [q.1]; exact h8, by rw [q.1]; exact h29⟩)]; exact (k.2.2 a b hn).1
theorem Cpy.mono {h i : Nat} {D DL D' DL' : Nat → Nat → Prop} {M M' : Mem} (k : Cpy h i D DL M M') (f : ∀ c j, D' c j → D c j) (g : ∀ c j, DL' c j → DL c j) : Cpy h i D' DL' M M' := ⟨fun c j hd => k.1 c j (f c j hd), fun c j hd => k.2.1 c j (g c j hd), k.2.2⟩
def D1 (c j : Nat) : Prop := ((((((((((((D0 c j ∨ (c = 9 ∧ j < 4)) ∨ (c = 11 ∧ j < 10)) ∨ (c = 12 ∧ j < 10)) ∨ (c = 13 ∧ j < 10)) ∨ (c = 14 ∧ j < 100)) ∨ (c = 15 ∧ j < 10)) ∨ (c = 16 ∧ j < 6)) ∨ (c = 17 ∧ j < 6)) ∨ (c = 18 ∧ j < 6)) ∨ (c = 19 ∧ j < 24)) ∨ (c = 8 ∧ j = 11)) ∨ (c = 8 ∧ j = 12))
def DL1 (c j : Nat) : Prop := D0 c j ∨ (c = 10 ∧ j < 40)
def D3 (c j : Nat) : Prop := ((((((((D1 c j ∨ (c = 21 ∧ j < 10)) ∨ (c = 22 ∧ j < 4)) ∨ (c = 20 ∧ j = 2)) ∨ (c = 20 ∧ j = 3)) ∨ (c = 20 ∧ j = 4)) ∨ (c = 20 ∧ j = 5)) ∨ (c = 20 ∧ j = 6)) ∨ (c = 20 ∧ j = 7))
def D7 (c j : Nat) : Prop := (c = 23 ∧ 6 ≤ j ∧ j ≤ 8) ∨ (24 ≤ c ∧ c ≤ 29 ∧ j < 60)
def D9 (c j : Nat) : Prop := D3 c j ∨ D7 c j
theorem X1_cp {h i : Nat} (M : Mem) (hne : ¬ i = h) : ∃ M', f_X1_copyFrom h i M = some M' ∧ Cpy h i D1 DL1 M M' :=
  ⟨_, rfl, (((((((((((((Cpy.rf.row hne (by decide) (by decide)).lng hne (by decide) (by decide)).row hne (by decide) (by decide)).row hne (by decide) (by decide)).row hne (by decide) (by decide)).row hne (by decide) (by decide)).row hne (by decide) (by decide)).row hne (by decide) (by decide)).row hne (by decide) (by decide)).row hne (by decide) (by decide)).row hne (by decide) (by decide)).fld hne (by decide) (by decide)).fld hne (by decide) (by decide))⟩
theorem X3_cp {h i : Nat} {M M1 : Mem} (k : Cpy h i D1 DL1 M M1) (hne : ¬ i = h) : ∃ M', f_X3_copyFrom h i M1 = some M' ∧ Cpy h i D3 DL1 M M' :=
  ⟨_, rfl, ((((((((k.row hne (by decide) (by decide)).row hne (by decide) (by decide)).fld hne (by decide) (by decide)).fld hne (by decide) (by decide)).fld hne (by decide) (by decide)).fld hne (by decide) (by decide)).fld hne (by decide) (by decide)).fld hne (by decide) (by decide))⟩
theorem X7_cp {h i : Nat} {D DL : Nat → Nat → Prop} {M M1 : Mem} (k : Cpy h i D DL M M1) (hne : ¬ i = h) (hb : isB (M.1 23 i 8) = true) : ∃ M', f_X7_copyFrom h i M1 = some M' ∧ Cpy h i (fun c j => D c j ∨ D7 c j) DL M M' := by
  obtain ⟨M8, e, k8⟩ : ∃ M8, f_X7_copyFrom h i M1 = (if isB (M8.1 23 i 8) = true then some (sR M8 23 h (upd (M8.1 23 h) 8 (M8.1 23 i 8))) else none) ∧ Cpy h i (fun c j => D c j ∨ (c = 23 ∧ 6 ≤ j ∧ j ≤ 7) ∨ (24 ≤ c ∧ c ≤ 29 ∧ j < 60)) DL M M8 := by
    refine ⟨_, rfl, (((((((((k.row hne (by decide) (by decide)).row hne (by decide) (by decide)).row hne (by decide) (by decide)).row hne (by decide) (by decide)).row hne (by decide) (by decide)).row hne (by decide) (by decide)).fld hne (by decide) (by decide)).fld hne (by decide) (by decide)).mono (fun c j hd => ?_) (fun c j hd => hd))⟩
    rcases hd with hd | hd
    · exact Or.inl (Or.inl (Or.inl (Or.inl (Or.inl (Or.inl (Or.inl (Or.inl hd)))))))
    · have q : (c = 24 ∧ j < 60) ∨ (c = 25 ∧ j < 60) ∨ (c = 26 ∧ j < 60) ∨ (c = 27 ∧ j < 60) ∨ (c = 28 ∧ j < 60) ∨ (c = 29 ∧ j < 60) ∨ (c = 23 ∧ j = 6) ∨ (c = 23 ∧ j = 7) := by omega
      rcases q with q | q | q | q | q | q | q | q
      · exact Or.inl (Or.inl (Or.inl (Or.inl (Or.inl (Or.inl (Or.inl (Or.inr q)))))))
      · exact Or.inl (Or.inl (Or.inl (Or.inl (Or.inl (Or.inl (Or.inr q))))))
      · exact Or.inl (Or.inl (Or.inl (Or.inl (Or.inl (Or.inr q)))))
      · exact Or.inl (Or.inl (Or.inl (Or.inl (Or.inr q))))
      · exact Or.inl (Or.inl (Or.inl (Or.inr q)))
      · exact Or.inl (Or.inl (Or.inr q))
      · exact Or.inl (Or.inr q)
      · exact Or.inr q
  refine ⟨_, e.trans (if_pos (by rw [(k8.2.2 23 i (fun q => hne q.1)).1]; exact hb)), (k8.fld hne (by decide) (by decide)).mono (fun c j hd => ?_) (fun c j hd => hd)⟩
  rcases hd with hd | hd
  · exact Or.inl (Or.inl hd)
  · unfold D7 at hd
    have q : ((c = 23 ∧ 6 ≤ j ∧ j ≤ 7) ∨ (24 ≤ c ∧ c ≤ 29 ∧ j < 60)) ∨ (c = 23 ∧ j = 8) := by omega
    rcases q with q | q
    · exact Or.inl (Or.inr q)
    · exact Or.inr q
theorem X9_cp {h i : Nat} (M : Mem) (hne : ¬ i = h) (hb : isB (M.1 23 i 8) = true) : ∃ M', f_X9_copyFrom h i M = some M' ∧ Cpy h i D9 DL1 M M' := by
  obtain ⟨M1, e1, k1⟩ := X1_cp M hne
  obtain ⟨M2, e2, k2⟩ := X3_cp k1 hne
  obtain ⟨M3, e3, k3⟩ := X7_cp k2 hne hb
  refine ⟨M3, ?_, k3⟩
  unfold f_X9_copyFrom
  rw [e1, Option.bind_some, e2, Option.bind_some, e3]
  rfl
theorem RepC.cp {h i : Nat} {D DL : Nat → Nat → Prop} {M M' : Mem} {K : Co} (k : Cpy h i D DL M M') (hd : ∀ c j, D1 c j → D c j) (ok : OKC K) (r : RepC M i K) : RepC M' h K := by
  have e : ∀ c j, D1 c j → M'.1 c h j = M.1 c i j := fun c j z => k.1 c j (hd c j z)
  have k0 := ok.1; have k1 := ok.2.1; have k2 := ok.2.2.1; have k3 := ok.2.2.2.1
  obtain ⟨r1, r2, r3, r4, r5, r6, r7, r8, r9⟩ := r
  refine ⟨fun j hj => ?_, ?_, ?_, fun j hj => ⟨?_, ?_, ?_⟩, fun a b ha hb => ?_, fun b hb => ?_, fun p hp => ?_, fun w hw => ⟨?_, ?_⟩, fun c w hc hw => ?_⟩
  · show M'.1 9 h j = _
    rw [e 9 j (by unfold D1 D0; omega)]; exact r1 j hj
  · show M'.1 8 h 11 = _
    rw [e 8 11 (by unfold D1 D0; omega)]; exact r2
  · show M'.1 8 h 12 = _
    rw [e 8 12 (by unfold D1 D0; omega)]; exact r3
  · show M'.1 11 h j = _
    rw [e 11 j (by unfold D1 D0; omega)]; exact (r4 j hj).1
  · show M'.1 12 h j = _
    rw [e 12 j (by unfold D1 D0; omega)]; exact (r4 j hj).2.1
  · show M'.1 13 h j = _
    rw [e 13 j (by unfold D1 D0; omega)]; exact (r4 j hj).2.2
  · show M'.1 14 h (10 * b + a) = _
    rw [e 14 _ (by unfold D1 D0; omega)]; exact r5 a b ha hb
  · obtain ⟨T, t1, t2⟩ := r6 b hb
    refine ⟨T, ?_, t2⟩
    show M'.1 15 h b = _
    rw [e 15 _ (by unfold D1 D0; omega)]; exact t1
  · show M'.1 16 h p = _
    rw [e 16 _ (by unfold D1 D0; omega)]; exact r7 p hp
  · show M'.1 17 h w = _
    rw [e 17 _ (by unfold D1 D0; omega)]; exact (r8 w hw).1
  · show M'.1 18 h w = _
    rw [e 18 _ (by unfold D1 D0; omega)]; exact (r8 w hw).2
  · show M'.1 19 h (6 * c + w) = _
    rw [e 19 _ (by unfold D1 D0; omega)]; exact r9 c w hc hw
theorem NaX.cp {h i : Nat} {D DL : Nat → Nat → Prop} {M M' : Mem} {K : Co} {N : Nat → Nat → Int64} (k : Cpy h i D DL M M') (hd : ∀ c j, DL1 c j → DL c j) (ok : OKC K) (r : NaX (M.2 10 i) K N) : NaX (M'.2 10 h) K N := by
  intro q hq j hj
  have := cnt_le ok hq
  rw [k.2.1 10 (10 * q + j) (hd _ _ (by unfold DL1 D0; omega))]
  exact r q hq j hj
theorem posW_lt {K : Co} {w : Wk} {s : Nat} (ok : OKK K w) (hs : s < w.1 1) : posW w s < 60 := by
  have h := ok.2.1
  have := cntR_le (fun b => isBl w b && decide (w.1 (100 + b) ≤ s)) s 0
  unfold posW
  omega
theorem cntR_lt {p : Nat → Bool} {b n : Nat} (hb : b < n) (hp : p b = false) : cntR p 0 n < n := by
  have e := cntR_app p b (n - b) 0
  have e2 := cntR_app p 1 (n - b - 1) (0 + b)
  rw [show b + (n - b) = n by omega] at e
  rw [show 1 + (n - b - 1) = n - b by omega] at e2
  have h1 := cntR_le p b 0
  have h2 := cntR_le p (n - b - 1) (0 + b + 1)
  have h3 : cntR p (0 + b) 1 = 0 := by
    unfold cntR
    rw [show 0 + b = b by omega, hp]
    rfl
  omega
theorem endW_lt {K : Co} {w : Wk} {s : Nat} (ok : OKK K w) (hs : s < w.1 1) : endW w s < 60 := by
  have h := ok.2.1
  have g := ok.2.2.2 s hs
  have h1 := g.2.1
  have h2 := g.2.2.1
  have := cntR_lt (p := fun d => isBl w d && (decide (w.1 (100 + d) < w.1 (100 + s)) || (decide (w.1 (100 + d) = w.1 (100 + s)) && decide (s < d)))) h1 (by simp)
  unfold endW
  omega
theorem WkXR.cp {h i : Nat} {D DL : Nat → Nat → Prop} {M M' : Mem} {K : Co} {w : Wk} (k : Cpy h i D DL M M') (hd : ∀ c j, D7 c j → D c j) (ok : OKK K w) (r : WkXR (fun c => M.1 c i) w) : WkXR (fun c => M'.1 c h) w := by
  have e : ∀ c j, D7 c j → M'.1 c h j = M.1 c i j := fun c j z => k.1 c j (hd c j z)
  obtain ⟨r1, r2, r3, r4⟩ := r
  refine ⟨?_, ?_, ?_, fun s hs => ?_⟩
  · show M'.1 23 h 8 = _
    rw [e 23 8 (by unfold D7; omega)]; exact r1
  · show M'.1 23 h 7 = _
    rw [e 23 7 (by unfold D7; omega)]; exact r2
  · show M'.1 23 h 6 = _
    rw [e 23 6 (by unfold D7; omega)]; exact r3
  · have hp := posW_lt ok hs
    have he := endW_lt ok hs
    have g := r4 s hs
    show M'.1 24 h (posW w s) = _ ∧ (_ → M'.1 29 h (posW w s) = _ ∧ M'.1 24 h (endW w s) = _ ∧ M'.1 29 h (endW w s) = _) ∧ (_ → _ → _ → _ → M'.1 25 h (posW w s) = _) ∧ (_ → M'.1 27 h (posW w s) = _) ∧ (_ → (_ → M'.1 25 h (posW w s) = _ ∧ M'.1 28 h (posW w s) = _ ∧ M'.1 27 h (posW w s) = _) ∧ (_ → M'.1 25 h (posW w s) = _ ∧ M'.1 26 h (posW w s) = _) ∧ (_ → M'.1 25 h (posW w s) = _ ∧ M'.1 26 h (posW w s) = _ ∧ M'.1 28 h (posW w s) = _ ∧ M'.1 27 h (posW w s) = _))
    rw [e 24 (posW w s) (by unfold D7; omega), e 29 (posW w s) (by unfold D7; omega), e 24 (endW w s) (by unfold D7; omega), e 29 (endW w s) (by unfold D7; omega), e 25 (posW w s) (by unfold D7; omega), e 27 (posW w s) (by unfold D7; omega), e 28 (posW w s) (by unfold D7; omega), e 26 (posW w s) (by unfold D7; omega)]
    exact g
theorem D3_20 {j : Nat} (hj : j < 6) : D3 20 (j + 2) := by
  match j, hj with
  | 0, _ => exact Or.inl (Or.inl (Or.inl (Or.inl (Or.inl (Or.inr ⟨rfl, rfl⟩)))))
  | 1, _ => exact Or.inl (Or.inl (Or.inl (Or.inl (Or.inr ⟨rfl, rfl⟩))))
  | 2, _ => exact Or.inl (Or.inl (Or.inl (Or.inr ⟨rfl, rfl⟩)))
  | 3, _ => exact Or.inl (Or.inl (Or.inr ⟨rfl, rfl⟩))
  | 4, _ => exact Or.inl (Or.inr ⟨rfl, rfl⟩)
  | 5, _ => exact Or.inr ⟨rfl, rfl⟩
theorem XW.cp {h i : Nat} {M M' : Mem} {W : Wo} (k : Cpy h i D9 DL1 M M') (ok : OKW W) (r : XW M i W) : XW M' h W := by
  obtain ⟨r1, r2, r3, r4⟩ := r
  have e : ∀ c j, D9 c j → M'.1 c h j = M.1 c i j := k.1
  refine ⟨RepC.cp k (fun c j z => Or.inl (Or.inl (Or.inl (Or.inl (Or.inl (Or.inl (Or.inl (Or.inl (Or.inl z))))))))) ok.1 r1, ⟨fun j hj => ?_, fun j hj => ?_, fun j hj => ?_⟩, NaX.cp k (fun _ _ z => z) ok.1 r3, WkXR.cp k (fun c j z => Or.inr z) ok.2.2.2.2.2.2.2 r4⟩
  · rw [e 20 (j + 2) (Or.inl (D3_20 hj))]; exact r2.1 j hj
  · rw [e 21 j (Or.inl (Or.inl (Or.inl (Or.inl (Or.inl (Or.inl (Or.inl (Or.inl (Or.inr ⟨rfl, hj⟩)))))))))]; exact r2.2.1 j hj
  · rw [e 22 j (Or.inl (Or.inl (Or.inl (Or.inl (Or.inl (Or.inl (Or.inl (Or.inr ⟨rfl, hj⟩))))))))]; exact r2.2.2 j hj
theorem wk_isB {M : Mem} {k : Nat} {W : Wo} (ok : OKW W) (r : XW M k W) : isB (M.1 23 k 8) = true := by
  have h : M.1 23 k 8 = nI (W.2.2.2.1 0) := r.2.2.2.1
  have b : W.2.2.2.1 0 ≤ 1 := ok.2.2.2.2.2.2.2.1
  rw [h]
  rcases (show W.2.2.2.1 0 = 0 ∨ W.2.2.2.1 0 = 1 by omega) with z | z
  · rw [z]; rfl
  · rw [z]; rfl
/-- another world, other marks -/
theorem RX.wm {s : Sy} {M M' : Mem} {W : Wo} {m : Nat × (Nat → Wo)} {v : Int32} (f : ∀ c i, ¬ (c = 0 ∧ i = 0) → ¬ (7 ≤ c ∧ c ≤ 29) → M'.1 c i = M.1 c i ∧ M'.2 c i = M.2 c i) (h0 : ∀ j, ¬ j = 13 → ¬ j = 14 → M'.1 0 0 j = M.1 0 0 j) (h00 : M'.2 0 0 = M.2 0 0) (h13 : M'.1 0 0 13 = nI m.1) (h14 : M'.1 0 0 14 = v)
    (hw : XW M' 0 W) (hm : ∀ k, 1 ≤ k → k ≤ m.1 → XW M' k (m.2 k)) (h : RX s M) : RX (setSc (setMk (setWo s W) m) 0 v) M' := by
  obtain ⟨⟨a1, a2, a3, a4⟩, ⟨b1, b2⟩, ⟨t1, t2⟩, tr, w, ⟨m1, m2⟩, ⟨o1, o2⟩, ⟨l1, l2⟩, rs⟩ := h
  refine ⟨⟨h14.trans (upd_at s.1 0 v).symm, by rw [h0 15 (by decide) (by decide)]; exact a2, by rw [h0 16 (by decide) (by decide)]; exact a3, by rw [(f 36 0 (by decide) (by decide)).1]; exact a4⟩, ⟨by rw [h00]; exact b1, by rw [h00]; exact b2⟩, ⟨by rw [(f 30 0 (by decide) (by decide)).1]; exact t1, fun j hj => by rw [(f 31 0 (by decide) (by decide)).1]; exact t2 j hj⟩,
    fun t ht => ⟨by rw [(f 5 0 (by decide) (by decide)).1]; exact (tr t ht).1, by rw [(f 6 0 (by decide) (by decide)).1]; exact (tr t ht).2.1, fun j hj => by rw [(f 4 t (fun z => absurd z.1 (by decide)) (by decide)).2]; exact (tr t ht).2.2 j hj⟩, hw, ⟨h13, hm⟩, ⟨by rw [(f 36 0 (by decide) (by decide)).1]; exact o1, fun k hk => by rw [(f 42 0 (by decide) (by decide)).1]; exact o2 k hk⟩, ⟨by rw [h0 12 (by decide) (by decide)]; exact l1, fun hl j hj => by rw [(f 44 0 (by decide) (by decide)).1]; exact l2 hl j hj⟩, fun i hi => by rw [(f 32 0 (by decide) (by decide)).2]; exact rs i hi⟩
-- the reference's copy
theorem cy_loop2 {a b : Nat} (ha : a < 5) (hb : b < 5) (hne : ¬ a = b) : ∀ (k i fu : Nat) (M : Mem), i + k = 26 → k < fu →
    ∃ M', f_X11_copy_41 (nI a) (nI b) fu (nI i) M = some M' ∧ M'.1 = M.1 ∧ (∀ c x, ¬ (c = 57 ∧ x = 0) → M'.2 c x = M.2 c x) ∧ (∀ j, i ≤ j → j < 26 → M'.2 57 0 (26 * b + j) = M.2 57 0 (26 * a + j)) ∧ ∀ j, ¬ (26 * b + i ≤ j ∧ j < 26 * b + 26) → M'.2 57 0 j = M.2 57 0 j
  | k, i, 0, M, _, h => by omega
  | 0, i, fu + 1, M, hi, _ => by
    refine ⟨M, ?_, rfl, fun _ _ _ => rfl, fun j h1 h2 => by omega, fun _ _ => rfl⟩
    rw [f_X11_copy_41, if_neg (by
      show ¬ nI i < nI 26
      rw [lt_nI (by omega) (by decide)]; omega)]
  | k + 1, i, fu + 1, M, hi, hk => by
    obtain ⟨M', e1, e2, e3, e4, e5⟩ := cy_loop2 ha hb hne k (i + 1) fu (sL M 57 0 (vp_updL (M.2 57 0) (26 * b + i) (M.2 57 0 (26 * a + i)))) (by omega) (by omega)
    refine ⟨M', ?_, e2, fun c x h => ?_, fun j h1 h2 => ?_, fun j h => ?_⟩
    · rw [f_X11_copy_41, if_pos (by
        show nI i < nI 26
        rw [lt_nI (by omega) (by decide)]; omega), show (26 : Int32) * nI a + nI i = nI (26 * a + i) from by rw [show (26 : Int32) = nI 26 from rfl, mul_nI, add_nI], show (26 : Int32) * nI b + nI i = nI (26 * b + i) from by rw [show (26 : Int32) = nI 26 from rfl, mul_nI, add_nI], inb_nI_t (by omega) (by decide), if_pos rfl, inb_nI_t (by omega) (by decide), if_pos rfl, nI_clamp (by omega), nI_clamp (by omega), show nI i + (1 : Int32) = nI (i + 1) from add_nI i 1]
      exact e1
    · rw [e3 c x h, sL_ne _ _ _ _ h]
    · by_cases d : j = i
      · subst d
        rw [e5 _ (by omega), sL_at, updL_at]
      · rw [e4 j (by omega) h2, sL_at, updL_ne _ _ (by omega)]
    · rw [e5 j (by omega), sL_at, updL_ne _ _ (by omega)]
theorem cy_loop1 {a b : Nat} (ha : a < 5) (hb : b < 5) (hne : ¬ a = b) : ∀ (k i fu : Nat) (M : Mem), i + k = 475 → k < fu →
    ∃ M1, f_X11_copy_2 (nI a) (nI b) fu (nI i) M = f_X11_copy_41 (nI a) (nI b) FU (nI 0) M1 ∧ M1.2 = M.2 ∧ (∀ c x, ¬ (c = 55 ∧ x = 0) → M1.1 c x = M.1 c x) ∧ (∀ j, i ≤ j → j < 475 → M1.1 55 0 (475 * b + j) = M.1 55 0 (475 * a + j)) ∧ ∀ j, ¬ (475 * b + i ≤ j ∧ j < 475 * b + 475) → M1.1 55 0 j = M.1 55 0 j
  | k, i, 0, M, _, h => by omega
  | 0, i, fu + 1, M, hi, _ => by
    refine ⟨M, ?_, rfl, fun _ _ _ => rfl, fun j h1 h2 => by omega, fun _ _ => rfl⟩
    rw [f_X11_copy_2, if_neg (by
      show ¬ nI i < nI 475
      rw [lt_nI (by omega) (by decide)]; omega)]
    rfl
  | k + 1, i, fu + 1, M, hi, hk => by
    obtain ⟨M', e1, e2, e3, e4, e5⟩ := cy_loop1 ha hb hne k (i + 1) fu (sR M 55 0 (upd (M.1 55 0) (475 * b + i) (M.1 55 0 (475 * a + i)))) (by omega) (by omega)
    refine ⟨M', ?_, e2, fun c x h => ?_, fun j h1 h2 => ?_, fun j h => ?_⟩
    · rw [f_X11_copy_2, if_pos (by
        show nI i < nI 475
        rw [lt_nI (by omega) (by decide)]; omega), show (475 : Int32) * nI a + nI i = nI (475 * a + i) from by rw [show (475 : Int32) = nI 475 from rfl, mul_nI, add_nI], show (475 : Int32) * nI b + nI i = nI (475 * b + i) from by rw [show (475 : Int32) = nI 475 from rfl, mul_nI, add_nI], inb_nI_t (by omega) (by decide), if_pos rfl, inb_nI_t (by omega) (by decide), if_pos rfl, nI_clamp (by omega), nI_clamp (by omega), show nI i + (1 : Int32) = nI (i + 1) from add_nI i 1]
      exact e1
    · rw [e3 c x h, sR_ne _ _ _ _ h]
    · by_cases d : j = i
      · subst d
        rw [e5 _ (by omega), sR_at, upd_at]
      · rw [e4 j (by omega) h2, sR_at, upd_ne _ _ (by omega)]
    · rw [e5 j (by omega), sR_at, upd_ne _ _ (by omega)]
/-- block b becomes what block a is -/
def CyM (a b : Nat) (M M' : Mem) : Prop := (∀ c x, ¬ (c = 55 ∧ x = 0) → M'.1 c x = M.1 c x) ∧ (∀ c x, ¬ (c = 57 ∧ x = 0) → M'.2 c x = M.2 c x) ∧ (∀ j, j < 475 → M'.1 55 0 (475 * b + j) = M.1 55 0 (475 * a + j)) ∧ (∀ j, ¬ (475 * b ≤ j ∧ j < 475 * b + 475) → M'.1 55 0 j = M.1 55 0 j) ∧ (∀ j, j < 26 → M'.2 57 0 (26 * b + j) = M.2 57 0 (26 * a + j)) ∧ ∀ j, ¬ (26 * b ≤ j ∧ j < 26 * b + 26) → M'.2 57 0 j = M.2 57 0 j
theorem X11_copy_sp {a b : Nat} (M : Mem) (ha : a < 5) (hb : b < 5) (hne : ¬ a = b) : ∃ M', f_X11_copy (nI a) (nI b) M = some M' ∧ CyM a b M M' := by
  obtain ⟨M1, a1, a2, a3, a4, a5⟩ := cy_loop1 ha hb hne 475 0 FU M (by omega) (lt_FU (by omega))
  obtain ⟨M2, b1, b2, b3, b4, b5⟩ := cy_loop2 ha hb hne 26 0 FU M1 (by omega) (lt_FU (by omega))
  refine ⟨M2, ?_, fun c x h => by rw [b2, a3 c x h], fun c x h => by rw [b3 c x h, a2], fun j h => by rw [b2, a4 j (by omega) h], fun j h => by rw [b2, a5 j (by omega)], fun j h => by rw [b4 j (by omega) h, a2], fun j h => by rw [b5 j (by omega), a2]⟩
  unfold f_X11_copy
  exact a1.trans b1
theorem RM.wm {s : Sy} {M M' : Mem} {W : Wo} {m : Nat × (Nat → Wo)} {v : Int32} (f1 : ∀ c i, ¬ ((c = 50 ∨ c = 55) ∧ i = 0) → M'.1 c i = M.1 c i) (f2 : ∀ c i, ¬ (c = 57 ∧ i = 0) → M'.2 c i = M.2 c i) (h0 : ∀ j, (j = 8 ∨ j = 10 ∨ j = 11 ∨ j = 30 ∨ j = 31 ∨ j = 37) → M'.1 50 0 j = M.1 50 0 j) (h23 : M'.1 50 0 23 = nI m.1) (hst : M'.1 50 0 0 = v)
    (hw : MW (M'.1 55 0) (M'.2 57 0) W) (hm : ∀ k, 1 ≤ k → k ≤ m.1 → MW (fun j => M'.1 55 0 (475 * k + j)) (fun j => M'.2 57 0 (26 * k + j)) (m.2 k)) (h : RM s M) : RM (setSc (setMk (setWo s W) m) 0 v) M' := by
  obtain ⟨⟨a1, a2, a3, a4⟩, ⟨b1, b2⟩, ⟨t1, t2⟩, tr, w, ⟨m1, m2⟩, ⟨o1, o2⟩, ⟨l1, l2⟩⟩ := h
  have e : ∀ c, ¬ (c = 50 ∨ c = 55) → M'.1 c 0 = M.1 c 0 := fun c hc => f1 c 0 (fun z => hc z.1)
  refine ⟨⟨hst.trans (upd_at s.1 0 v).symm, by rw [h0 10 (by omega)]; exact a2, by rw [h0 11 (by omega)]; exact a3, by rw [h0 31 (by omega)]; exact a4⟩, ⟨by rw [f2 50 0 (by decide)]; exact b1, by rw [f2 50 0 (by decide)]; exact b2⟩, ⟨by rw [h0 8 (by omega)]; exact t1, fun j hj => by rw [e 54 (by decide)]; exact t2 j hj⟩,
    fun t ht => ⟨by rw [e 52 (by decide)]; exact (tr t ht).1, by rw [e 51 (by decide)]; exact (tr t ht).2.1, fun j hj => by rw [f2 53 0 (by decide)]; exact (tr t ht).2.2 j hj⟩, hw, ⟨h23, hm⟩, ⟨by rw [h0 30 (by omega)]; exact o1, fun k hk => by rw [e 60 (by decide)]; exact o2 k hk⟩, ⟨by rw [h0 37 (by omega)]; exact l1, fun hl j hj => by rw [e 63 (by decide)]; exact l2 hl j hj⟩⟩
theorem RX.M {s : Sy} {M : Mem} (h : RX s M) : M.1 0 0 13 = nI (sMk s).1 ∧ ∀ k, 1 ≤ k → k ≤ (sMk s).1 → XW M k ((sMk s).2 k) := h.2.2.2.2.2.1
theorem RM.M {s : Sy} {M : Mem} (h : RM s M) : M.1 50 0 23 = nI (sMk s).1 ∧ ∀ k, 1 ≤ k → k ≤ (sMk s).1 → MW (fun j => M.1 55 0 (475 * k + j)) (fun j => M.2 57 0 (26 * k + j)) ((sMk s).2 k) := h.2.2.2.2.2.1
theorem OKS.M {s : Sy} (o : OKS s) : (sMk s).1 ≤ 3 ∧ ∀ k, 1 ≤ k → k ≤ (sMk s).1 → OKW ((sMk s).2 k) := o.2.2.2.1
def markS (s : Sy) : Nat × (Nat → Wo) := ((sMk s).1 + 1, fun a => if a = (sMk s).1 + 1 then sWo s else (sMk s).2 a)
theorem step_mark {s : Sy} (o : OKS s) : Step s f_X10_mark f_X11_mark := by
  have h3 := o.M.1
  by_cases c : (sMk s).1 < 3
  · refine step_of (nI ((sMk s).1 + 1)) (setSc (setMk (setWo s (sWo s)) (markS s)) 0 0) ?_ (fun M h => ?_) (fun M h => ?_)
    · refine ⟨o.1, o.2.1, o.2.2.1, ⟨?_, fun k h1 h2 => ?_⟩, o.2.2.2.2⟩
      · show (sMk s).1 + 1 ≤ 3
        omega
      · have h2 : k ≤ (sMk s).1 + 1 := h2
        show OKW (if k = (sMk s).1 + 1 then sWo s else (sMk s).2 k)
        by_cases d : k = (sMk s).1 + 1
        · rw [if_pos d]; exact o.2.2.1
        · rw [if_neg d]; exact o.M.2 k h1 (by omega)
    · have w0 : XW M 0 (sWo s) := h.2.2.2.2.1
      obtain ⟨M2, e2, k2⟩ := X9_cp (h := (sMk s).1 + 1) (i := 0) M (by omega) (wk_isB o.2.2.1 w0)
      have f : ∀ c i, ¬ (c = 0 ∧ i = 0) → (stM (sR M2 0 0 (upd (M2.1 0 0) 13 (nI ((sMk s).1 + 1)))) 0).1 c i = M2.1 c i ∧ (stM (sR M2 0 0 (upd (M2.1 0 0) 13 (nI ((sMk s).1 + 1)))) 0).2 c i = M2.2 c i := by
        intro c i z
        refine ⟨?_, rfl⟩
        unfold stM
        rw [sR_ne _ _ _ _ z, sR_ne _ _ _ _ z]
      have g0 : M2.1 0 0 = M.1 0 0 ∧ M2.2 0 0 = M.2 0 0 := k2.2.2 0 0 (by omega)
      have e13 : M2.1 0 0 13 + (1 : Int32) = nI ((sMk s).1 + 1) := by rw [g0.1, h.M.1]; exact add_nI _ 1
      refine ⟨stM (sR M2 0 0 (upd (M2.1 0 0) 13 (nI ((sMk s).1 + 1)))) 0, ?_, ?_, ?_⟩
      · unfold f_X10_mark
        rw [h.M.1, if_pos (by show nI _ < nI 3; rw [lt_nI (by omega) (by decide)]; exact c), inb_nI_t c (by decide), if_pos rfl, nI_clamp (by omega), e2, Option.bind_some]
        simp only
        rw [e13, X10_answer_e, sR_at, upd_at]
        rfl
      · refine h.wm (fun c i a b => ?_) (fun j a b => ?_) ?_ ?_ (stM_at _ _) ?_ (fun k h1 h2 => ?_)
        · rw [(f c i a).1, (f c i a).2]
          exact k2.2.2 c i (by omega)
        · unfold stM
          rw [sR_at, upd_ne _ _ b, sR_at, upd_ne _ _ a, g0.1]
        · exact g0.2
        · unfold stM
          rw [sR_at, upd_ne _ _ (by decide), sR_at, upd_at]
          rfl
        · refine XW.eq (fun c a b => ?_) w0
          rw [(f c 0 (by omega)).1, (f c 0 (by omega)).2]
          exact k2.2.2 c 0 (by omega)
        · have h2 : k ≤ (sMk s).1 + 1 := h2
          show XW _ k (if k = (sMk s).1 + 1 then sWo s else (sMk s).2 k)
          refine XW.eq (M := M2) (fun c a b => f c k (by omega)) ?_
          by_cases d : k = (sMk s).1 + 1
          · rw [if_pos d, d]; exact XW.cp k2 o.2.2.1 w0
          · rw [if_neg d]
            exact XW.eq (fun c a b => k2.2.2 c k (by omega)) (h.M.2 k h1 (by omega))
      · intro c i z
        rw [(f c i (by omega)).1, (f c i (by omega)).2]
        exact k2.2.2 c i (by omega)
    · have r := h.r o
      obtain ⟨M4, e4, k4⟩ := X11_copy_sp (a := 0) (b := (sMk s).1 + 1) (sR (mR M) 50 0 (upd ((mR M).1 50 0) 23 (nI ((sMk s).1 + 1)))) (by omega) (by omega) (by omega)
      obtain ⟨y1, y2, y3, y4, y5, y6⟩ := k4
      have e23 : (mR M).1 50 0 23 = nI (sMk s).1 := r.M.1
      have z50 : M4.1 50 0 = upd ((mR M).1 50 0) 23 (nI ((sMk s).1 + 1)) := by rw [y1 50 0 (by decide), sR_at]
      have z55 : (sR (mR M) 50 0 (upd ((mR M).1 50 0) 23 (nI ((sMk s).1 + 1)))).1 55 0 = (mR M).1 55 0 := sR_ne _ _ _ _ (by decide)
      refine ⟨M4, ?_, ?_, ?_⟩
      · unfold f_X11_mark
        simp only [mR_e]
        show (if (mR M).1 50 0 23 = (3 : Int32) then _ else (f_X11_copy (0 : Int32) ((sR (mR M) 50 0 (upd ((mR M).1 50 0) 23 ((mR M).1 50 0 23 + (1 : Int32)))).1 50 0 23) (sR (mR M) 50 0 (upd ((mR M).1 50 0) 23 ((mR M).1 50 0 23 + (1 : Int32))))).bind fun M4 => some ((M4.1 50 0 23), M4)) = _
        rw [e23, if_neg (by show ¬ nI _ = nI 3; rw [eq_nI (by omega) (by decide)]; omega), show nI (sMk s).1 + (1 : Int32) = nI ((sMk s).1 + 1) from add_nI _ 1, show (sR (mR M) 50 0 (upd ((mR M).1 50 0) 23 (nI ((sMk s).1 + 1)))).1 50 0 23 = nI ((sMk s).1 + 1) from by rw [sR_at, upd_at], show f_X11_copy (0 : Int32) (nI ((sMk s).1 + 1)) (sR (mR M) 50 0 (upd ((mR M).1 50 0) 23 (nI ((sMk s).1 + 1)))) = some M4 from e4, Option.bind_some, z50, upd_at]
      · refine RM.wm (s := setSc s 0 0) (M := mR M) (fun c i z => ?_) (fun c i z => ?_) (fun j z => ?_) ?_ ?_ ?_ (fun k h1 h2 => ?_) r
        · rw [y1 c i (by omega), sR_ne _ _ _ _ (by omega)]
        · rw [y2 c i z]; rfl
        · rw [z50, upd_ne _ _ (by omega)]
        · rw [z50, upd_at]; rfl
        · rw [z50, upd_ne _ _ (by decide)]; exact mR_0 M
        · refine MW.eq o.2.2.1 (fun j hj => ?_) (fun j hj => ?_) r.2.2.2.2.1
          · rw [y4 j (by omega), z55]
          · rw [y6 j (by omega)]; rfl
        · have h2 : k ≤ (sMk s).1 + 1 := h2
          show MW _ _ (if k = (sMk s).1 + 1 then sWo s else (sMk s).2 k)
          by_cases d : k = (sMk s).1 + 1
          · rw [if_pos d, d]
            refine MW.eq o.2.2.1 (fun j hj => ?_) (fun j hj => ?_) r.2.2.2.2.1
            · rw [y3 j hj, z55, Nat.mul_zero, Nat.zero_add]
            · rw [y5 j hj, Nat.mul_zero, Nat.zero_add]; rfl
          · rw [if_neg d]
            refine MW.eq (o.M.2 k h1 (by omega)) (fun j hj => ?_) (fun j hj => ?_) (r.M.2 k h1 (by show k ≤ (sMk s).1; omega))
            · show M4.1 55 0 (475 * k + j) = _
              rw [y4 _ (by omega), z55]
            · show M4.2 57 0 (26 * k + j) = _
              rw [y6 _ (by omega)]; rfl
      · refine (mR_Q M).on.tr (fun c i z => ?_)
        rw [y1 c i (by omega), y2 c i (by omega), sR_ne _ _ _ _ (by omega)]
        exact ⟨rfl, rfl⟩
  · have e3 : (sMk s).1 = 3 := by omega
    refine step_no o 7 (fun M h => ?_) (fun M h => ?_)
    · unfold f_X10_mark
      rw [h.M.1, e3, if_neg (by decide)]
      rfl
    · unfold f_X11_mark
      simp only [mR_e]
      refine (if_pos ?_).trans rfl
      rw [show (mR M).1 50 0 23 = nI (sMk s).1 from (h.r o).M.1, e3]
      decide
theorem step_back {s : Sy} (o : OKS s) : Step s f_X10_back f_X11_back := by
  have h3 := o.M.1
  by_cases c : (sMk s).1 = 0
  · refine step_no o 8 (fun M h => ?_) (fun M h => ?_)
    · unfold f_X10_back
      rw [h.M.1, c, if_neg (by decide)]
      rfl
    · unfold f_X11_back
      simp only [mR_e]
      refine (if_pos ?_).trans rfl
      rw [show (mR M).1 50 0 23 = nI (sMk s).1 from (h.r o).M.1, c]
      decide
  · obtain ⟨n, hn⟩ : ∃ n, (sMk s).1 = n + 1 := ⟨(sMk s).1 - 1, by omega⟩
    have ow : OKW ((sMk s).2 (n + 1)) := o.M.2 (n + 1) (by omega) (by omega)
    refine step_of (nI n) (setSc (setMk (setWo s ((sMk s).2 (n + 1))) (n, (sMk s).2)) 0 0) ?_ (fun M h => ?_) (fun M h => ?_)
    · exact ⟨o.1, o.2.1, ow, ⟨by show n ≤ 3; omega, fun k h1 h2 => o.M.2 k h1 (by have h2 : k ≤ n := h2; omega)⟩, o.2.2.2.2⟩
    · have hw : XW M (n + 1) ((sMk s).2 (n + 1)) := h.M.2 (n + 1) (by omega) (by omega)
      have e13 : M.1 0 0 13 = nI (n + 1) := by rw [h.M.1, hn]
      have f0 : ∀ c i, ¬ (c = 0 ∧ i = 0) → (sR M 0 0 (upd (M.1 0 0) 13 (nI n))).1 c i = M.1 c i := fun c i z => sR_ne _ _ _ _ z
      obtain ⟨M2, e2, k2⟩ := X9_cp (h := 0) (i := n + 1) (sR M 0 0 (upd (M.1 0 0) 13 (nI n))) (by omega) (by rw [f0 23 _ (by omega)]; exact wk_isB ow hw)
      have g0 : M2.1 0 0 = upd (M.1 0 0) 13 (nI n) ∧ M2.2 0 0 = M.2 0 0 := by
        have := k2.2.2 0 0 (by omega)
        rw [sR_at] at this
        exact this
      have f : ∀ c i, ¬ (c = 0 ∧ i = 0) → (stM M2 0).1 c i = M2.1 c i ∧ (stM M2 0).2 c i = M2.2 c i := by
        intro c i z
        refine ⟨?_, rfl⟩
        unfold stM
        rw [sR_ne _ _ _ _ z]
      have fr : ∀ c i, ¬ (i = 0 ∧ 8 ≤ c ∧ c ≤ 29) → ¬ (c = 0 ∧ i = 0) → M2.1 c i = M.1 c i ∧ M2.2 c i = M.2 c i := by
        intro c i a b
        have := k2.2.2 c i a
        rw [f0 c i b] at this
        exact this
      have e13' : M2.1 0 0 13 = nI n := by rw [g0.1, upd_at]
      refine ⟨stM M2 0, ?_, ?_, ?_⟩
      · unfold f_X10_back
        rw [e13, if_pos (by rw [nI_pz (by omega)]; omega)]
        simp only
        rw [show nI (n + 1) - (1 : Int32) = nI n from sub_nI (a := n + 1) (b := 1) (by omega), sR_at, upd_at, inb_nI_t (show n < 3 by omega) (by decide), if_pos rfl, nI_clamp (by omega), e2, Option.bind_some, e13', X10_answer_e]
        rfl
      · refine h.wm (fun c i a b => ?_) (fun j a b => ?_) ?_ ?_ (stM_at _ _) ?_ (fun k h1 h2 => ?_)
        · rw [(f c i a).1, (f c i a).2]
          exact fr c i (by omega) a
        · unfold stM
          rw [sR_at, upd_ne _ _ b, g0.1, upd_ne _ _ a]
        · exact g0.2
        · unfold stM
          rw [sR_at, upd_ne _ _ (by decide), e13']
        · refine XW.eq (M := M2) (fun c a b => f c 0 (by omega)) ?_
          refine XW.cp k2 ow (XW.eq (M := M) (fun c a b => ⟨f0 c _ (by omega), rfl⟩) hw)
        · have h2 : k ≤ n := h2
          refine XW.eq (M := M) (fun c a b => ?_) (h.M.2 k h1 (by omega))
          rw [(f c k (by omega)).1, (f c k (by omega)).2]
          exact fr c k (by omega) (by omega)
      · intro c i z
        rw [(f c i (by omega)).1, (f c i (by omega)).2]
        exact fr c i (by omega) (by omega)
    · have r := h.r o
      have e23 : (mR M).1 50 0 23 = nI (n + 1) := by rw [← hn]; exact r.M.1
      obtain ⟨M3, e3, k3⟩ := X11_copy_sp (a := n + 1) (b := 0) (mR M) (by omega) (by omega) (by omega)
      obtain ⟨y1, y2, y3, y4, y5, y6⟩ := k3
      have z23 : M3.1 50 0 23 - (1 : Int32) = nI n := by rw [y1 50 0 (by decide), e23]; exact sub_nI (a := n + 1) (b := 1) (by omega)
      have hw : MW (fun j => (mR M).1 55 0 (475 * (n + 1) + j)) (fun j => (mR M).2 57 0 (26 * (n + 1) + j)) ((sMk s).2 (n + 1)) := r.M.2 (n + 1) (by omega) (by show n + 1 ≤ (sMk s).1; omega)
      refine ⟨sR M3 50 0 (upd (M3.1 50 0) 23 (nI n)), ?_, ?_, ?_⟩
      · unfold f_X11_back
        simp only [mR_e]
        show (if (mR M).1 50 0 23 = 0 then _ else (f_X11_copy ((mR M).1 50 0 23) (0 : Int32) (mR M)).bind fun M3 => some ((sR M3 50 0 (upd (M3.1 50 0) 23 ((M3.1 50 0 23) - (1 : Int32)))).1 50 0 23, sR M3 50 0 (upd (M3.1 50 0) 23 ((M3.1 50 0 23) - (1 : Int32))))) = _
        rw [e23, if_neg (by rw [nI_z (by omega)]; omega), show f_X11_copy (nI (n + 1)) (0 : Int32) (mR M) = some M3 from e3, Option.bind_some, z23, sR_at, upd_at]
      · refine RM.wm (s := setSc s 0 0) (M := mR M) (fun c i z => ?_) (fun c i z => ?_) (fun j z => ?_) ?_ ?_ ?_ (fun k h1 h2 => ?_) r
        · rw [sR_ne _ _ _ _ (by omega), y1 c i (by omega)]
        · exact y2 c i z
        · rw [sR_at, upd_ne _ _ (by omega), y1 50 0 (by decide)]
        · rw [sR_at, upd_at]
        · rw [sR_at, upd_ne _ _ (by decide), y1 50 0 (by decide)]; exact mR_0 M
        · refine MW.eq ow (fun j hj => ?_) (fun j hj => ?_) hw
          · have := y3 j hj
            rw [Nat.mul_zero, Nat.zero_add] at this
            rw [sR_ne _ _ _ _ (by decide), this]
          · have := y5 j hj
            rw [Nat.mul_zero, Nat.zero_add] at this
            exact this
        · have h2 : k ≤ n := h2
          refine MW.eq (o.M.2 k h1 (by omega)) (fun j hj => ?_) (fun j hj => ?_) (r.M.2 k h1 (by show k ≤ (sMk s).1; omega))
          · show (sR M3 50 0 (upd (M3.1 50 0) 23 (nI n))).1 55 0 (475 * k + j) = _
            rw [sR_ne _ _ _ _ (by decide), y4 _ (by omega)]
          · show M3.2 57 0 (26 * k + j) = _
            rw [y6 _ (by omega)]
      · refine (mR_Q M).on.tr (fun c i z => ?_)
        rw [sR_ne _ _ _ _ (by omega), y1 c i (by omega)]
        exact ⟨rfl, y2 c i (by omega)⟩
