/-! ===== the class reads weeks, whole ===== -/
theorem addRow_x {M : Mem} {L : Nat} {v : Int32} (h : M.1 23 4 6 = nI L) (hL : L < 60) : ∃ M', f_X7_addRow 4 v M = some (nI L, M') ∧ (∀ c i, ¬ (i = 4 ∧ 23 ≤ c ∧ c ≤ 29) → M'.1 c i = M.1 c i) ∧ M'.2 = M.2 ∧ M'.1 24 4 L = v ∧ M'.1 23 4 6 = nI (L + 1) ∧ (∀ j, ¬ j = 6 → M'.1 23 4 j = M.1 23 4 j) ∧ ∀ c, 24 ≤ c → c ≤ 29 → ∀ j, ¬ j = L → M'.1 c 4 j = M.1 c 4 j := by
  unfold f_X7_addRow
  rw [h, inb_nI_t hL (by decide), if_pos rfl, if_pos rfl, if_pos rfl, if_pos rfl, if_pos rfl, if_pos rfl, nI_clamp (by omega)]
  refine ⟨_, rfl, fun c i z => ?_, rfl, ?_, ?_, fun j z => ?_, fun c h1 h2 j z => ?_⟩
  · rw [sR_ne _ _ _ _ (by omega), sR_ne _ _ _ _ (by omega), sR_ne _ _ _ _ (by omega), sR_ne _ _ _ _ (by omega), sR_ne _ _ _ _ (by omega), sR_ne _ _ _ _ (by omega), sR_ne _ _ _ _ (by omega)]
  · rw [sR_ne _ _ _ _ (by omega), sR_ne _ _ _ _ (by omega), sR_ne _ _ _ _ (by omega), sR_ne _ _ _ _ (by omega), sR_ne _ _ _ _ (by omega), sR_ne _ _ _ _ (by omega), sR_at, upd_at]
  · rw [sR_at, upd_at, sR_ne _ _ _ _ (by omega), sR_ne _ _ _ _ (by omega), sR_ne _ _ _ _ (by omega), sR_ne _ _ _ _ (by omega), sR_ne _ _ _ _ (by omega), sR_ne _ _ _ _ (by omega), h]
    exact add_nI L 1
  · rw [sR_at, upd_ne _ _ z, sR_ne _ _ _ _ (by omega), sR_ne _ _ _ _ (by omega), sR_ne _ _ _ _ (by omega), sR_ne _ _ _ _ (by omega), sR_ne _ _ _ _ (by omega), sR_ne _ _ _ _ (by omega)]
  · have one : ∀ (M : Mem) (a : Nat) (x : Int32), (sR M a 4 (upd (M.1 a 4) L x)).1 c 4 j = M.1 c 4 j := by
      intro M a x
      by_cases e : c = a
      · subst e; rw [sR_at, upd_ne _ _ z]
      · rw [sR_ne _ _ _ _ (by omega)]
    rw [sR_ne _ _ _ _ (by omega), one, one, one, one, one, one]
theorem failw {P : Nat → Int32} {n : Nat} {M : Mem} {t : Tk} {why : Int32} (h : GX P n M t) (h1 : ¬ t.2.2.1 = 4) (hw : ¬ why = 0) : ∃ M', ((f_X5_fail why M).bind fun q => if isB q.1 = true then some (q.1, q.2) else none) = some (0, M') ∧ XFr M M' ∧ BX M' (why, t.1) := by
  obtain ⟨M', a, b, c⟩ := fail_b (why := why) h.2.2.2 h.2.1 h.2.2.1.2.2.1 hw
  refine ⟨M', a, b, ?_⟩
  unfold badK at c
  rw [if_neg h1] at c
  exact c
theorem beg53 {M : Mem} {k : Nat} (hk : k < 10) {t : Tk} (hw : f_X5_word M = some (wdS t)) (e : wdS t = nI (codeW k)) : f_X8_begins 4 M = f_X8_begins_53 4 (nI (codeW k)) (if k = 7 ∨ k = 8 then 1 else 0) M := by
  unfold f_X8_begins
  rw [hw, Option.bind_some, e]
  unfold f_X8_begins_17 f_X8_begins_22
  match k, hk with
  | 0, _ => rfl
  | 1, _ => rfl
  | 2, _ => rfl
  | 3, _ => rfl
  | 4, _ => rfl
  | 5, _ => rfl
  | 6, _ => rfl
  | 7, _ => rfl
  | 8, _ => rfl
  | 9, _ => rfl
theorem beg_no {M : Mem} {t : Tk} (hw : f_X5_word M = some (wdS t)) (e : stpN (wdS t) = 10) : f_X8_begins 4 M = ((f_X5_fail (2 : Int32) M).bind fun q => if isB q.1 = true then some (q.1, q.2) else none) := by
  unfold f_X8_begins
  rw [hw, Option.bind_some]
  unfold f_X8_begins_22
  rcases stp_o e with e1 | ⟨j, hj, e1, e2⟩
  · rw [e1]; rfl
  · have n25 : ¬ wdS t = (25 : Int32) := by rw [e1, show (25 : Int32) = nI 25 from rfl, eq_nI (by omega) (by decide)]; omega
    have n27 : ¬ wdS t = (27 : Int32) := by rw [e1, show (27 : Int32) = nI 27 from rfl, eq_nI (by omega) (by decide)]; omega
    have n29 : ¬ wdS t = (29 : Int32) := by rw [e1, show (29 : Int32) = nI 29 from rfl, eq_nI (by omega) (by decide)]; omega
    rw [if_neg n25, if_neg n27, if_pos rfl, if_neg n29]
    by_cases c : j < 18
    · rw [if_pos (by rw [e1, show (18 : Int32) = nI 18 from rfl, lt_nI (by omega) (by decide)]; exact c)]
    · rw [if_neg (by rw [e1, show (18 : Int32) = nI 18 from rfl, lt_nI (by omega) (by decide)]; exact c), if_pos (by rw [e1, show (24 : Int32) = nI 24 from rfl, lt_nI (by decide) (by omega)]; omega)]
theorem begins_b {P : Nat → Int32} {n : Nat} {M : Mem} {t : Tk} {Z : Zw} {f : Ft} (h : GX P n M t) (hz : ZX M Z) (hS : Z.1.1 1 ≤ 30) (hd : Z.2.1 ≤ 3) (e : (if stpN (wdS t) = 10 then some (badK t 2) else if Z.1.1 1 = 30 then some (6, t.1) else if (stpN (wdS t) = 7 ∨ stpN (wdS t) = 8) ∧ Z.2.1 = 3 then some (7, t.1) else none) = some f) : ∃ M', f_X8_begins 4 M = some (0, M') ∧ XFr M M' ∧ BX M' f := by
  have hw : f_X5_word M = some (wdS t) := word_sp h.2.1 h.2.2.1.2.2.1
  by_cases c : stpN (wdS t) = 10
  · rw [if_pos c] at e
    cases e
    rw [beg_no hw c]
    exact fail_b h.2.2.2 h.2.1 h.2.2.1.2.2.1 (by decide)
  · rw [if_neg c] at e
    have hk : stpN (wdS t) < 10 := by have := stp_le (t := t); omega
    have ec := stp_c c
    have h1 : ¬ t.2.2.1 = 4 := by rw [wd_kind (code_le _ hk).1 ec]; decide
    rw [beg53 hk hw ec]
    unfold f_X8_begins_53
    rw [hz.2.1]
    by_cases c2 : Z.1.1 1 = 30
    · rw [if_pos c2] at e
      cases e
      rw [if_neg (by show ¬ nI (Z.1.1 1) < nI 30; rw [lt_nI (by omega) (by decide)]; omega)]
      exact failw h h1 (by decide)
    · rw [if_neg c2] at e
      rw [if_pos (by show nI (Z.1.1 1) < nI 30; rw [lt_nI (by omega) (by decide)]; omega)]
      by_cases c3 : (stpN (wdS t) = 7 ∨ stpN (wdS t) = 8) ∧ Z.2.1 = 3
      · rw [if_pos c3] at e
        cases e
        rw [if_pos c3.1, if_neg (by decide), hz.2.2.2.1, if_neg (by show ¬ nI Z.2.1 < nI 3; rw [lt_nI (by omega) (by decide)]; omega)]
        exact failw h h1 (by decide)
      · rw [if_neg c3] at e; cases e
set_option maxHeartbeats 600000 in
theorem begins_g {P : Nat → Int32} {n L : Nat} {M : Mem} {t : Tk} {Z : Zw} (B : BY P n) (h : GX P n M t) (hz : ZX M Z) (hL : posW Z.1 (Z.1.1 1) = L) (hL6 : L < 60) (h10 : ¬ stpN (wdS t) = 10) (hS : Z.1.1 1 < 30) (hd : Z.2.1 ≤ 3) (hb : ¬ ((stpN (wdS t) = 7 ∨ stpN (wdS t) = 8) ∧ Z.2.1 = 3)) :
    ∃ M', f_X8_begins 4 M = some (1, M') ∧ WkF M M' ∧ GX P n M' (nx P n t) ∧ M'.1 23 4 8 = 1 ∧ M'.1 23 4 7 = nI (Z.1.1 1 + 1) ∧ M'.1 23 4 6 = nI (L + 1) ∧ M'.1 34 0 1 = nI (if stpN (wdS t) = 7 ∨ stpN (wdS t) = 8 then Z.2.1 + 1 else Z.2.1) ∧ (∀ j, j < Z.2.1 → M'.1 35 0 j = M.1 35 0 j) ∧ (stpN (wdS t) = 7 ∨ stpN (wdS t) = 8 → M'.1 35 0 Z.2.1 = nI L) ∧ M'.1 24 4 L = nI (codeW (stpN (wdS t))) ∧ ∀ c, 24 ≤ c → c ≤ 29 → ∀ j, ¬ j = L → M'.1 c 4 j = M.1 c 4 j := by
  have hw : f_X5_word M = some (wdS t) := word_sp h.2.1 h.2.2.1.2.2.1
  have hk : stpN (wdS t) < 10 := by have := stp_le (t := t); omega
  have ec := stp_c h10
  rw [beg53 hk hw ec]
  generalize stpN (wdS t) = k at hk ec hb h10 ⊢
  obtain ⟨z8, z7, z6, z34, z35, -⟩ := hz
  rw [hL] at z6
  obtain ⟨M2, e2, f2, l2, v2, v6, v23, vr⟩ := addRow_x (v := nI (codeW k)) z6 hL6
  have e89 : f_X8_begins_53 4 (nI (codeW k)) (if k = 7 ∨ k = 8 then 1 else 0) M = f_X8_begins_89 4 (nI (codeW k)) (if k = 7 ∨ k = 8 then 1 else 0) M := by
    unfold f_X8_begins_53
    rw [z7, if_pos (by show nI (Z.1.1 1) < nI 30; rw [lt_nI (by omega) (by decide)]; omega)]
    by_cases c : k = 7 ∨ k = 8
    · rw [if_pos c, if_neg (by decide), z34, if_pos (by show nI Z.2.1 < nI 3; rw [lt_nI (by omega) (by decide)]; have := fun z => hb ⟨c, z⟩; omega)]
    · rw [if_neg c, if_pos rfl]
  rw [e89]
  unfold f_X8_begins_89
  rw [e2, Option.bind_some]
  simp only
  have e7 : M2.1 23 4 7 + (1 : Int32) = nI (Z.1.1 1 + 1) := by rw [v23 7 (by decide), z7]; exact add_nI _ 1
  rw [e7]
  have f3 : ∀ c i, ¬ (i = 4 ∧ 23 ≤ c ∧ c ≤ 29) → (sR M2 23 4 (upd (M2.1 23 4) 7 (nI (Z.1.1 1 + 1)))).1 c i = M.1 c i := fun c i z => by rw [sR_ne _ _ _ _ (by omega), f2 c i z]
  have l3 : (sR M2 23 4 (upd (M2.1 23 4) 7 (nI (Z.1.1 1 + 1)))).2 = M.2 := l2
  have r3 : ∀ c, 24 ≤ c → (sR M2 23 4 (upd (M2.1 23 4) 7 (nI (Z.1.1 1 + 1)))).1 c 4 = M2.1 c 4 := fun c hc => sR_ne _ _ _ _ (by omega)
  have w7 : (sR M2 23 4 (upd (M2.1 23 4) 7 (nI (Z.1.1 1 + 1)))).1 23 4 7 = nI (Z.1.1 1 + 1) := by rw [sR_at, upd_at]
  have w6 : (sR M2 23 4 (upd (M2.1 23 4) 7 (nI (Z.1.1 1 + 1)))).1 23 4 6 = nI (L + 1) := by rw [sR_at, upd_ne _ _ (by decide)]; exact v6
  have w8 : (sR M2 23 4 (upd (M2.1 23 4) 7 (nI (Z.1.1 1 + 1)))).1 23 4 8 = 1 := by rw [sR_at, upd_ne _ _ (by decide), v23 8 (by decide)]; exact z8
  generalize sR M2 23 4 (upd (M2.1 23 4) 7 (nI (Z.1.1 1 + 1))) = M3 at f3 l3 r3 w7 w6 w8 ⊢
  by_cases c : k = 7 ∨ k = 8
  · have hd3 : Z.2.1 < 3 := by
      have := fun z => hb ⟨c, z⟩
      omega
    rw [if_pos c, if_pos c, if_neg (show ¬ (1 : Int32) = 0 from by decide), f3 34 0 (by decide), z34, inb_nI_t hd3 (by decide), if_pos rfl, nI_clamp (by omega)]
    have e34 : (sR M3 35 0 (upd (M3.1 35 0) Z.2.1 (nI L))).1 34 0 1 + (1 : Int32) = nI (Z.2.1 + 1) := by rw [sR_ne _ _ _ _ (by decide), f3 34 0 (by decide), z34]; exact add_nI _ 1
    rw [e34]
    obtain ⟨M7, e7', f7, p34, p35, l7⟩ : ∃ M7 : Mem, sR (sR M3 35 0 (upd (M3.1 35 0) Z.2.1 (nI L))) 34 0 (upd ((sR M3 35 0 (upd (M3.1 35 0) Z.2.1 (nI L))).1 34 0) 1 (nI (Z.2.1 + 1))) = M7 ∧ (∀ c i, ¬ (c = 34 ∨ c = 35) → M7.1 c i = M3.1 c i) ∧ M7.1 34 0 1 = nI (Z.2.1 + 1) ∧ M7.1 35 0 = upd (M3.1 35 0) Z.2.1 (nI L) ∧ M7.2 = M3.2 := by
      refine ⟨_, rfl, fun c i z => ?_, ?_, ?_, rfl⟩
      · rw [sR_ne _ _ _ _ (by omega), sR_ne _ _ _ _ (by omega)]
      · rw [sR_at, upd_at]
      · rw [sR_ne _ _ _ _ (by decide), sR_at]
    rw [e7']
    have G7 : GX P n M7 t := h.eq (fun a h1 h2 => ⟨by rw [f7 a 0 (by omega), f3 a 0 (by omega)], by rw [l7, l3]⟩)
    obtain ⟨M8, e8, f8, g8⟩ := adv_x B G7
    rw [e8, Option.bind_some]
    refine ⟨M8, rfl, ⟨fun a i h1 h2 h3 => ⟨?_, ?_⟩, fun j hj => ?_⟩, g8, ?_, ?_, ?_, ?_, fun j hj => ?_, fun _ => ?_, ?_, fun a h1 h2 j hj => ?_⟩
    · rw [(f8.1 a i h1).1, f7 a i h3, f3 a i h2]
    · rw [(f8.1 a i h1).2, l7, l3]
    · rw [f8.2 j (by omega), f7 30 0 (by decide), f3 30 0 (by decide)]
    · rw [(f8.1 23 4 (by decide)).1, f7 23 4 (by decide)]; exact w8
    · rw [(f8.1 23 4 (by decide)).1, f7 23 4 (by decide)]; exact w7
    · rw [(f8.1 23 4 (by decide)).1, f7 23 4 (by decide)]; exact w6
    · rw [(f8.1 34 0 (by decide)).1]; exact p34
    · rw [(f8.1 35 0 (by decide)).1, p35, upd_ne _ _ (by omega), f3 35 0 (by decide)]
    · rw [(f8.1 35 0 (by decide)).1, p35, upd_at]
    · rw [(f8.1 24 4 (by decide)).1, f7 24 4 (by decide), r3 24 (by decide)]; exact v2
    · rw [(f8.1 a 4 (by omega)).1, f7 a 4 (by omega), r3 a (by omega)]; exact vr a h1 h2 j hj
  · rw [if_neg c, if_neg c, if_pos rfl]
    have G3 : GX P n M3 t := h.eq (fun a h1 h2 => ⟨f3 a 0 (by omega), by rw [l3]⟩)
    obtain ⟨M8, e8, f8, g8⟩ := adv_x B G3
    rw [e8, Option.bind_some]
    refine ⟨M8, rfl, ⟨fun a i h1 h2 h3 => ⟨?_, ?_⟩, fun j hj => ?_⟩, g8, ?_, ?_, ?_, ?_, fun j hj => ?_, fun z => absurd z c, ?_, fun a h1 h2 j hj => ?_⟩
    · rw [(f8.1 a i h1).1, f3 a i h2]
    · rw [(f8.1 a i h1).2, l3]
    · rw [f8.2 j (by omega), f3 30 0 (by decide)]
    · rw [(f8.1 23 4 (by decide)).1]; exact w8
    · rw [(f8.1 23 4 (by decide)).1]; exact w7
    · rw [(f8.1 23 4 (by decide)).1]; exact w6
    · rw [(f8.1 34 0 (by decide)).1, f3 34 0 (by decide)]; exact z34
    · rw [(f8.1 35 0 (by decide)).1, f3 35 0 (by decide)]
    · rw [(f8.1 24 4 (by decide)).1, r3 24 (by decide)]; exact v2
    · rw [(f8.1 a 4 (by omega)).1, r3 a (by omega)]; exact vr a h1 h2 j hj
theorem pos_lt {K : Co} {Z : Zw} (o : ZOK K Z) (h : Z.1.1 1 < 30 ∨ ¬ Z.2.1 = 0) : posW Z.1 (Z.1.1 1) < 60 := by
  have hS := o.1.2.1
  unfold posW
  rcases h with h | h
  · have := cntR_le (fun b => isBl Z.1 b && decide (Z.1.1 (100 + b) ≤ Z.1.1 1)) (Z.1.1 1) 0
    omega
  · obtain ⟨x1, x2, x3⟩ := o.2.2.1 (Z.2.1 - 1) (by omega)
    have := cntR_lt (p := fun b => isBl Z.1 b && decide (Z.1.1 (100 + b) ≤ Z.1.1 1)) x1 (by
      show (_ && decide (_ ≤ _)) = false
      rw [x3, decide_eq_false (by omega), Bool.and_false])
    omega
theorem posW_of_lt {K : Co} {Z : Zw} (o : ZOK K Z) {j : Nat} (hj : j < Z.2.1) : posW Z.1 (Z.2.2 j) < posW Z.1 (Z.1.1 1) := posW_mon2 (o.2.2.1 j hj).1
set_option maxHeartbeats 600000 in
theorem closes_g {K : Co} {P : Nat → Int32} {n : Nat} {M : Mem} {t : Tk} {Z : Zw} (B : BY P n) (o : ZOK K Z) (h : GX P n M t) (hz : ZX M Z) (h0 : ¬ Z.2.1 = 0) : ∃ M', f_X8_closes 4 M = some (1, M') ∧ WkF M M' ∧ GX P n M' (nx P n t) ∧ ZX M' (closeZ Z) := by
  have hd := o.1.2.2
  have hL6 := pos_lt o (Or.inr h0)
  have hb6 := posW_of_lt o (j := Z.2.1 - 1) (by omega)
  have hz' := hz
  obtain ⟨z8, z7, z6, z34, z35, -⟩ := hz
  unfold f_X8_closes
  rw [z34, if_pos (by rw [nI_pz (by omega)]; omega), show nI Z.2.1 - (1 : Int32) = nI (Z.2.1 - 1) from sub_nI (a := Z.2.1) (b := 1) (by omega)]
  simp only
  have e1 : (sR M 34 0 (upd (M.1 34 0) 1 (nI (Z.2.1 - 1)))).1 34 0 1 = nI (Z.2.1 - 1) := by rw [sR_at, upd_at]
  have e35 : (sR M 34 0 (upd (M.1 34 0) 1 (nI (Z.2.1 - 1)))).1 35 0 (Z.2.1 - 1) = nI (posW Z.1 (Z.2.2 (Z.2.1 - 1))) := by rw [sR_ne _ _ _ _ (by decide)]; exact z35 _ (by omega)
  have n1 : ∀ c i, ¬ (c = 34 ∧ i = 0) → (sR M 34 0 (upd (M.1 34 0) 1 (nI (Z.2.1 - 1)))).1 c i = M.1 c i := fun c i z => sR_ne _ _ _ _ z
  have l1 : (sR M 34 0 (upd (M.1 34 0) 1 (nI (Z.2.1 - 1)))).2 = M.2 := rfl
  rw [e1, inb_nI_t (show Z.2.1 - 1 < 3 by omega) (by decide), if_pos rfl, nI_clamp (by omega), e35]
  generalize sR M 34 0 (upd (M.1 34 0) 1 (nI (Z.2.1 - 1))) = M1 at e1 e35 n1 l1 ⊢
  obtain ⟨M2, e2, f2, l2, v2, v6, v23, vr⟩ := addRow_x (M := M1) (L := posW Z.1 (Z.1.1 1)) (v := 28) (by rw [n1 23 4 (by decide)]; exact z6) hL6
  rw [e2, Option.bind_some]
  simp only
  generalize hLL : posW Z.1 (Z.1.1 1) = L at *
  generalize hbb : posW Z.1 (Z.2.2 (Z.2.1 - 1)) = b at *
  rw [inb_nI_t hL6 (by decide), if_pos rfl, inb_nI_t (show b < 60 by omega) (by decide), if_pos rfl, nI_clamp (by omega), nI_clamp (by omega)]
  obtain ⟨M8, e8, f8, w29, l8⟩ : ∃ M8 : Mem, sR (sR M2 29 4 (upd (M2.1 29 4) L (nI b))) 29 4 (upd ((sR M2 29 4 (upd (M2.1 29 4) L (nI b))).1 29 4) b (nI L)) = M8 ∧ (∀ c i, ¬ (c = 29 ∧ i = 4) → M8.1 c i = M2.1 c i) ∧ M8.1 29 4 = upd (upd (M2.1 29 4) L (nI b)) b (nI L) ∧ M8.2 = M2.2 := by
    refine ⟨_, rfl, fun c i z => ?_, ?_, rfl⟩
    · rw [sR_ne _ _ _ _ z, sR_ne _ _ _ _ z]
    · rw [sR_at, sR_at]
  rw [e8]
  have G8 : GX P n M8 t := h.eq (fun a h1 h2 => ⟨by rw [f8 a 0 (by omega), f2 a 0 (by omega), n1 a 0 (by omega)], by rw [l8, l2, l1]⟩)
  obtain ⟨M9, e9, f9, g9⟩ := adv_x B G8
  rw [e9, Option.bind_some]
  have r9 : ∀ c i, ¬ (c = 30 ∧ i = 0) → M9.1 c i = M8.1 c i := fun c i z => (f9.1 c i z).1
  refine ⟨M9, rfl, ⟨fun a i h1 h2 h3 => ⟨?_, ?_⟩, fun j hj => ?_⟩, g9, ?_⟩
  · rw [r9 a i h1, f8 a i (by omega), f2 a i (by omega), n1 a i (by omega)]
  · rw [(f9.1 a i h1).2, l8, l2, l1]
  · rw [f9.2 j (by omega), f8 30 0 (by decide), f2 30 0 (by decide), n1 30 0 (by decide)]
  · refine ZX.close o h0 hz' (fun c h1 h2 j hj => ?_) (fun j h1 h2 => ?_) ?_ ?_ ?_ ?_ (fun j hj => ?_) ?_ ?_ ?_
    · rw [hLL] at hj
      rw [r9 c 4 (by omega), f8 c 4 (by omega), vr c h1 (by omega) j hj, n1 c 4 (by omega)]
    · rw [hLL] at h1
      rw [hbb] at h2
      rw [r9 29 4 (by decide), w29, upd_ne _ _ h2, upd_ne _ _ h1, vr 29 (by decide) (by decide) j h1, n1 29 4 (by decide)]
    · rw [r9 23 4 (by decide), f8 23 4 (by decide), v23 8 (by decide), n1 23 4 (by decide)]; exact z8
    · rw [r9 23 4 (by decide), f8 23 4 (by decide), v23 7 (by decide), n1 23 4 (by decide)]; exact z7
    · rw [hLL, r9 23 4 (by decide), f8 23 4 (by decide)]; exact v6
    · rw [r9 34 0 (by decide), f8 34 0 (by decide), f2 34 0 (by decide)]; exact e1
    · rw [r9 35 0 (by decide), f8 35 0 (by decide), f2 35 0 (by decide), n1 35 0 (by decide)]
    · rw [hLL, r9 24 4 (by decide), f8 24 4 (by decide), v2]; rfl
    · rw [hLL, hbb, r9 29 4 (by decide), w29, upd_ne _ _ (by omega), upd_at]
    · rw [hbb, hLL, r9 29 4 (by decide), w29, upd_at]
