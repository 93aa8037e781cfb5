/-! ===== the reference reads weeks, whole ===== -/
def VkF (M M' : Mem) : Prop := (∀ c i, ¬ (c = 50 ∧ i = 0) → ¬ (c = 55 ∧ i = 0) → M'.1 c i = M.1 c i) ∧ (∀ c i, ¬ (c = 50 ∧ i = 0) → M'.2 c i = M.2 c i) ∧ (∀ j, ¬ (12 ≤ j ∧ j ≤ 18) → ¬ j = 25 → M'.1 50 0 j = M.1 50 0 j) ∧ (∀ j, ¬ j = 19 → M'.2 50 0 j = M.2 50 0 j) ∧ ∀ j, j < 2100 → M'.1 55 0 j = M.1 55 0 j
theorem VkF.rf {M : Mem} : VkF M M := ⟨fun _ _ _ _ => rfl, fun _ _ _ => rfl, fun _ _ _ => rfl, fun _ _ => rfl, fun _ _ => rfl⟩
theorem VkF.tr {M M1 M2 : Mem} (a : VkF M M1) (b : VkF M1 M2) : VkF M M2 := ⟨fun c i h1 h2 => (b.1 c i h1 h2).trans (a.1 c i h1 h2), fun c i h => (b.2.1 c i h).trans (a.2.1 c i h), fun j h1 h2 => (b.2.2.1 j h1 h2).trans (a.2.2.1 j h1 h2), fun j h => (b.2.2.2.1 j h).trans (a.2.2.2.1 j h), fun j h => (b.2.2.2.2 j h).trans (a.2.2.2.2 j h)⟩
theorem YFr.v {M M' : Mem} (a : YFr M M') : VkF M M' := ⟨fun c i h _ => (a.1 c i h).1, fun c i h => (a.1 c i h).2, fun j h _ => a.2.1 j h, a.2.2, fun j _ => by rw [(a.1 55 0 (by decide)).1]⟩
theorem QFr.v {w : Nat} {M M' : Mem} (hw : 2100 ≤ w) (a : QFr w M M') : VkF M M' := ⟨a.1, a.2.1, fun j h _ => a.2.2.1 j h, a.2.2.2.1, fun j h => a.2.2.2.2 j (by omega)⟩
theorem VkF.W {p : Nat} {M : Mem} {v : Int32} (hp : 2100 ≤ p) : VkF M (sR M 55 0 (upd (M.1 55 0) p v)) := ⟨fun c i _ h => sR_ne _ _ _ _ h, fun _ _ _ => rfl, fun j _ _ => by rw [sR_ne _ _ _ _ (by decide)], fun _ _ => rfl, fun j h => by rw [sR_at, upd_ne _ _ (by omega)]⟩
theorem VkF.R {p : Nat} {M : Mem} {v : Int32} (hp : p = 25) : VkF M (sR M 50 0 (upd (M.1 50 0) p v)) := ⟨fun c i h _ => sR_ne _ _ _ _ h, fun _ _ _ => rfl, fun j _ h => by rw [sR_at, upd_ne _ _ (by omega)], fun _ _ => rfl, fun j _ => by rw [sR_ne _ _ _ _ (by decide)]⟩
theorem VkF.N {M M' : Mem} {c : Nat → Nat} {N : Nat → Nat → Int64} (f : VkF M M') (h : NXm M 0 c N) : NXm M' 0 c N := fun q hq => ⟨by rw [f.2.2.2.2 _ (by omega)]; exact (h q hq).1, (h q hq).2.1, fun i hi => by rw [f.2.1 57 0 (by decide)]; exact (h q hq).2.2 i hi⟩
/-- a draft of weeks in the reference; the end of the step x isn't told yet -/
def ZMq (M : Mem) (Z : Zw) (x : Nat) : Prop := M.1 50 0 25 = nI (Z.1.1 1) ∧ ∀ s, s < Z.1.1 1 → M.1 55 0 (2100 + 9 * s) = nI (Z.1.1 (10 + s)) ∧ RsM (M.1 55 0) (2100 + 9 * s) (Z.1.1 (10 + s)) (Z.1.2 0 s, Z.1.2 1 s, Z.1.2 2 s, Z.1.2 3 s) ∧ (¬ s = x → Z.1.1 (100 + s) ≤ Z.1.1 1 → M.1 55 0 (2100 + 9 * s + 8) = nI (Z.1.1 (100 + s)))
theorem ZMq.eq {M M' : Mem} {Z : Zw} {x : Nat} (e25 : M'.1 50 0 25 = M.1 50 0 25) (e : ∀ s, s < Z.1.1 1 → ∀ j, j ≤ 8 → M'.1 55 0 (2100 + 9 * s + j) = M.1 55 0 (2100 + 9 * s + j)) (h : ZMq M Z x) : ZMq M' Z x := by
  refine ⟨e25.trans h.1, fun s hs => ?_⟩
  obtain ⟨h1, h2, h3⟩ := h.2 s hs
  have e := e s hs
  exact ⟨by have := e 0 (by omega); rw [Nat.add_zero] at this; rw [this]; exact h1, h2.eq (e 1 (by omega)) (e 2 (by omega)) (e 6 (by omega)) (e 7 (by omega)), fun a b => by rw [e 8 (by omega)]; exact h3 a b⟩
theorem ZMq.y {M M' : Mem} {Z : Zw} {x : Nat} (f : YFr M M') (h : ZMq M Z x) : ZMq M' Z x := h.eq (f.2.1 25 (by decide)) (fun s _ j _ => by rw [(f.1 55 0 (by decide)).1])
theorem stop_m {P : Nat → Int32} {n : Nat} {M : Mem} {t : Tk} (B : BY P n) (h : GM P n M t) : ∃ r M', f_X11_isSign 59 M = some r ∧ f_X11_must r M = some M' ∧ YFr M M' ∧ (∀ f, stopR P n t = .inl f → BM M' f) ∧ ∀ t', stopR P n t = .inr t' → GM P n M' t' := by
  obtain ⟨M', a, y, d⟩ := must_m (r := if t.2.2.1 = 3 ∧ t.2.2.2.2.2 = 59 then 1 else 0) B h
  refine ⟨_, M', sign_m h, a, y, fun f e => ?_, fun t' e => ?_⟩
  · unfold stopR at e
    by_cases c : t.2.2.1 = 3 ∧ t.2.2.2.2.2 = 59
    · rw [if_pos c] at e; cases e
    · rw [if_neg c] at e
      rw [if_neg c, if_pos (show (0 : Int32) = 0 from rfl)] at d
      cases e; exact d
  · unfold stopR at e
    by_cases c : t.2.2.1 = 3 ∧ t.2.2.2.2.2 = 59
    · rw [if_pos c] at e
      rw [if_pos c, if_neg (show ¬ (1 : Int32) = 0 from by decide)] at d
      cases e; exact d
    · rw [if_neg c] at e; cases e
theorem end_t (M : Mem) : ∃ r, f_X11_isEnd M = some r := by
  unfold f_X11_isEnd
  obtain ⟨r, a, b⟩ := word_t (Int64.ofNat 5572) M
  rw [spw_end, Option.bind_some, a, Option.bind_some]
  exact ⟨_, if_pos b⟩
/-- what goes on behind the steps that are open -/
noncomputable def cont (f fu : Nat → Nat) (f0 : Nat) : Nat → Mem → Option (Int32 × Mem)
  | 0, M => f_X11_weeks_28 f0 M
  | d + 1, M => (f_X11_readStep_142 (f_X11_readStep (39 - d)) (nI d) 1 (nI (2100 + 9 * f d)) (fu d) M).bind (cont f fu f0 d)
theorem cont_cg {f f' fu fu' : Nat → Nat} {f0 : Nat} : ∀ (d : Nat) (_ : ∀ j, j < d → f' j = f j ∧ fu' j = fu j) (M : Mem), cont f' fu' f0 d M = cont f fu f0 d M
  | 0, _, _ => rfl
  | d + 1, h, M => by
    have ih := cont_cg (f := f) (f' := f') (fu := fu) (fu' := fu') (f0 := f0) d (fun j hj => h j (by omega))
    have e : cont f' fu' f0 d = cont f fu f0 d := funext ih
    rw [cont, cont, (h d (by omega)).1, (h d (by omega)).2, e]
theorem w_8 (s : Nat) : nI (2100 + 9 * s) + (8 : Int32) = nI (2100 + 9 * s + 8) := add_nI _ 8
theorem cont_b {f fu : Nat → Nat} {f0 : Nat} {g : Ft} : ∀ (d : Nat) (M : Mem), (∀ j, j < d → f j < 30 ∧ 0 < fu j) → 0 < f0 → BM M g → ∃ M', cont f fu f0 d M = f_X11_weeks_50 M' ∧ BM M' g ∧ VkF M M'
  | 0, M, _, h0, b => by
    obtain ⟨k, rfl⟩ : ∃ k, f0 = k + 1 := ⟨f0 - 1, by omega⟩
    rw [cont, f_X11_weeks_28, if_neg (by rw [b.2.1]; exact pos_ne b.1)]
    exact ⟨M, rfl, b, VkF.rf⟩
  | d + 1, M, h, h0, b => by
    obtain ⟨hf, hu⟩ := h d (by omega)
    obtain ⟨k, hk⟩ : ∃ k, fu d = k + 1 := ⟨fu d - 1, by omega⟩
    rw [cont, hk, f_X11_readStep_142, if_neg (show ¬ (1 : Int32) = 0 from by decide), if_neg (by rw [b.2.1]; exact pos_ne b.1)]
    unfold f_X11_readStep_170
    obtain ⟨r1, e1⟩ := end_t M
    obtain ⟨r2, e2⟩ := sign_t 59 M
    rw [if_neg (show ¬ (1 : Int32) = 0 from by decide), e1, Option.bind_some, must_b b, Option.bind_some, e2, Option.bind_some, must_b b, Option.bind_some, w_8, inb_nI_t (show 2100 + 9 * f d + 8 < 2375 by omega) (by decide), if_pos rfl, nI_clamp (by omega)]
    simp only
    rw [Option.bind_some]
    obtain ⟨M', k1, k2, k3⟩ := cont_b (f := f) (fu := fu) (f0 := f0) (g := g) d (sR M 55 0 (upd (M.1 55 0) (2100 + 9 * f d + 8) (M.1 50 0 25))) (fun j hj => h j (by omega)) h0 b.C
    exact ⟨M', k1, k2, (VkF.W (by omega)).tr k3⟩
theorem fail_at {M : Mem} {P : Nat → Int32} {n : Nat} {t : Tk} {why : Int32} (h : GM P n M t) (hw : 0 < why) : ∃ M', f_X11_fail why (M.1 50 0 15) M = some M' ∧ YFr M M' ∧ BM M' (why, t.1) := fail_m h.2.2.2 h.2.1 hw
theorem s83_b {M : Mem} {g : Ft} {rec : Int32 → Mem → Option Mem} {x1 x2 x3 : Int32} (b : BM M g) : f_X11_readStep_83 rec x1 x2 x3 M = some M := by
  unfold f_X11_readStep_83
  rw [if_pos (by rw [b.2.1]; exact b.1)]
theorem s57_b {M : Mem} {g : Ft} {rec : Int32 → Mem → Option Mem} {x1 x2 x3 : Int32} (b : BM M g) : f_X11_readStep_57 rec x1 x2 x3 M = some M := by
  unfold f_X11_readStep_57
  rw [if_neg (by rw [b.2.1]; exact pos_ne b.1), s83_b b]
theorem s31_b {M : Mem} {g : Ft} {rec : Int32 → Mem → Option Mem} {x1 x2 x3 : Int32} (b : BM M g) : f_X11_readStep_31 rec x1 x2 x3 M = some M := by
  unfold f_X11_readStep_31
  rw [if_neg (by rw [b.2.1]; exact pos_ne b.1), s57_b b]
/-- a step begins: the word -/
theorem stp_22 {M : Mem} {P : Nat → Int32} {n q : Nat} {t : Tk} {x1 : Int32} (h : GM P n M t) (h10 : ¬ stpN (wdS t) = 10) : f_X11_readStep (q + 1) x1 M = f_X11_readStep_31 (f_X11_readStep q) x1 (nI (stpN (wdS t))) (if stpN (wdS t) = 7 ∨ stpN (wdS t) = 8 then 1 else 0) M := by
  have hk := stp_le (t := t)
  rw [f_X11_readStep, r_stepWord h.2.1 h.2.2.1, Option.bind_some, stp_v, if_neg h10]
  unfold f_X11_readStep_17 f_X11_readStep_22
  rw [if_neg (nI_pos (by omega)), if_neg (nI_pos (by omega))]
  by_cases c7 : stpN (wdS t) = 7
  · rw [if_pos (by rw [c7]; rfl), if_pos (Or.inl c7)]
  · rw [if_neg (by rw [show (7 : Int32) = nI 7 from rfl, eq_nI (by omega) (by decide)]; exact c7)]
    by_cases c8 : stpN (wdS t) = 8
    · rw [if_pos (by rw [c8]; rfl), if_pos (Or.inr c8)]
    · rw [if_neg (by rw [show (8 : Int32) = nI 8 from rfl, eq_nI (by omega) (by decide)]; exact c8), if_neg (by omega)]
theorem stp_bad {M : Mem} {P : Nat → Int32} {n q d : Nat} {t : Tk} {Z : Zw} {f : Ft} (h : GM P n M t) (h25 : M.1 50 0 25 = nI (Z.1.1 1)) (hS : Z.1.1 1 ≤ 30) (hd : Z.2.1 = d) (hd3 : d ≤ 3) (e : (if stpN (wdS t) = 10 then some (badK t 2) else if Z.1.1 1 = 30 then some (6, t.1) else if (stpN (wdS t) = 7 ∨ stpN (wdS t) = 8) ∧ Z.2.1 = 3 then some (7, t.1) else none) = some f) : ∃ M', f_X11_readStep (q + 1) (nI d) M = some M' ∧ YFr M M' ∧ BM M' f := by
  by_cases c : stpN (wdS t) = 10
  · rw [if_pos c] at e
    cases e
    rw [f_X11_readStep, r_stepWord h.2.1 h.2.2.1, Option.bind_some, stp_v, if_pos c, if_neg (by decide), if_neg (by decide)]
    unfold f_X11_readStep_22
    obtain ⟨M', a, y, b⟩ := wrong_m h.2.2.2 h.2.1 h.2.2.1.2.2.1
    rw [if_pos (show (-1 : Int32) < 0 from by decide), a, Option.bind_some, s31_b b]
    exact ⟨M', rfl, y, b⟩
  · rw [if_neg c] at e
    rw [stp_22 h c]
    unfold f_X11_readStep_31
    rw [if_pos h.2.2.2, h25]
    by_cases c2 : Z.1.1 1 = 30
    · rw [if_pos c2] at e
      cases e
      obtain ⟨M', a, y, b⟩ := fail_at (why := 6) h (by decide)
      rw [if_pos (by rw [c2]; rfl), a, Option.bind_some, s57_b b]
      exact ⟨M', rfl, y, b⟩
    · rw [if_neg c2] at e
      rw [if_neg (by show ¬ nI (Z.1.1 1) = nI 30; rw [eq_nI (by omega) (by decide)]; exact c2)]
      by_cases c3 : (stpN (wdS t) = 7 ∨ stpN (wdS t) = 8) ∧ Z.2.1 = 3
      · rw [if_pos c3] at e
        cases e
        obtain ⟨M', a, y, b⟩ := fail_at (why := 7) h (by decide)
        unfold f_X11_readStep_57
        rw [if_pos h.2.2.2, if_pos c3.1, if_neg (show ¬ (1 : Int32) = 0 from by decide), if_pos (by rw [← hd, c3.2]; rfl), a, Option.bind_some, s83_b b]
        exact ⟨M', rfl, y, b⟩
      · rw [if_neg c3] at e; cases e
set_option maxHeartbeats 600000 in
theorem stp_good {M : Mem} {P : Nat → Int32} {n q d : Nat} {t : Tk} {Z : Zw} {K : Co} {N : Nat → Nat → Int64} (B : BY P n) (o : ZOK K Z) (h : GM P n M t) (hN : NXm M 0 K.1 N) (hz : ZMq M Z 1000) (hS : Z.1.1 1 < 30) (hd : Z.2.1 = d) (hd3 : d ≤ 3) (c1 : ¬ stpN (wdS t) = 10) (c3 : ¬ ((stpN (wdS t) = 7 ∨ stpN (wdS t) = 8) ∧ Z.2.1 = 3)) :
    ∃ M', f_X11_readStep (q + 1) (nI d) M = f_X11_readStep_142 (f_X11_readStep q) (nI d) (if stpN (wdS t) = 7 ∨ stpN (wdS t) = 8 then 1 else 0) (nI (2100 + 9 * Z.1.1 1)) FU M' ∧ VkF M M' ∧ (∀ f, restR P n K.1 N (stpN (wdS t)) (nx P n t) = .inl f → BM M' f) ∧ ∀ a, restR P n K.1 N (stpN (wdS t)) (nx P n t) = .inr a → (∀ f, stopR P n a.1 = .inl f → BM M' f) ∧ ∀ t', stopR P n a.1 = .inr t' → GM P n M' t' ∧ ZMq M' (pushZ Z (stpN (wdS t)) a.2) (Z.1.1 1) := by
  have hk : stpN (wdS t) < 10 := by have := stp_le (t := t); omega
  rw [stp_22 h c1]
  generalize stpN (wdS t) = k at hk c1 c3 ⊢
  unfold f_X11_readStep_31
  rw [if_pos h.2.2.2, hz.1, if_neg (by show ¬ nI (Z.1.1 1) = nI 30; rw [eq_nI (by omega) (by decide)]; omega)]
  have e57 : f_X11_readStep_57 (f_X11_readStep q) (nI d) (nI k) (if k = 7 ∨ k = 8 then 1 else 0) M = f_X11_readStep_83 (f_X11_readStep q) (nI d) (nI k) (if k = 7 ∨ k = 8 then 1 else 0) M := by
    unfold f_X11_readStep_57
    rw [if_pos h.2.2.2]
    by_cases c : k = 7 ∨ k = 8
    · rw [if_pos c, if_neg (show ¬ (1 : Int32) = 0 from by decide), if_neg (by show ¬ nI d = nI 3; rw [eq_nI (by omega) (by decide)]; exact fun z => c3 ⟨c, by omega⟩)]
    · rw [if_neg c, if_pos rfl]
  rw [e57]
  unfold f_X11_readStep_83
  have ew : (2100 : Int32) + (9 : Int32) * nI (Z.1.1 1) = nI (2100 + 9 * Z.1.1 1) := by
    rw [show (9 : Int32) = nI 9 from rfl, show (2100 : Int32) = nI 2100 from rfl, mul_nI, add_nI]
  rw [h.2.2.2, if_neg (show ¬ (0 : Int32) < 0 from by decide), hz.1, ew, show nI (Z.1.1 1) + (1 : Int32) = nI (Z.1.1 1 + 1) from add_nI _ 1]
  simp only
  have g3 : GM P n (sR M 50 0 (upd (M.1 50 0) 25 (nI (Z.1.1 1 + 1)))) t := by
    obtain ⟨⟨a1, a2, a3⟩, ⟨b1, b2, b3, b4, b5⟩, ww, g⟩ := h
    have ej : ∀ j, ¬ j = 25 → (sR M 50 0 (upd (M.1 50 0) 25 (nI (Z.1.1 1 + 1)))).1 50 0 j = M.1 50 0 j := fun j z => by rw [sR_at, upd_ne _ _ z]
    refine ⟨⟨by rw [ej 9 (by decide)]; exact a1, by rw [sR_ne _ _ _ _ (by decide)]; exact a2, a3⟩, ⟨by rw [ej 15 (by decide)]; exact b1, by rw [ej 16 (by decide)]; exact b2, by rw [ej 14 (by decide)]; exact b3, ?_, ?_⟩, ww, by rw [ej 12 (by decide)]; exact g⟩
    · rw [ej 18 (by decide)]; exact b4
    · rw [ej 17 (by decide)]; exact b5
  obtain ⟨M4, a4, f4, g4⟩ := nx_m B g3
  rw [a4, Option.bind_some, inb_nI_t (show 2100 + 9 * Z.1.1 1 < 2375 by omega) (by decide), if_pos rfl, nI_clamp (by omega)]
  have V3 : VkF M (sR M 50 0 (upd (M.1 50 0) 25 (nI (Z.1.1 1 + 1)))) := VkF.R rfl
  have V6 : VkF M (sR M4 55 0 (upd (M4.1 55 0) (2100 + 9 * Z.1.1 1) (nI k))) := (V3.tr f4.y.v).tr (VkF.W (by omega))
  have r6 : ∀ j, ¬ j = 2100 + 9 * Z.1.1 1 → (sR M4 55 0 (upd (M4.1 55 0) (2100 + 9 * Z.1.1 1) (nI k))).1 55 0 j = M.1 55 0 j := fun j hj => by rw [sR_at, upd_ne _ _ hj, (f4.1 55 0 (by decide)).1, sR_ne _ _ _ _ (by decide)]
  have e25 : (sR M4 55 0 (upd (M4.1 55 0) (2100 + 9 * Z.1.1 1) (nI k))).1 50 0 25 = nI (Z.1.1 1 + 1) := by rw [sR_ne _ _ _ _ (by decide), f4.2.1 25 (by decide), sR_at, upd_at]
  obtain ⟨M7, a7, f7, b7, w7⟩ := mrest_m (w := 2100 + 9 * Z.1.1 1) (k := k) B (g4.C (f := upd (M4.1 55 0) (2100 + 9 * Z.1.1 1) (nI k))) (V6.N hN) (by omega) (by omega) hk (by rw [sR_at, upd_at])
  rw [a7, Option.bind_some]
  have V7 := V6.tr (f7.v (by omega))
  cases hr : restR P n K.1 N k (nx P n t) with
  | inl f =>
    have bm := b7 f hr
    obtain ⟨r8, e8⟩ := sign_t 59 M7
    rw [e8, Option.bind_some, must_b bm, Option.bind_some]
    refine ⟨M7, rfl, V7, fun f' e => ?_, fun a e => by cases e⟩
    cases e; exact bm
  | inr a =>
    obtain ⟨g7, rs7⟩ := w7 a hr
    obtain ⟨r8, M9, e8, e9, y9, b9, w9⟩ := stop_m B g7
    rw [e8, Option.bind_some, e9, Option.bind_some]
    refine ⟨M9, rfl, V7.tr y9.v, fun f' e => (by cases e), fun a' e => ?_⟩
    cases e
    refine ⟨b9, fun t' et => ⟨w9 t' et, ?_⟩⟩
    refine ZMq.y y9 ?_
    obtain ⟨s1, s2, s3, s4⟩ := push_S (Z := Z) (k := k) (r := a.2) hS
    obtain ⟨v0, v1, v2, v3⟩ := push_v (Z := Z) (k := k) (r := a.2)
    refine ⟨by rw [s3, f7.2.2.1 25 (by decide)]; exact e25, fun s hs => ?_⟩
    rw [s3] at hs ⊢
    by_cases c : s < Z.1.1 1
    · obtain ⟨p1, p2, p3⟩ := push_k (k := k) (r := a.2) c hS
      obtain ⟨q1, q2, q3⟩ := hz.2 s c
      rw [p1, p2, p3 0, p3 1, p3 2, p3 3]
      have ej : ∀ j, j ≤ 8 → M7.1 55 0 (2100 + 9 * s + j) = M.1 55 0 (2100 + 9 * s + j) := fun j hj => by
        rw [f7.2.2.2.2 _ (by omega), r6 _ (by omega)]
      refine ⟨?_, q2.eq (ej 1 (by omega)) (ej 2 (by omega)) (ej 6 (by omega)) (ej 7 (by omega)), fun x y => ?_⟩
      · have := ej 0 (by omega)
        rw [Nat.add_zero] at this
        rw [this]; exact q1
      · have y2 : Z.1.1 (100 + s) ≤ Z.1.1 1 := by
          rcases (o.2.1 s c).2.2.1 with q | ⟨-, q⟩
          · exact q
          · omega
        rw [ej 8 (by omega)]
        exact q3 (by omega) y2
    · have e : s = Z.1.1 1 := by omega
      subst e
      rw [s1, v0, v1, v2, v3]
      refine ⟨?_, rs7, fun x => absurd rfl x⟩
      rw [f7.2.2.2.2 _ (by omega), sR_at, upd_at]
