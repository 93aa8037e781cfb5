/-! ===== calls on both: weeks ===== -/
/-- the weeks as they lie in the reference (what is not told, too) -/
def memW (Z : Zw) (c : Nat → Int32) : Wk := (Z.1.1, fun r s => c (200 + 9 * s + (if r = 0 then 1 else if r = 1 then 2 else if r = 2 then 6 else 7)))
theorem isBl_mem {Z : Zw} {c : Nat → Int32} {s : Nat} : isBl (memW Z c) s = isBl Z.1 s := rfl
theorem posW_mem {Z : Zw} {c : Nat → Int32} {s : Nat} : posW (memW Z c) s = posW Z.1 s := rfl
theorem endW_mem {Z : Zw} {c : Nat → Int32} {s : Nat} : endW (memW Z c) s = endW Z.1 s := rfl
/-- the reference's rows hold what the draft tells -/
def MnE (Z : Zw) (c : Nat → Int32) : Prop := ∀ s, s < Z.1.1 1 → RsM c (200 + 9 * s) (Z.1.1 (10 + s)) (Z.1.2 0 s, Z.1.2 1 s, Z.1.2 2 s, Z.1.2 3 s)
theorem memW_X {R : Nat → Nat → Int32} {Z : Zw} {c : Nat → Int32} (h : MnE Z c) (w : WkXR R Z.1) : WkXR R (memW Z c) := by
  refine ⟨w.1, w.2.1, w.2.2.1, fun s hs => ?_⟩
  obtain ⟨w1, w2, w3, w4, w5⟩ := w.2.2.2 s hs
  obtain ⟨m1, m2, m3⟩ := h s hs
  refine ⟨w1, w2, fun a b d e => ?_, fun a => ?_, fun a => ⟨fun b => ?_, fun b => ?_, fun b => ?_⟩⟩
  · exact (w3 a b d e).trans (m1 a b d e).symm
  · exact (w4 a).trans (m2 a).symm
  · obtain ⟨n1, n2, n3, n4⟩ := m3 a
    have b : c (200 + 9 * s + 6) = 0 := b
    rw [n1] at b
    obtain ⟨x1, x2, x3⟩ := (w5 a).1 b
    exact ⟨x1, x2.trans (n2 b).1.symm, x3.trans (n2 b).2.symm⟩
  · obtain ⟨n1, n2, n3, n4⟩ := m3 a
    have b : c (200 + 9 * s + 6) = 1 := b
    rw [n1] at b
    obtain ⟨x1, x2⟩ := (w5 a).2.1 b
    exact ⟨x1, x2.trans (n3 b).symm⟩
  · obtain ⟨n1, n2, n3, n4⟩ := m3 a
    have b : c (200 + 9 * s + 6) = 2 := b
    rw [n1] at b
    obtain ⟨x1, x2, x3, x4⟩ := (w5 a).2.2 b
    exact ⟨x1, x2.trans (n4 b).1.symm, x3.trans (n4 b).2.1.symm, x4.trans (n4 b).2.2.symm⟩
theorem memW_K {K : Co} {Z : Zw} {c : Nat → Int32} (h : MnE Z c) (w : OKK K Z.1) : OKK K (memW Z c) := by
  refine ⟨w.1, w.2.1, w.2.2.1, fun s hs => ?_⟩
  obtain ⟨b1, b2, b3, b4, b5, b6, b7, b8, b9, b10, b11, b12⟩ := w.2.2.2 s hs
  obtain ⟨m1, m2, m3⟩ := h s hs
  have e0 : ∀ k, Z.1.1 (10 + s) = k → k ≠ 7 → k ≠ 2 → k ≠ 6 → k ≠ 9 → (memW Z c).2 0 s = Z.1.2 0 s := fun k ek a b d e => m1 (by omega) (by omega) (by omega) (by omega)
  refine ⟨b1, b2, b3, b4, b5, b6, b7, fun a => ?_, fun a => ?_, fun a => ?_, fun a => ?_, fun a => ?_⟩
  · rw [e0 0 a (by decide) (by decide) (by decide) (by decide)]; exact b8 a
  · have q : (memW Z c).2 0 s = Z.1.2 0 s := by
      rcases a with a | a
      · exact e0 1 a (by decide) (by decide) (by decide) (by decide)
      · exact e0 8 a (by decide) (by decide) (by decide) (by decide)
    rw [q]; exact b9 a
  · have q : (memW Z c).2 0 s = Z.1.2 0 s := by
      rcases a with a | a | a
      · exact e0 3 a (by decide) (by decide) (by decide) (by decide)
      · exact e0 4 a (by decide) (by decide) (by decide) (by decide)
      · exact e0 5 a (by decide) (by decide) (by decide) (by decide)
    rw [q]; exact b10 a
  · have q : (memW Z c).2 1 s = Z.1.2 1 s := m2 a
    rw [q]; exact b11 a
  · obtain ⟨n1, n2, n3, n4⟩ := m3 a
    obtain ⟨x1, x2, x3, x4⟩ := b12 a
    have q2 : (memW Z c).2 2 s = Z.1.2 2 s := n1
    rw [q2]
    refine ⟨x1, fun b => ?_, fun b => ?_, ?_⟩
    · have q : (memW Z c).2 0 s = Z.1.2 0 s := n3 b
      rw [q]; exact x2 b
    · have q : (memW Z c).2 0 s = Z.1.2 0 s := (n4 b).1
      rw [q]; exact x3 b
    · rcases x1 with y | y | y
      · have q : (memW Z c).2 3 s = Z.1.2 3 s := (n2 y).2
        rw [q]; exact x4
      · exact Or.inl y
      · have q : (memW Z c).2 3 s = Z.1.2 3 s := (n4 y).2.2
        rw [q]; exact x4
-- the class
/-- the state behind weeks that are told -/
def wksS (s : Sy) (o : Ft ⊕ Wk) : Sy := match o with
  | .inl f => setSc (setSc (setSc (setTp (setWo s (sWo s)) (tp0 s)) 1 f.1) 2 (nI f.2)) 0 10
  | .inr w => setSc (setSc (setSc (setTp (setWo s ((sWo s).1, (sWo s).2.1, (sWo s).2.2.1, w)) (tp0 s)) 1 0) 2 (-1)) 0 0
def wksA (o : Ft ⊕ Zw) : Int32 := match o with
  | .inl _ => -1
  | .inr Z => nI (Z.1.1 1)
abbrev wkR (s : Sy) (n : Nat) : Ft ⊕ Zw := weeksR (sTp s).2 n (sWo s).1.1 (sWo s).2.2.1 (n + 1) zw0 (tokS (sTp s).2 n 0)
theorem X7_cp4 {M : Mem} (hb : isB (M.1 23 4 8) = true) : ∃ M', f_X7_copyFrom 0 4 M = some M' ∧ (∀ c i, ¬ (i = 0 ∧ 23 ≤ c ∧ c ≤ 29) → M'.1 c i = M.1 c i) ∧ M'.2 = M.2 ∧ Cpy 0 4 (fun c j => D0 c j ∨ D7 c j) D0 M M' := by
  obtain ⟨M', e, k⟩ := X7_cp (h := 0) (i := 4) (M := M) Cpy.rf (by decide) hb
  refine ⟨M', e, ?_, ?_, k⟩
  · unfold f_X7_copyFrom at e
    simp only at e
    have e' := (Option.some.inj (of_ite e).2).symm
    subst e'
    intro c i z
    rw [sR_ne _ _ _ _ (by omega), sR_ne _ _ _ _ (by omega), sR_ne _ _ _ _ (by omega), sR_ne _ _ _ _ (by omega), sR_ne _ _ _ _ (by omega), sR_ne _ _ _ _ (by omega), sR_ne _ _ _ _ (by omega), sR_ne _ _ _ _ (by omega), sR_ne _ _ _ _ (by omega)]
  · unfold f_X7_copyFrom at e
    simp only at e
    have e' := (Option.some.inj (of_ite e).2).symm
    subst e'
    rfl
theorem RX.NX0 {s : Sy} {M : Mem} (o : OKS s) (h : RX s M) : NX M 0 (sWo s).1.1 (sWo s).2.2.1 := by
  have w := h.2.2.2.2.1
  obtain ⟨k0, k1, k2, k3, -⟩ := o.2.2.1.1
  intro q hq
  refine ⟨w.1.1 q hq, ?_, fun i hi => w.2.2.1 q hq i hi⟩
  match q, hq with
  | 0, _ => exact k0
  | 1, _ => exact k1
  | 2, _ => exact k2
  | 3, _ => exact k3
theorem RM.NX0 {s : Sy} {M : Mem} (o : OKS s) (h : RM s M) : NXm M 0 (sWo s).1.1 (sWo s).2.2.1 := by
  have w := h.2.2.2.2.1
  obtain ⟨k0, k1, k2, k3, -⟩ := o.2.2.1.1
  intro q hq
  refine ⟨?_, ?_, fun i hi => ?_⟩
  · rw [Nat.mul_zero, Nat.zero_add]; exact w.1.1 q hq
  · match q, hq with
    | 0, _ => exact k0
    | 1, _ => exact k1
    | 2, _ => exact k2
    | 3, _ => exact k3
  · rw [Nat.mul_zero, Nat.zero_add]; exact w.2.2.1 q hq i hi
set_option maxHeartbeats 1000000 in
theorem weeks_x {s : Sy} {M : Mem} (o : OKS s) (h : RX s M) {n : Nat} (hn : n ≤ (sTp s).1) (h300 : n ≤ 300) : ∃ M', f_X10_weeks (nI n) M = some (wksA (wkR s n), M') ∧ onX M M' ∧ (∀ f, wkR s n = .inl f → RX (wksS s (.inl f)) M') ∧ ∀ Z, wkR s n = .inr Z → ZOK (sWo s).1 Z ∧ Z.2.1 = 0 ∧ ∀ c, MnE Z c → RX (wksS s (.inr (memW Z c))) M' := by
  have h9 := o.1
  have hk : (sMk s).1 ≤ 3 := o.2.2.2.1.1
  obtain ⟨M2, e2, ⟨f2, g2⟩, b2, w2⟩ := readWeeks_x (M := M) (K := (sWo s).1) (N := (sWo s).2.2.1) (o.by_ hn) (fun j hj => h.P.2 j (by omega)) h.2.2.2.2.2.2.2.2 (h.NX0 o)
  unfold f_X10_weeks
  rw [if_neg (nI_pos (by omega)), h.P.1, if_neg (by rw [lt_nI (by omega) (by omega)]; omega), if_neg (by show ¬ nI 300 < nI n; rw [lt_nI (by decide) (by omega)]; omega), e2, Option.bind_some]
  simp only
  have n3 : ∀ c i, ¬ (c = 30 ∧ i = 0) → (sR M2 30 0 (upd (M2.1 30 0) 2 0)).1 c i = M2.1 c i ∧ (sR M2 30 0 (upd (M2.1 30 0) 2 0)).2 c i = M2.2 c i := fun c i z => ⟨sR_ne _ _ _ _ z, rfl⟩
  have j3 : ∀ j, ¬ j = 2 → (sR M2 30 0 (upd (M2.1 30 0) 2 0)).1 30 0 j = M2.1 30 0 j := fun j z => by rw [sR_at, upd_ne _ _ z]
  have t3 : (sR M2 30 0 (upd (M2.1 30 0) 2 0)).1 30 0 2 = nI 0 := by rw [sR_at, upd_at]; rfl
  generalize sR M2 30 0 (upd (M2.1 30 0) 2 0) = M3 at n3 j3 t3 ⊢
  have m3 : ∀ c i, ¬ (c = 30 ∧ i = 0) → ¬ (i = 4 ∧ 23 ≤ c ∧ c ≤ 29) → ¬ (c = 34 ∨ c = 35) → M3.1 c i = M.1 c i ∧ M3.2 c i = M.2 c i := fun c i a b d => ⟨(n3 c i a).1.trans (f2 c i a b d).1, (n3 c i a).2.trans (f2 c i a b d).2⟩
  have m0 := m3 0 0 (by decide) (by decide) (by decide)
  show ∃ M', _ = some (wksA (wkR s n), M') ∧ _
  generalize hu : wkR s n = u
  have hu' : weeksR (sTp s).2 n (sWo s).1.1 (sWo s).2.2.1 (n + 1) zw0 (tokS (sTp s).2 n 0) = u := hu
  rw [hu'] at b2 w2
  cases u with
  | inl f =>
    have b2 := b2 f rfl
    have b3 : BX M3 f := ⟨b2.1, by rw [j3 10 (by decide)]; exact b2.2.1, by rw [j3 11 (by decide)]; exact b2.2.2⟩
    have n4 : ∀ c i, ¬ (c = 0 ∧ i = 0) → (stM (kpM M3 f.1 (nI f.2)) 10).1 c i = M3.1 c i ∧ (stM (kpM M3 f.1 (nI f.2)) 10).2 c i = M3.2 c i := fun c i z => ⟨(sR_ne _ _ _ _ z).trans (kpM_ne z).1, (kpM_ne (M := M3) (a := f.1) (b := nI f.2) z).2⟩
    rw [keep_b b3, Option.bind_some]
    refine ⟨stM (kpM M3 f.1 (nI f.2)) 10, (if_neg (show ¬ (1 : Int32) = 0 from by decide)).trans ?_, fun c i hc => ?_, fun g eg => ?_, fun Z ez => by cases ez⟩
    · rw [X10_none_e]; rfl
    · rw [(n4 c i (by omega)).1, (n4 c i (by omega)).2]
      exact m3 c i (by omega) (by omega) (by omega)
    · cases eg
      refine RX.tx hk (fun c i a b d e => ?_) (fun j z => ?_) ?_ (stM_at _ _) ?_ ?_ ⟨?_, fun j hj => absurd hj (Nat.not_lt_zero _)⟩ ?_ h
      · rw [(n4 c i a).1, (n4 c i a).2]; exact m3 c i b (by omega) (by omega)
      · unfold stM
        rw [sR_at, upd_ne _ _ (by omega), kpM_j (by omega), m0.1]
      · exact m0.2
      · unfold stM
        rw [sR_at, upd_ne _ _ (by decide), kpM_15]
      · unfold stM
        rw [sR_at, upd_ne _ _ (by decide), kpM_16]
      · rw [(n4 30 0 (by decide)).1, t3]; rfl
      · refine XW.eq (fun c a b => ?_) h.2.2.2.2.1
        rw [(n4 c 0 (by omega)).1, (n4 c 0 (by omega)).2]
        exact m3 c 0 (by omega) (by omega) (by omega)
  | inr Z =>
    obtain ⟨z10, zx, zo, zd⟩ := w2 Z rfl
    rw [keep_g (by rw [j3 10 (by decide)]; exact z10), Option.bind_some]
    have k4 : ∀ c i, ¬ (c = 0 ∧ i = 0) → (kpM M3 0 (-1)).1 c i = M3.1 c i ∧ (kpM M3 0 (-1)).2 c i = M3.2 c i := fun c i z => kpM_ne z
    have q4 : ∀ j, ¬ (15 ≤ j ∧ j ≤ 16) → (kpM M3 0 (-1)).1 0 0 j = M3.1 0 0 j := fun j z => kpM_j z
    have q15 : (kpM M3 0 (-1)).1 0 0 15 = 0 := kpM_15
    have q16 : (kpM M3 0 (-1)).1 0 0 16 = -1 := kpM_16
    have q00 : (kpM M3 0 (-1)).2 0 0 = M3.2 0 0 := rfl
    generalize kpM M3 0 (-1) = M4 at k4 q4 q15 q16 q00 ⊢
    have wx : WkXR (fun c => M4.1 c 4) Z.1 := WkXR.congr (fun c a b => ((k4 c 4 (by omega)).1).trans (n3 c 4 (by omega)).1) (zx_end zo zd zx)
    obtain ⟨M6, e6, f6, l6, c6⟩ := X7_cp4 (M := M4) (by rw [(k4 23 4 (by decide)).1, (n3 23 4 (by decide)).1, zx.1]; exact isB_1)
    have ok := zok_end zo zd
    have w6 : WkXR (fun c => M6.1 c 0) Z.1 := WkXR.cp c6 (fun _ _ z => Or.inr z) ok wx
    rw [if_pos rfl, e6, Option.bind_some]
    have n8 : ∀ c i, ¬ (c = 0 ∧ i = 0) → (stM M6 0).1 c i = M6.1 c i ∧ (stM M6 0).2 c i = M6.2 c i := fun c i z => ⟨sR_ne _ _ _ _ z, rfl⟩
    have m8 : ∀ c i, ¬ (c = 0 ∧ i = 0) → ¬ (i = 0 ∧ 23 ≤ c ∧ c ≤ 29) → (stM M6 0).1 c i = M3.1 c i ∧ (stM M6 0).2 c i = M3.2 c i := fun c i a b => by
      rw [(n8 c i a).1, (n8 c i a).2, f6 c i b, l6]; exact k4 c i a
    refine ⟨stM M6 0, ?_, fun c i hc => ?_, fun g eg => (by cases eg), fun Z' ez => ?_⟩
    · rw [X10_answer_e, show M6.1 23 0 7 = nI (Z.1.1 1) from w6.2.1]; rfl
    · rw [(m8 c i (by omega) (by omega)).1, (m8 c i (by omega) (by omega)).2]
      exact m3 c i (by omega) (by omega) (by omega)
    · cases ez
      refine ⟨zo, zd, fun c hc => ?_⟩
      refine RX.tx hk (fun c i a b d e => ?_) (fun j z => ?_) ?_ (stM_at _ _) ?_ ?_ ⟨?_, fun j hj => absurd hj (Nat.not_lt_zero _)⟩ ?_ h
      · rw [(m8 c i a (by omega)).1, (m8 c i a (by omega)).2]; exact m3 c i b (by omega) (by omega)
      · unfold stM
        rw [sR_at, upd_ne _ _ (by omega), f6 0 0 (by decide), q4 j (by omega), m0.1]
      · show M6.2 0 0 = _
        rw [l6, q00]; exact m0.2
      · unfold stM
        rw [sR_at, upd_ne _ _ (by decide), f6 0 0 (by decide), q15]
      · unfold stM
        rw [sR_at, upd_ne _ _ (by decide), f6 0 0 (by decide), q16]
      · rw [(m8 30 0 (by decide) (by decide)).1, t3]; rfl
      · have w0 := h.2.2.2.2.1
        have e7 : ∀ c, 7 ≤ c → c ≤ 22 → (stM M6 0).1 c 0 = M.1 c 0 ∧ (stM M6 0).2 c 0 = M.2 c 0 := fun c a b => by
          rw [(m8 c 0 (by omega) (by omega)).1, (m8 c 0 (by omega) (by omega)).2]
          exact m3 c 0 (by omega) (by omega) (by omega)
        obtain ⟨w1, w2, w3, -⟩ := w0
        refine ⟨RepCR.congr (fun c a b => (e7 c (by omega) (by omega)).1) w1, ?_, by rw [(e7 10 (by decide) (by decide)).2]; exact w3, ?_⟩
        · unfold RepH at w2 ⊢
          rw [(e7 20 (by decide) (by decide)).1, (e7 21 (by decide) (by decide)).1, (e7 22 (by decide) (by decide)).1]
          exact w2
        · exact memW_X hc (WkXR.congr (fun c a b => (n8 c 0 (by omega)).1) w6)
-- the reference
theorem cp82 {S : Nat} (hS : S ≤ 30) : ∀ (m i fu : Nat) (M : Mem), i + m = 9 * S → m < fu → M.1 50 0 25 = nI S → ∃ M', f_X11_weeks_82 fu (nI i) M = some (nI S, M') ∧ M'.2 = M.2 ∧ (∀ c a, ¬ (c = 55 ∧ a = 0) → M'.1 c a = M.1 c a) ∧ (∀ j, i ≤ j → j < 9 * S → M'.1 55 0 (200 + j) = M.1 55 0 (2100 + j)) ∧ ∀ j, ¬ (200 + i ≤ j ∧ j < 200 + 9 * S) → M'.1 55 0 j = M.1 55 0 j
  | m, i, 0, M, _, z, _ => by omega
  | 0, i, fu + 1, M, hi, _, h25 => by
    rw [f_X11_weeks_82, h25, show (9 : Int32) * nI S = nI (9 * S) from mul_nI 9 S, if_neg (by rw [lt_nI (by omega) (by omega)]; omega)]
    exact ⟨M, rfl, rfl, fun _ _ _ => rfl, fun j a b => by omega, fun _ _ => rfl⟩
  | m + 1, i, fu + 1, M, hi, hf, h25 => by
    rw [f_X11_weeks_82, h25, show (9 : Int32) * nI S = nI (9 * S) from mul_nI 9 S, if_pos (by rw [lt_nI (by omega) (by omega)]; omega), show (2100 : Int32) + nI i = nI (2100 + i) from add_nI 2100 i, show (200 : Int32) + nI i = nI (200 + i) from add_nI 200 i, inb_nI_t (show 2100 + i < 2375 by omega) (by decide), if_pos rfl, inb_nI_t (show 200 + i < 2375 by omega) (by decide), if_pos rfl, nI_clamp (by omega), nI_clamp (by omega), show nI i + (1 : Int32) = nI (i + 1) from add_nI i 1]
    simp only
    obtain ⟨M', k1, k2, k3, k4, k5⟩ := cp82 hS m (i + 1) fu (sR M 55 0 (upd (M.1 55 0) (200 + i) (M.1 55 0 (2100 + i)))) (by omega) (by omega) (by rw [sR_ne _ _ _ _ (by decide)]; exact h25)
    refine ⟨M', k1, k2, fun c a z => by rw [k3 c a z, sR_ne _ _ _ _ z], fun j a b => ?_, fun j z => ?_⟩
    · by_cases c : j = i
      · rw [c, k5 _ (by omega), sR_at, upd_at]
      · rw [k4 j (by omega) b, sR_at, upd_ne _ _ (by omega)]
    · rw [k5 j (by omega), sR_at, upd_ne _ _ (by omega)]
