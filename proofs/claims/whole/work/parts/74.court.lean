/-! ===== calls on both: court ===== -/
theorem X1_fr {M M' : Mem} (e : f_X1_copyFrom 0 4 M = some M') : ∀ c, 20 ≤ c → c ≤ 29 → M'.1 c 0 = M.1 c 0 := by
  intro c h1 h2
  unfold f_X1_copyFrom at e
  have e' := (Option.some.inj e).symm
  subst e'
  rw [sR_ne _ _ _ _ (by omega), sR_ne _ _ _ _ (by omega), sR_ne _ _ _ _ (by omega), sR_ne _ _ _ _ (by omega), sR_ne _ _ _ _ (by omega), sR_ne _ _ _ _ (by omega), sR_ne _ _ _ _ (by omega), sR_ne _ _ _ _ (by omega), sR_ne _ _ _ _ (by omega), sR_ne _ _ _ _ (by omega), sR_ne _ _ _ _ (by omega), sL_1, sR_ne _ _ _ _ (by omega)]
theorem clear7_x (M : Mem) : ∃ M', f_X7_clear 0 M = some M' ∧ WkXR (fun c => M'.1 c 0) wk0 ∧ (∀ c i, ¬ (c = 23 ∧ i = 0) → M'.1 c i = M.1 c i) ∧ M'.2 = M.2 := by
  unfold f_X7_clear
  refine ⟨_, rfl, ⟨?_, ?_, ?_, fun s hs => absurd hs (Nat.not_lt_zero _)⟩, fun c i h => ?_, rfl⟩
  · show (sR _ 23 0 _).1 23 0 8 = _
    rw [sR_at, upd_at]; rfl
  · show (sR _ 23 0 _).1 23 0 7 = _
    rw [sR_at, upd_ne _ _ (by decide), sR_at, upd_at]; rfl
  · show (sR _ 23 0 _).1 23 0 6 = _
    rw [sR_at, upd_ne _ _ (by decide), sR_at, upd_ne _ _ (by decide), sR_at, upd_at]; rfl
  · rw [sR_ne _ _ _ _ h, sR_ne _ _ _ _ h, sR_ne _ _ _ _ h]
/-- the state behind a court that is told, by what reading it gave -/
def crtS (s : Sy) (n : Nat) (o : Ft ⊕ Dr) : Sy := match o with
  | .inl f => setSc (setSc (setSc (setTp (setWo s (sWo s)) (tp0 s)) 1 f.1) 2 (nI f.2)) 0 10
  | .inr D => setSc (setSc (setSc (setTp (setWo s (newW D (sWo s).2.1.2.1)) (tp0 s)) 1 0) 2 (-1)) 0 0
def crtA (o : Ft ⊕ Dr) : Int32 := match o with
  | .inl _ => -1
  | .inr D => nI (D.1.1 0)
theorem OKS.by_ {s : Sy} (o : OKS s) {n : Nat} (hn : n ≤ (sTp s).1) : BY (sTp s).2 n := ⟨Nat.le_trans hn o.1, fun j hj => o.2.2.2.2.2.1 j (by omega)⟩
theorem court_x {s : Sy} {M : Mem} (o : OKS s) (h : RX s M) {n : Nat} (hn : n ≤ (sTp s).1) : ∃ M', f_X10_court (nI n) M = some (crtA (courtR (sTp s).2 n (n + 1) DrO (tokS (sTp s).2 n 0)), M') ∧ RX (crtS s n (courtR (sTp s).2 n (n + 1) DrO (tokS (sTp s).2 n 0))) M' ∧ onX M M' := by
  have h9 := o.1
  have hk : (sMk s).1 ≤ 3 := o.2.2.2.1.1
  obtain ⟨M2, e2, ⟨f2, g2⟩, z2⟩ := readCourt_x (M := M) (o.by_ hn) okd_0 okd_hun okd_part (fun j hj => h.P.2 j (by omega)) h.2.2.2.2.2.2.2.2
  unfold f_X10_court
  rw [if_neg (nI_pos (by omega)), h.P.1, if_neg (by rw [lt_nI (by omega) (by omega)]; omega), e2, Option.bind_some]
  simp only
  have n3 : ∀ c i, ¬ (c = 30 ∧ i = 0) → (sR M2 30 0 (upd (M2.1 30 0) 2 0)).1 c i = M2.1 c i ∧ (sR M2 30 0 (upd (M2.1 30 0) 2 0)).2 c i = M2.2 c i := fun c i z => ⟨sR_ne _ _ _ _ z, rfl⟩
  have j3 : ∀ j, ¬ j = 2 → (sR M2 30 0 (upd (M2.1 30 0) 2 0)).1 30 0 j = M2.1 30 0 j := fun j z => by rw [sR_at, upd_ne _ _ z]
  have t3 : (sR M2 30 0 (upd (M2.1 30 0) 2 0)).1 30 0 2 = nI 0 := by rw [sR_at, upd_at]; rfl
  generalize sR M2 30 0 (upd (M2.1 30 0) 2 0) = M3 at n3 j3 t3 ⊢
  have m3 : ∀ c i, ¬ (c = 30 ∧ i = 0) → ¬ (i = 4 ∧ 8 ≤ c ∧ c ≤ 19) → ¬ c = 33 → M3.1 c i = M.1 c i ∧ M3.2 c i = M.2 c i := fun c i a b d => ⟨(n3 c i a).1.trans (f2 c i a b d).1, (n3 c i a).2.trans (f2 c i a b d).2⟩
  generalize courtR (sTp s).2 n (n + 1) DrO (tokS (sTp s).2 n 0) = u at z2 ⊢
  cases u with
  | inl f =>
    have b3 : BX M3 f := ⟨z2.1, by rw [j3 10 (by decide)]; exact z2.2.1, by rw [j3 11 (by decide)]; exact z2.2.2⟩
    rw [keep_b b3, Option.bind_some]
    have n4 : ∀ c i, ¬ (c = 0 ∧ i = 0) → (stM (kpM M3 f.1 (nI f.2)) 10).1 c i = M3.1 c i ∧ (stM (kpM M3 f.1 (nI f.2)) 10).2 c i = M3.2 c i := fun c i z => ⟨(sR_ne _ _ _ _ z).trans (kpM_ne z).1, (kpM_ne (M := M3) (a := f.1) (b := nI f.2) z).2⟩
    refine ⟨stM (kpM M3 f.1 (nI f.2)) 10, (if_neg (show ¬ (1 : Int32) = 0 from by decide)).trans ?_, ?_, fun c i hc => ?_⟩
    · rw [X10_none_e]; rfl
    · refine RX.tx hk (fun c i a b d e => ?_) (fun j z => ?_) ?_ (stM_at _ _) ?_ ?_ ⟨?_, fun j hj => absurd hj (Nat.not_lt_zero _)⟩ ?_ h
      · rw [(n4 c i a).1, (n4 c i a).2]; exact m3 c i b (by omega) (by omega)
      · unfold stM
        rw [sR_at, upd_ne _ _ (by omega), kpM_j (by omega), (m3 0 0 (by decide) (by decide) (by decide)).1]
      · exact (m3 0 0 (by decide) (by decide) (by decide)).2
      · unfold stM
        rw [sR_at, upd_ne _ _ (by decide), kpM_15]
      · unfold stM
        rw [sR_at, upd_ne _ _ (by decide), kpM_16]
      · rw [(n4 30 0 (by decide)).1, t3]; rfl
      · refine XW.eq (fun c a b => ?_) h.2.2.2.2.1
        rw [(n4 c 0 (by omega)).1, (n4 c 0 (by omega)).2]
        exact m3 c 0 (by omega) (by omega) (by omega)
    · rw [(n4 c i (by omega)).1, (n4 c i (by omega)).2]
      exact m3 c i (by omega) (by omega) (by omega)
  | inr D =>
    obtain ⟨z10, zD, zo⟩ := z2
    rw [keep_g (by rw [j3 10 (by decide)]; exact z10), Option.bind_some]
    have ok := okd_C' zo
    have dx := DX.C zo zD
    have k4 : ∀ c i, ¬ (c = 0 ∧ i = 0) → (kpM M3 0 (-1)).1 c i = M3.1 c i ∧ (kpM M3 0 (-1)).2 c i = M3.2 c i := fun c i z => kpM_ne z
    have q4 : ∀ j, ¬ (15 ≤ j ∧ j ≤ 16) → (kpM M3 0 (-1)).1 0 0 j = M3.1 0 0 j := fun j z => kpM_j z
    have q15 : (kpM M3 0 (-1)).1 0 0 15 = 0 := kpM_15
    have q16 : (kpM M3 0 (-1)).1 0 0 16 = -1 := kpM_16
    have q00 : (kpM M3 0 (-1)).2 0 0 = M3.2 0 0 := rfl
    generalize kpM M3 0 (-1) = M4 at k4 q4 q15 q16 q00 ⊢
    obtain ⟨M5, e5, c5⟩ := X1_cp (h := 0) (i := 4) M4 (by decide)
    have r5 := X1_fr e5
    have c4 : RepC M4 4 D.1 := RepCR.congr (fun c a b => (((k4 c 4 (by omega)).1).trans (n3 c 4 (by omega)).1)) dx.1
    have l4 : NaX (M4.2 10 4) D.1 D.2.1 := by rw [(k4 10 4 (by decide)).2, (n3 10 4 (by decide)).2]; exact dx.2
    have C5 : RepC M5 0 D.1 := RepC.cp c5 (fun _ _ z => z) ok c4
    have N5 : NaX (M5.2 10 0) D.1 D.2.1 := NaX.cp c5 (fun _ _ z => z) ok l4
    have h5 : ∀ c, 20 ≤ c → c ≤ 29 → M5.1 c 0 = M.1 c 0 := fun c a b => by rw [r5 c a b, (k4 c 0 (by omega)).1]; exact (m3 c 0 (by omega) (by omega) (by omega)).1
    have H5 : RepH M5 0 (sWo s).2.1 := by
      have := h.2.2.2.2.1.2.1
      unfold RepH at this ⊢
      rw [h5 20 (by decide) (by decide), h5 21 (by decide) (by decide), h5 22 (by decide) (by decide)]
      exact this
    obtain ⟨M6, e6, H6, F6⟩ := openCourt_x (h := 0) (k := 0) ok.J C5 H5
    obtain ⟨M7, e7, W7, F7, L7⟩ := clear7_x M6
    rw [if_pos rfl, e5, Option.bind_some, e6, Option.bind_some, e7, Option.bind_some]
    have m7 : ∀ c i, ¬ (i = 0 ∧ 8 ≤ c ∧ c ≤ 29) → M7.1 c i = M4.1 c i ∧ M7.2 c i = M4.2 c i := fun c i z => by
      rw [F7 c i (by omega), F6.2 c i (by omega), L7, F6.1]
      exact c5.2.2 c i z
    have C7 : RepC M7 0 D.1 := by
      have := C5.fr F6
      exact RepCR.congr (fun c a b => F7 c 0 (by omega)) this
    have H7 : RepH M7 0 (opnH D.1 (sWo s).2.1.2.1) := by
      unfold RepH at H6 ⊢
      rw [F7 20 0 (by decide), F7 21 0 (by decide), F7 22 0 (by decide)]
      exact H6
    have N7 : NaX (M7.2 10 0) D.1 D.2.1 := by rw [L7, F6.1]; exact N5
    have n8 : ∀ c i, ¬ (c = 0 ∧ i = 0) → (stM M7 0).1 c i = M7.1 c i ∧ (stM M7 0).2 c i = M7.2 c i := fun c i z => ⟨sR_ne _ _ _ _ z, rfl⟩
    refine ⟨stM M7 0, ?_, ?_, fun c i hc => ?_⟩
    · rw [X10_answer_e, show M7.1 9 0 0 = nI (D.1.1 0) from C7.1 0 (by decide)]; rfl
    · have m0 := m3 0 0 (by decide) (by decide) (by decide)
      refine RX.tx hk (fun c i a b d e => ?_) (fun j z => ?_) ?_ (stM_at _ _) ?_ ?_ ⟨?_, fun j hj => absurd hj (Nat.not_lt_zero _)⟩ ?_ h
      · rw [(n8 c i a).1, (n8 c i a).2, (m7 c i (by omega)).1, (m7 c i (by omega)).2, (k4 c i a).1, (k4 c i a).2]; exact m3 c i b (by omega) (by omega)
      · unfold stM
        rw [sR_at, upd_ne _ _ (by omega), (m7 0 0 (by decide)).1, q4 j (by omega), m0.1]
      · show M7.2 0 0 = _
        rw [(m7 0 0 (by decide)).2, q00]; exact m0.2
      · unfold stM
        rw [sR_at, upd_ne _ _ (by decide), (m7 0 0 (by decide)).1, q15]
      · unfold stM
        rw [sR_at, upd_ne _ _ (by decide), (m7 0 0 (by decide)).1, q16]
      · rw [(n8 30 0 (by decide)).1, (m7 30 0 (by decide)).1, (k4 30 0 (by decide)).1, t3]; rfl
      · exact XW.eq (M := M7) (fun c a b => n8 c 0 (by omega)) ⟨C7, H7, N7, W7⟩
    · rw [(n8 c i (by omega)).1, (n8 c i (by omega)).2, (m7 c i (by omega)).1, (m7 c i (by omega)).2, (k4 c i (by omega)).1, (k4 c i (by omega)).2]
      exact m3 c i (by omega) (by omega) (by omega)
