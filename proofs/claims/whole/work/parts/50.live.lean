/-! ===== calls on both: live ===== -/
def L0 (A : Ha) (sd : Int32) : Lf := (A, (fun j => if j = 0 then sd else 0), 0, 0)
set_option maxHeartbeats 600000 in
theorem rowT_00 (w : Wk) : rowT w 0 0 = 0 := rfl
set_option maxHeartbeats 600000 in
theorem rowT_0N {K : Co} {w : Wk} (okw : OKK K w) : rowT w 0 (w.1 1) = lenW w := by
  unfold rowT lenW
  congr 1
  refine cntR_congr _ 0 (fun j _ hj => ?_)
  have h2 : w.1 (100 + j) ≤ w.1 1 := (okw.2.2.2 j (by omega)).2.2.1
  cases hb : isBl w j with
  | false => rfl
  | true =>
    rw [Bool.true_and]
    simp only [Bool.or_eq_true, Bool.and_eq_true, decide_eq_true_eq]
    omega
set_option maxHeartbeats 600000 in
theorem X4_run_sp {M : Mem} {K : Co} {w : Wk} {i0 h : Nat} {A : Ha} {sd : Int32} (ok : OKC K) (okw : OKK K w) (hh : h = 0 ∨ 4 ≤ h) (o : okL K A) (rc : RepC M 0 K) (rw_ : WkXR (fun c => M.1 c 0) w) (rh : RepH M h A) :
    ∃ M', f_X4_run i0 0 h sd M = some M' ∧ LfX M' K w i0 h (runS K w 40 0 (w.1 1) (L0 A sd)) ∧ LOK K (runS K w 40 0 (w.1 1) (L0 A sd)) ∧ RFr i0 h 0 M M' := by
  have hN := okw.2.1
  obtain ⟨M7, e7, x7, f7⟩ : ∃ M7, f_X4_run i0 0 h sd M = f_X4_run_47 i0 0 h 0 FU (0 : Int32) (0 : Int32) M7 ∧ LfX M7 K w i0 h (L0 A sd) ∧ RFr i0 h 0 M M7 := by
    have F : RFr i0 h 0 M _ := (((((((RFr.p44 (q := 1) (v := sd)).tr (RFr.p44 (q := 2) (v := 0))).tr (RFr.p44 (q := 3) (v := 0))).tr (RFr.p44 (q := 4) (v := 0))).tr (RFr.p44 (q := 5) (v := 0))).tr (RFr.p44 (q := 6) (v := 0))).tr (RFr.p44 (q := 7) (v := 0)))
    refine ⟨_, rfl, ?_, F⟩
    have cw := F.CW hh rc rw_
    refine ⟨cw.1, cw.2, DFr.H (DFr.H (DFr.H (DFr.H (DFr.H (DFr.H (DFr.H rh)))))), ⟨?_, ?_, ?_, ?_, ?_⟩, ?_, ?_⟩
    · rw [sR_at, upd_ne _ _ (by decide), sR_at, upd_ne _ _ (by decide), sR_at, upd_ne _ _ (by decide), sR_at, upd_ne _ _ (by decide), sR_at, upd_ne _ _ (by decide), sR_at, upd_ne _ _ (by decide), sR_at, upd_at]; rfl
    · rw [sR_at, upd_ne _ _ (by decide), sR_at, upd_ne _ _ (by decide), sR_at, upd_ne _ _ (by decide), sR_at, upd_ne _ _ (by decide), sR_at, upd_at]; rfl
    · rw [sR_at, upd_ne _ _ (by decide), sR_at, upd_ne _ _ (by decide), sR_at, upd_ne _ _ (by decide), sR_at, upd_at]; rfl
    · rw [sR_at, upd_ne _ _ (by decide), sR_at, upd_ne _ _ (by decide), sR_at, upd_at]; rfl
    · rw [sR_at, upd_ne _ _ (by decide), sR_at, upd_at]; rfl
    · rw [sR_at, upd_ne _ _ (by decide), sR_at, upd_ne _ _ (by decide), sR_at, upd_ne _ _ (by decide), sR_at, upd_ne _ _ (by decide), sR_at, upd_ne _ _ (by decide), sR_at, upd_at]; rfl
    · rw [sR_at, upd_at]; rfl
  have hFU : 200000 ≤ FU := Nat.le_of_lt (lt_FU (by decide))
  obtain ⟨o1, -, M1, x1, f1, r⟩ := run_x (i0 := i0) (h := h) ok okw hh 40 0 (w.1 1) M7 (L0 A sd) FU 0 (by omega) (Nat.zero_le _) (Nat.le_refl _) (fun d h => by omega) (fun e _ he => (okw.2.2.2 e he).2.2.1) x7 ⟨o, Nat.zero_le _⟩ rfl (by show 0 + 100 * (300 - 0) ≤ 100000; omega) (by omega)
  refine ⟨M1, ?_, x1, o1, f7.tr (f1.le (Nat.zero_le _))⟩
  rw [e7]
  rcases r with ⟨z, fu', t', g1, g2, g3⟩ | ⟨z, g1⟩
  · have ho := o1.2
    have g3 : t' + 100 * 0 ≤ 0 + 0 + 100 * (runS K w 40 0 (w.1 1) (L0 A sd)).2.2.1 := g3
    obtain ⟨fu2, rfl⟩ : ∃ fu2, fu' = fu2 + 1 := ⟨fu' - 1, by omega⟩
    have hll : lenW w ≤ 60 := by
      unfold lenW
      have := cntR_le (isBl w) (w.1 1) 0
      omega
    rw [rowT_0N okw] at g1
    refine (show f_X4_run_47 i0 0 h 0 FU (0 : Int32) (0 : Int32) M7 = _ from g1).trans ?_
    unfold goX
    rw [f_X4_run_47, if_pos (show nI t' < (1000000 : Int32) from by show _ < nI 1000000; rw [lt_nI (by omega) (by omega)]; omega), show M1.1 23 0 6 = nI (lenW w) from x1.2.1.2.2.1, if_neg (by rw [lt_nI (by omega) (by omega)]; omega)]
  · exact g1
set_option maxHeartbeats 600000 in
theorem X11_runs_sp {M : Mem} {K : Co} {w : Wk} {A : Ha} {sd : Int32} (ok : OKC K) (okw : OKK K w) (o : okL K A) (rc : RepMC (M.1 55 0) K) (wm : WkM (M.1 55 0) w) (rh : RepMH (M.1 55 0) K A) :
    ∃ M', f_X11_runs sd M = some M' ∧ LfM M' K w (runS K w 40 0 (w.1 1) (L0 A sd)) ∧ LOK K (runS K w 40 0 (w.1 1) (L0 A sd)) ∧ GFr M M' := by
  have hN := okw.2.1
  obtain ⟨M8, e8, x8, f8⟩ : ∃ M8, f_X11_runs sd M = (f_X11_doAll 40 (0 : Int32) (M8.1 55 0 199) M8).bind (fun M9 => some M9) ∧ LfM M8 K w (L0 A sd) ∧ GFr M M8 := by
    have F : GFr M _ := ((((((((GFr.put (p := 39) (v := sd) (by decide)).tr (GFr.put (p := 40) (v := 0) (by decide))).tr (GFr.put (p := 41) (v := 0) (by decide))).tr (GFr.put (p := 42) (v := 0) (by decide))).tr (GFr.put (p := 43) (v := 0) (by decide))).tr (GFr.put (p := 44) (v := 0) (by decide))).tr (GFr.put (p := 45) (v := 0) (by decide))).tr (GFr.put (p := 38) (v := 0) (by decide)))
    refine ⟨_, rfl, ?_, F⟩
    refine ⟨?_, ?_, ?_, ⟨?_, ?_, ?_, ?_, ?_⟩, ?_, ?_, ?_⟩
    · simp only [put55]; exact rc
    · simp only [put55]; exact wm
    · simp only [put55]; exact rh
    · rw [sR_at, upd_ne _ _ (by decide), sR_at, upd_ne _ _ (by decide), sR_at, upd_ne _ _ (by decide), sR_at, upd_ne _ _ (by decide), sR_at, upd_ne _ _ (by decide), sR_at, upd_ne _ _ (by decide), sR_at, upd_ne _ _ (by decide), sR_at, upd_at]; rfl
    · rw [sR_at, upd_ne _ _ (by decide), sR_at, upd_ne _ _ (by decide), sR_at, upd_ne _ _ (by decide), sR_at, upd_ne _ _ (by decide), sR_at, upd_ne _ _ (by decide), sR_at, upd_at]; rfl
    · rw [sR_at, upd_ne _ _ (by decide), sR_at, upd_ne _ _ (by decide), sR_at, upd_ne _ _ (by decide), sR_at, upd_ne _ _ (by decide), sR_at, upd_at]; rfl
    · rw [sR_at, upd_ne _ _ (by decide), sR_at, upd_ne _ _ (by decide), sR_at, upd_ne _ _ (by decide), sR_at, upd_at]; rfl
    · rw [sR_at, upd_ne _ _ (by decide), sR_at, upd_ne _ _ (by decide), sR_at, upd_at]; rfl
    · rw [sR_at, upd_ne _ _ (by decide), sR_at, upd_ne _ _ (by decide), sR_at, upd_ne _ _ (by decide), sR_at, upd_ne _ _ (by decide), sR_at, upd_ne _ _ (by decide), sR_at, upd_ne _ _ (by decide), sR_at, upd_at]; rfl
    · rw [sR_at, upd_at]; rfl
    · rw [sR_at, upd_ne _ _ (by decide), sR_at, upd_at]; rfl
  obtain ⟨M9, e9, x9, o9, f9⟩ := run_m ok okw 40 0 (w.1 1) M8 (L0 A sd) (by omega) (Nat.zero_le _) (Nat.le_refl _) x8 ⟨o, Nat.zero_le _⟩
  refine ⟨M9, ?_, x9, o9, f8.tr f9⟩
  rw [e8, x8.2.1.2.1, show f_X11_doAll 40 (0 : Int32) (nI (w.1 1)) M8 = some M9 from e9]
  rfl
def lvS (L : Lf) : Nat → Int32 := fun j => if j = 4 then (if L.2.2.2 = 2 then 1 else 0) else L.2.1 (j + 1)
set_option maxHeartbeats 600000 in
theorem RX.lv {s : Sy} {M M' : Mem} {A : Ha} {g : Nat → Int32} (f2 : M'.2 = M.2) (f1 : ∀ c i, ¬ (c = 0 ∧ i = 0) → ¬ ((c = 44 ∨ c = 45) ∧ i = 0) → ¬ (i = 0 ∧ (c = 20 ∨ c = 21 ∨ c = 22)) → M'.1 c i = M.1 c i) (h0 : ∀ j, ¬ j = 12 → ¬ j = 14 → M'.1 0 0 j = M.1 0 0 j) (h12 : M'.1 0 0 12 = 1) (h14 : M'.1 0 0 14 = 0) (r : RepH M' 0 A) (hg : ∀ j, j < 5 → M'.1 44 0 (3 + j) = g j) (h : RX s M) : RX (setSc (setLv (setHa s A) (true, g)) 0 0) M' ∧ onX M M' := by
  obtain ⟨⟨a1, a2, a3, a4⟩, ⟨b1, b2⟩, ⟨t1, t2⟩, tr, ⟨w1, w2, w3, w4⟩, ⟨m1, m2⟩, ⟨o1, o2⟩, ⟨l1, l2⟩, rs⟩ := h
  have e : ∀ c, ¬ c = 0 → ¬ (c = 44 ∨ c = 45) → ¬ (c = 20 ∨ c = 21 ∨ c = 22) → M'.1 c 0 = M.1 c 0 := fun c n1 n2 n3 => f1 c 0 (fun z => n1 z.1) (fun z => n2 z.1) (fun z => n3 z.2)
  refine ⟨⟨⟨h14, by rw [h0 15 (by decide) (by decide)]; exact a2, by rw [h0 16 (by decide) (by decide)]; exact a3, by rw [e 36 (by decide) (by decide) (by decide)]; exact a4⟩, ⟨by rw [f2]; exact b1, by rw [f2]; exact b2⟩, ⟨by rw [e 30 (by decide) (by decide) (by decide)]; exact t1, fun j hj => by rw [e 31 (by decide) (by decide) (by decide)]; exact t2 j hj⟩,
    fun t ht => ⟨by rw [e 5 (by decide) (by decide) (by decide)]; exact (tr t ht).1, by rw [e 6 (by decide) (by decide) (by decide)]; exact (tr t ht).2.1, fun j hj => by rw [f2]; exact (tr t ht).2.2 j hj⟩, ⟨RepCR.congr (fun c h1 h2 => e c (by omega) (by omega) (by omega)) w1, r, by rw [f2]; exact w3, WkXR.congr (fun c h1 h2 => e c (by omega) (by omega) (by omega)) w4⟩,
    ⟨by rw [h0 13 (by decide) (by decide)]; exact m1, fun k h1 h2 => XW.eq (M := M) (fun c h3 h4 => ⟨f1 c k (by omega) (by omega) (by omega), by rw [f2]⟩) (m2 k h1 h2)⟩, ⟨by rw [e 36 (by decide) (by decide) (by decide)]; exact o1, fun k hk => by rw [e 42 (by decide) (by decide) (by decide)]; exact o2 k hk⟩, ⟨h12, fun _ j hj => hg j hj⟩, fun i hi => by rw [f2]; exact rs i hi⟩, fun c i z => ⟨f1 c i (by omega) (by omega) (by omega), by rw [f2]⟩⟩
set_option maxHeartbeats 600000 in
theorem RM.lv {s : Sy} {M M' : Mem} {A : Ha} {g : Nat → Int32} (o : OKS s) (f2 : M'.2 = M.2) (f1 : ∀ c i, ¬ ((c = 50 ∨ c = 55 ∨ c = 63) ∧ i = 0) → M'.1 c i = M.1 c i) (f55 : ∀ j, ¬ hallIx j → M'.1 55 0 j = M.1 55 0 j) (f50 : ∀ j, ¬ (37 ≤ j ∧ j ≤ 45) → M'.1 50 0 j = M.1 50 0 j) (h37 : M'.1 50 0 37 = 1) (r : RepMH (M'.1 55 0) (sWo s).1 A) (hg : ∀ j, j < 5 → M'.1 63 0 j = g j) (h : RM s M) : RM (setLv (setHa s A) (true, g)) M' ∧ onM M M' := by
  obtain ⟨⟨a1, a2, a3, a4⟩, ⟨b1, b2⟩, ⟨t1, t2⟩, tr, ⟨w1, w2, w3, w4⟩, ⟨m1, m2⟩, ⟨o1, o2⟩, ⟨l1, l2⟩⟩ := h
  have e : ∀ c, ¬ (c = 50 ∨ c = 55 ∨ c = 63) → M'.1 c 0 = M.1 c 0 := fun c hc => f1 c 0 (fun z => hc z.1)
  refine ⟨⟨⟨by rw [f50 0 (by decide)]; exact a1, by rw [f50 10 (by decide)]; exact a2, by rw [f50 11 (by decide)]; exact a3, by rw [f50 31 (by decide)]; exact a4⟩, ⟨by rw [f2]; exact b1, by rw [f2]; exact b2⟩, ⟨by rw [f50 8 (by decide)]; exact t1, fun j hj => by rw [e 54 (by decide)]; exact t2 j hj⟩,
    fun t ht => ⟨by rw [e 52 (by decide)]; exact (tr t ht).1, by rw [e 51 (by decide)]; exact (tr t ht).2.1, fun j hj => by rw [f2]; exact (tr t ht).2.2 j hj⟩, ⟨w1.fr o.2.2.1.1 f55, r, by rw [f2]; exact w3, w4.eq o.2.2.1.2.2.2.2.2.2.2.2.1 (fun j h1 h2 => f55 j (by unfold hallIx; omega))⟩,
    ⟨by rw [f50 23 (by decide)]; exact m1, fun k h1 h2 => ?_⟩, ⟨by rw [f50 30 (by decide)]; exact o1, fun k hk => by rw [e 60 (by decide)]; exact o2 k hk⟩, ⟨h37, fun _ j hj => hg j hj⟩⟩, fun c i z => ⟨f1 c i (by omega), by rw [f2]⟩⟩
  have h2 : k ≤ (sMk s).1 := h2
  exact (m2 k h1 h2).eq (o.2.2.2.1.2 k h1 h2) (fun j hj => f55 _ (by unfold hallIx; omega)) (fun j hj => by rw [f2])
set_option maxHeartbeats 600000 in
theorem OKS.K {s : Sy} (o : OKS s) : OKK (sWo s).1 (sWo s).2.2.2 := o.2.2.1.2.2.2.2.2.2.2
set_option maxHeartbeats 600000 in
theorem OKS.L {s : Sy} (o : OKS s) : okL (sWo s).1 (sWo s).2.1 := ⟨o.2.2.1.2.1, o.2.2.1.2.2.1, o.2.2.1.2.2.2.1, o.2.2.1.2.2.2.2.1, o.2.2.1.2.2.2.2.2.1, o.2.2.1.2.2.2.2.2.2.1⟩
set_option maxHeartbeats 600000 in
theorem RX.W {s : Sy} {M : Mem} (h : RX s M) : WkXR (fun c => M.1 c 0) (sWo s).2.2.2 := h.2.2.2.2.1.2.2.2
set_option maxHeartbeats 600000 in
theorem RM.W {s : Sy} {M : Mem} (h : RM s M) : WkM (M.1 55 0) (sWo s).2.2.2 := h.2.2.2.2.1.2.2.2
set_option maxHeartbeats 600000 in
theorem seed_t {n : Nat} (h : n < 10000) : f_X10_isNoSeed (nI n) = some 0 := by
  unfold f_X10_isNoSeed
  rw [if_neg (nI_pos (by omega)), if_neg (by show ¬ nI 9999 < nI n; rw [lt_nI (by decide) (by omega)]; omega)]
set_option maxHeartbeats 600000 in
theorem seed_f {x : Int32} (h : x < 0 ∨ ¬ x < nI 10000) : f_X10_isNoSeed x = some 1 := by
  unfold f_X10_isNoSeed
  by_cases c : x < 0
  · rw [if_pos c]
  · rw [if_neg c, if_pos (show (9999 : Int32) < x from big_of (n := 9999) (by decide) h c)]
set_option maxHeartbeats 600000 in
theorem step_live {s : Sy} (o : OKS s) (x : Int32) : Step s (f_X10_live x) (f_X11_live x) := by
  have h01 : (sWo s).2.2.2.1 0 ≤ 1 := o.K.1
  have ex : ∀ M, RX s M → M.1 23 0 8 = nI ((sWo s).2.2.2.1 0) := fun M h => h.W.1
  have em : ∀ M, RM s M → (mR M).1 55 0 198 = nI ((sWo s).2.2.2.1 0) := fun M h => (h.r o).W.1
  rcases arg_in x (n := 10000) (by decide) with ⟨sd, hsd, rfl⟩ | hx
  · by_cases c : (sWo s).2.2.2.1 0 = 0
    · refine step_no o 8 (fun M h => ?_) (fun M h => ?_)
      · unfold f_X10_live
        rw [seed_t hsd, Option.bind_some, if_pos rfl, ex M h, if_pos (by rw [c]; rfl)]
        rfl
      · unfold f_X11_live
        simp only [mR_e]
        rw [isIn_t0 (n := 10000) (by decide) (by decide) hsd, Option.bind_some, if_neg (by decide)]
        refine (if_pos ?_).trans rfl
        rw [em M h, c]; rfl
    · have hX : ∀ M, RX s M → ∃ M', f_X4_run 0 0 0 (nI sd) M = some M' ∧ LfX M' (sWo s).1 (sWo s).2.2.2 0 0 (runS (sWo s).1 (sWo s).2.2.2 40 0 ((sWo s).2.2.2.1 1) (L0 (sWo s).2.1 (nI sd))) ∧ LOK (sWo s).1 (runS (sWo s).1 (sWo s).2.2.2 40 0 ((sWo s).2.2.2.1 1) (L0 (sWo s).2.1 (nI sd))) ∧ RFr 0 0 0 M M' := fun M h => X4_run_sp o.C o.K (Or.inl rfl) o.L h.C h.W h.H
      have hM : ∀ M, RM s M → ∃ M', f_X11_runs (nI sd) (mR M) = some M' ∧ LfM M' (sWo s).1 (sWo s).2.2.2 (runS (sWo s).1 (sWo s).2.2.2 40 0 ((sWo s).2.2.2.1 1) (L0 (sWo s).2.1 (nI sd))) ∧ LOK (sWo s).1 (runS (sWo s).1 (sWo s).2.2.2 40 0 ((sWo s).2.2.2.1 1) (L0 (sWo s).2.1 (nI sd))) ∧ GFr (mR M) M' := fun M h => X11_runs_sp o.C o.K o.L (h.r o).C (h.r o).W (h.r o).H
      generalize runS (sWo s).1 (sWo s).2.2.2 40 0 ((sWo s).2.2.2.1 1) (L0 (sWo s).2.1 (nI sd)) = L at *
      by_cases hL : LOK (sWo s).1 L
      · refine step_of (nI L.2.2.1) (setSc (setLv (setHa s L.1) (true, lvS L)) 0 0) ?_ (fun M h => ?_) (fun M h => ?_)
        · obtain ⟨q1, q2, q3, q4, q5, q6⟩ := hL.1
          have oh := o.ha q1 q2 q3 q4 q5 q6
          refine ⟨oh.1, oh.2.1, oh.2.2.1, oh.2.2.2.1, oh.2.2.2.2.1, oh.2.2.2.2.2.1, oh.2.2.2.2.2.2.1, oh.2.2.2.2.2.2.2.1, fun _ => ?_⟩
          show (if (4 : Nat) = 4 then (if L.2.2.2 = 2 then (1 : Int32) else 0) else L.2.1 (4 + 1)) = 0 ∨ (if (4 : Nat) = 4 then (if L.2.2.2 = 2 then (1 : Int32) else 0) else L.2.1 (4 + 1)) = 1
          rw [if_pos rfl]
          by_cases z : L.2.2.2 = 2
          · rw [if_pos z]; exact Or.inr rfl
          · rw [if_neg z]; exact Or.inl rfl
        · obtain ⟨M2, e2, x2, -, f2⟩ := hX M h
          obtain ⟨x1, x2', x3, x4, x5, x6⟩ := x2
          have g : ∀ c i, ¬ (c = 0 ∧ i = 0) → (stM (sR M2 0 0 (upd (M2.1 0 0) 12 (1 : Int32))) 0).1 c i = M2.1 c i := by
            intro c i z
            unfold stM
            rw [sR_ne _ _ _ _ z, sR_ne _ _ _ _ z]
          have f00 : M2.1 0 0 = M.1 0 0 := f2.2.1 0 0 (by decide) (by decide)
          refine ⟨stM (sR M2 0 0 (upd (M2.1 0 0) 12 (1 : Int32))) 0, ?_, h.lv (f2.1) (fun c i n1 n2 n3 => (g c i n1).trans (f2.2.1 c i n2 n3)) (fun j n1 n2 => ?_) ?_ (stM_at _ _) ?_ (fun j hj => ?_)⟩
          · unfold f_X10_live
            rw [seed_t hsd, Option.bind_some, if_pos rfl, ex M h, if_neg (by rw [nI_z (by omega)]; exact c), e2, Option.bind_some]
            simp only
            rw [sR_ne _ _ _ _ (by decide), x5, X10_answer_e]
            rfl
          · unfold stM
            rw [sR_at, upd_ne _ _ n2, sR_at, upd_ne _ _ n1, f00]
          · unfold stM
            rw [sR_at, upd_ne _ _ (by decide), sR_at, upd_at]
          · unfold RepH
            rw [g 20 0 (by decide), g 21 0 (by decide), g 22 0 (by decide)]
            exact x3
          · rw [g 44 0 (by decide)]
            match j, hj with
            | 0, _ => exact x4.2.1
            | 1, _ => exact x4.2.2.1
            | 2, _ => exact x4.2.2.2.1
            | 3, _ => exact x4.2.2.2.2
            | 4, _ => exact x6
        · obtain ⟨M4, e4, x4, -, f4⟩ := hM M h
          obtain ⟨y1, y2, y3, y4, y5, y6, y7⟩ := x4
          have f50 := f4.2.2.2
          have e63 : ∀ (M : Mem) (p : Nat) (v : Int32), (sR M 63 0 (upd (M.1 63 0) p v)).1 50 0 = M.1 50 0 := fun M p v => sR_ne _ _ _ _ (by decide)
          have r1 := (h.r o).lv (s := setSc s 0 0) (A := L.1) (g := lvS L) (o.sc 0) (M' := sR (sR (sR (sR (sR (sR M4 63 0 (upd (M4.1 63 0) 0 (M4.1 50 0 41))) 63 0 (upd ((sR M4 63 0 (upd (M4.1 63 0) 0 (M4.1 50 0 41))).1 63 0) 1 (M4.1 50 0 42))) 63 0 (upd ((sR (sR M4 63 0 (upd (M4.1 63 0) 0 (M4.1 50 0 41))) 63 0 (upd ((sR M4 63 0 (upd (M4.1 63 0) 0 (M4.1 50 0 41))).1 63 0) 1 (M4.1 50 0 42))).1 63 0) 2 (M4.1 50 0 43))) 63 0 (upd ((sR (sR (sR M4 63 0 (upd (M4.1 63 0) 0 (M4.1 50 0 41))) 63 0 (upd ((sR M4 63 0 (upd (M4.1 63 0) 0 (M4.1 50 0 41))).1 63 0) 1 (M4.1 50 0 42))) 63 0 (upd ((sR (sR M4 63 0 (upd (M4.1 63 0) 0 (M4.1 50 0 41))) 63 0 (upd ((sR M4 63 0 (upd (M4.1 63 0) 0 (M4.1 50 0 41))).1 63 0) 1 (M4.1 50 0 42))).1 63 0) 2 (M4.1 50 0 43))).1 63 0) 3 (M4.1 50 0 44))) 63 0 (upd ((sR (sR (sR (sR M4 63 0 (upd (M4.1 63 0) 0 (M4.1 50 0 41))) 63 0 (upd ((sR M4 63 0 (upd (M4.1 63 0) 0 (M4.1 50 0 41))).1 63 0) 1 (M4.1 50 0 42))) 63 0 (upd ((sR (sR M4 63 0 (upd (M4.1 63 0) 0 (M4.1 50 0 41))) 63 0 (upd ((sR M4 63 0 (upd (M4.1 63 0) 0 (M4.1 50 0 41))).1 63 0) 1 (M4.1 50 0 42))).1 63 0) 2 (M4.1 50 0 43))) 63 0 (upd ((sR (sR (sR M4 63 0 (upd (M4.1 63 0) 0 (M4.1 50 0 41))) 63 0 (upd ((sR M4 63 0 (upd (M4.1 63 0) 0 (M4.1 50 0 41))).1 63 0) 1 (M4.1 50 0 42))) 63 0 (upd ((sR (sR M4 63 0 (upd (M4.1 63 0) 0 (M4.1 50 0 41))) 63 0 (upd ((sR M4 63 0 (upd (M4.1 63 0) 0 (M4.1 50 0 41))).1 63 0) 1 (M4.1 50 0 42))).1 63 0) 2 (M4.1 50 0 43))).1 63 0) 3 (M4.1 50 0 44))).1 63 0) 4 (M4.1 50 0 45))) 50 0 (upd (M4.1 50 0) 37 (1 : Int32))) f4.1 (fun c i n => by
            rw [sR_ne _ _ _ _ (by omega), sR_ne _ _ _ _ (by omega), sR_ne _ _ _ _ (by omega), sR_ne _ _ _ _ (by omega), sR_ne _ _ _ _ (by omega), sR_ne _ _ _ _ (by omega)]
            exact f4.2.1 c i (by omega)) (fun j hj => by
            rw [sR_ne _ _ _ _ (by decide), sR_ne _ _ _ _ (by decide), sR_ne _ _ _ _ (by decide), sR_ne _ _ _ _ (by decide), sR_ne _ _ _ _ (by decide), sR_ne _ _ _ _ (by decide)]
            exact f4.2.2.1 j hj) (fun j hj => by
            rw [sR_at, upd_ne _ _ (by omega)]
            exact f50 j (by omega)) (by rw [sR_at, upd_at]) (by
            rw [sR_ne _ _ _ _ (by decide), sR_ne _ _ _ _ (by decide), sR_ne _ _ _ _ (by decide), sR_ne _ _ _ _ (by decide), sR_ne _ _ _ _ (by decide), sR_ne _ _ _ _ (by decide)]
            exact y3) (fun j hj => by
            rw [sR_ne _ _ _ _ (by decide), sR_at]
            match j, hj with
            | 0, _ => rw [upd_ne _ _ (by decide), sR_at, upd_ne _ _ (by decide), sR_at, upd_ne _ _ (by decide), sR_at, upd_ne _ _ (by decide), sR_at, upd_at]; exact y4.2.1
            | 1, _ => rw [upd_ne _ _ (by decide), sR_at, upd_ne _ _ (by decide), sR_at, upd_ne _ _ (by decide), sR_at, upd_at]; exact y4.2.2.1
            | 2, _ => rw [upd_ne _ _ (by decide), sR_at, upd_ne _ _ (by decide), sR_at, upd_at]; exact y4.2.2.2.1
            | 3, _ => rw [upd_ne _ _ (by decide), sR_at, upd_at]; exact y4.2.2.2.2
            | 4, _ => rw [upd_at]; exact y7)
          refine ⟨_, ?_, r1.1, (mR_Q M).on.tr r1.2⟩
          unfold f_X11_live
          simp only [mR_e]
          rw [isIn_t0 (n := 10000) (by decide) (by decide) hsd, Option.bind_some, if_neg (by decide)]
          refine (if_neg ?_).trans ?_
          · rw [em M h, nI_z (by omega)]; exact c
          · rw [e4, Option.bind_some]
            simp only [e63]
            rw [sR_at, upd_ne _ _ (by decide), y5]
      · intro M h1 h2
        obtain ⟨-, -, -, t, -⟩ := hX M h1
        exact absurd t hL
  · refine step_no o 5 (fun M h => ?_) (fun M h => ?_)
    · unfold f_X10_live
      rw [seed_f hx]
      rfl
    · unfold f_X11_live
      simp only [mR_e]
      rw [isIn_f0 (n := 10000) (by decide) (by decide) hx]
      rfl
