/-! ===== weeks on the reference, whole; weeks on both ===== -/
theorem GM.cg2 {M M' : Mem} {P : Nat → Int32} {n : Nat} {t : Tk} (e1 : ∀ j, j ≤ 18 → M'.1 50 0 j = M.1 50 0 j) (e2 : M'.1 54 0 = M.1 54 0) (e3 : M'.2 50 0 = M.2 50 0) (h : GM P n M t) : GM P n M' t := by
  obtain ⟨⟨a1, a2, a3⟩, ⟨b1, b2, b3, b4, b5⟩, w, g⟩ := h
  refine ⟨⟨by rw [e1 9 (by decide)]; exact a1, by rw [e2]; exact a2, a3⟩, ⟨by rw [e1 15 (by decide)]; exact b1, by rw [e1 16 (by decide)]; exact b2, by rw [e1 14 (by decide)]; exact b3, ?_, ?_⟩, w, by rw [e1 12 (by decide)]; exact g⟩
  · rw [e1 18 (by decide), e3]; exact b4
  · rw [e1 17 (by decide)]; exact b5
theorem repMC_lo {c c' : Nat → Int32} {K : Co} (ok : OKC K) (e : ∀ j, j < 198 → c' j = c j) (h : RepMC c K) : RepMC c' K := by
  obtain ⟨k0, k1, k2, k3, -⟩ := ok
  obtain ⟨r1, r2, r3, r4, r5, r6, r7, r8⟩ := h
  refine ⟨fun j hj => ?_, ?_, ?_, fun j hj => ⟨?_, ?_, ?_⟩, fun a b ha hb => ?_, fun p hp => ?_, fun w hw => ⟨?_, ?_⟩, fun q w hq hw => ?_⟩
  · rw [e j (by omega)]; exact r1 j hj
  · rw [e 4 (by omega)]; exact r2
  · rw [e 5 (by omega)]; exact r3
  · rw [e _ (by omega)]; exact (r4 j hj).1
  · rw [e _ (by omega)]; exact (r4 j hj).2.1
  · rw [e _ (by omega)]; exact (r4 j hj).2.2
  · rw [e _ (by omega)]; exact r5 a b ha hb
  · rw [e _ (by omega)]; exact r6 p hp
  · rw [e _ (by omega)]; exact (r7 w hw).1
  · rw [e _ (by omega)]; exact (r7 w hw).2
  · rw [e _ (by omega)]; exact r8 q w hq hw
theorem repMH_lo {c c' : Nat → Int32} {K : Co} {A : Ha} (ok : OKC K) (e : ∀ j, j < 198 → c' j = c j) (h : RepMH c K A) : RepMH c' K A := by
  obtain ⟨k0, k1, k2, k3, -⟩ := ok
  obtain ⟨r1, r2, r3, r4, r5, r6, r7, r8⟩ := h
  refine ⟨?_, ?_, ?_, ?_, ?_, ?_, fun j hj => ?_, fun q hq => ?_⟩
  · rw [e _ (by omega)]; exact r1
  · rw [e _ (by omega)]; exact r2
  · rw [e _ (by omega)]; exact r3
  · rw [e _ (by omega)]; exact r4
  · rw [e _ (by omega)]; exact r5
  · rw [e _ (by omega)]; exact r6
  · rw [e _ (by omega)]; exact r7 j hj
  · rw [e _ (by omega)]; exact r8 q hq
set_option maxHeartbeats 1000000 in
theorem weeks_m {s : Sy} {M : Mem} (o : OKS s) (h : RM s M) {n : Nat} (hn : n ≤ (sTp s).1) (h300 : n ≤ 300) : ∃ M', f_X11_weeks (nI n) M = some (wksA (wkR s n), M') ∧ onM M M' ∧ (∀ f, wkR s n = .inl f → RM (wksS s (.inl f)) M') ∧ ∀ Z, wkR s n = .inr Z → MnE Z (M'.1 55 0) ∧ RM (wksS s (.inr (memW Z (M'.1 55 0)))) M' := by
  have h9 := o.1
  have r := h.r o
  obtain ⟨M3, e3, F3, G3, g8⟩ := starts_m (M := mR M) (lim := 300) (o.by_ hn) hn h9 h300 (by decide) r.P.1 r.P.2
  have n4 : ∀ c i, ¬ (c = 50 ∧ i = 0) → (sR M3 50 0 (upd (M3.1 50 0) 25 0)).1 c i = M3.1 c i := fun c i z => sR_ne _ _ _ _ z
  have j4 : ∀ j, ¬ j = 25 → (sR M3 50 0 (upd (M3.1 50 0) 25 0)).1 50 0 j = M3.1 50 0 j := fun j z => by rw [sR_at, upd_ne _ _ z]
  have x25 : (sR M3 50 0 (upd (M3.1 50 0) 25 0)).1 50 0 25 = 0 := by rw [sR_at, upd_at]
  have l4 : (sR M3 50 0 (upd (M3.1 50 0) 25 0)).2 = M3.2 := rfl
  have key0 : f_X11_weeks (nI n) M = f_X11_weeks_28 FU (sR M3 50 0 (upd (M3.1 50 0) 25 0)) := by
    unfold f_X11_weeks
    simp only [mR_e]
    rw [show f_X11_starts (nI n) (300 : Int32) (mR M) = some (1, M3) from e3, Option.bind_some]
    exact if_neg (show ¬ (1 : Int32) = 0 from by decide)
  generalize sR M3 50 0 (upd (M3.1 50 0) 25 0) = M4 at n4 j4 x25 l4 key0
  have G4 : GM (sTp s).2 n M4 (tokS (sTp s).2 n 0) := G3.cg2 (fun j z => j4 j (by omega)) (n4 54 0 (by decide)) (by rw [l4])
  have N4 : NXm M4 0 (sWo s).1.1 (sWo s).2.2.1 := by
    have := RM.NX0 (s := setSc s 0 0) o r
    intro q hq
    refine ⟨?_, (this q hq).2.1, fun i hi => ?_⟩
    · rw [n4 55 0 (by decide), (F3.1 55 0 (by decide)).1]; exact (this q hq).1
    · rw [l4, (F3.1 57 0 (by decide)).2]; exact (this q hq).2.2 i hi
  have Z4 : ZMq M4 zw0 1000 := ⟨x25, fun s hs => absurd hs (Nat.not_lt_zero _)⟩
  obtain ⟨M6, e6, V6, b6, w6⟩ := mw_loop (K := (sWo s).1) (N := (sWo s).2.2.1) (o.by_ hn) (n + 1) 0 FU (fun _ => 0) M4 (tokS (sTp s).2 n 0) zw0 (by omega) (fun j hj => absurd hj (Nat.not_lt_zero _)) (lt_FU (by omega)) (Nat.zero_le _) tok_mt zok_0 G4 N4 Z4
  have key : f_X11_weeks (nI n) M = f_X11_weeks_50 M6 := key0.trans e6
  rw [key]
  have a1 : ∀ c i, ¬ ((c = 50 ∨ c = 55) ∧ i = 0) → M6.1 c i = M.1 c i := fun c i z => by
    rw [V6.1 c i (by omega) (by omega), n4 c i (by omega), (F3.1 c i (by omega)).1]
    unfold mR
    rw [sR_ne _ _ _ _ (by omega), sR_ne _ _ _ _ (by omega)]
  have a2 : ∀ c i, ¬ (c = 50 ∧ i = 0) → M6.2 c i = M.2 c i := fun c i z => by
    rw [V6.2.1 c i z, l4, (F3.1 c i z).2]; rfl
  have a3 : ∀ j, ¬ j ≤ 1 → ¬ (8 ≤ j ∧ j ≤ 9) → ¬ (12 ≤ j ∧ j ≤ 18) → ¬ j = 25 → M6.1 50 0 j = M.1 50 0 j := fun j x y z w => by
    rw [V6.2.2.1 j z w, j4 j w, F3.2.1 j y z]
    unfold mR
    rw [sR_at, upd_ne _ _ (by omega), sR_at, upd_ne _ _ (by omega)]
  have a0 : M6.1 50 0 0 = 0 := by
    rw [V6.2.2.1 0 (by decide) (by decide), j4 0 (by decide), F3.2.1 0 (by decide) (by decide)]
    exact mR_0 M
  have a8 : M6.1 50 0 8 = nI 0 := by rw [V6.2.2.1 8 (by decide) (by decide), j4 8 (by decide)]; exact g8
  have a4 : ∀ j, ¬ j = 19 → M6.2 50 0 j = M.2 50 0 j := fun j z => by
    rw [V6.2.2.2.1 j z, l4, F3.2.2 j z]; rfl
  have a5 : ∀ j, j < 2100 → M6.1 55 0 j = M.1 55 0 j := fun j hj => by
    rw [V6.2.2.2.2 j hj, n4 55 0 (by decide), (F3.1 55 0 (by decide)).1]
    unfold mR
    rw [sR_ne _ _ _ _ (by decide), sR_ne _ _ _ _ (by decide)]
  show ∃ M', _ = some (wksA (wkR s n), M') ∧ _
  generalize hu : wkR s n = u
  have hu' : weeksR (sTp s).2 n (sWo s).1.1 (sWo s).2.2.1 (n + 1) zw0 (tokS (sTp s).2 n 0) = u := hu
  rw [hu'] at b6 w6
  cases u with
  | inl f =>
    have B6 := b6 f rfl
    have n7 : ∀ c i, ¬ (c = 50 ∧ i = 0) → (smM (wlM M6 f.1 (nI f.2)) 10).1 c i = M6.1 c i := fun c i z => (sR_ne _ _ _ _ z).trans (wlM_ne z)
    have j7 : ∀ j, ¬ j = 0 → (smM (wlM M6 f.1 (nI f.2)) 10).1 50 0 j = (wlM M6 f.1 (nI f.2)).1 50 0 j := fun j z => by
      unfold smM
      rw [sR_at, upd_ne _ _ z]
    refine ⟨smM (wlM M6 f.1 (nI f.2)) 10, ?_, fun c i hc => ⟨?_, ?_⟩, fun g eg => ?_, fun Z ez => by cases ez⟩
    · unfold f_X11_weeks_50
      rw [well_b B6, Option.bind_some]
      exact (if_pos rfl).trans rfl
    · exact (n7 c i (by omega)).trans (a1 c i (by omega))
    · exact a2 c i (by omega)
    · cases eg
      refine RM.tx o (fun c i z => (n7 c i (by omega)).trans (a1 c i z)) (fun c i z => a2 c i (by omega)) (fun j z => ?_) ⟨a4 2 (by decide), a4 3 (by decide)⟩ (smM_at _ _) ?_ ?_ ⟨?_, fun j hj => absurd hj (Nat.not_lt_zero _)⟩ ?_ (fun j x y => ?_) (fun j x y => by rw [show (smM (wlM M6 f.1 (nI f.2)) 10).2 57 0 = M.2 57 0 from a2 57 0 (by decide)]) h
      · rw [j7 j (by omega), wlM_j (by omega)]; exact a3 j (by omega) (by omega) (by omega) (by omega)
      · rw [j7 10 (by decide), wlM_10]
      · rw [j7 11 (by decide), wlM_11]
      · rw [j7 8 (by decide), wlM_j (by decide)]; exact a8
      · refine MW.eq o.2.2.1 (fun j hj => ?_) (fun j hj => by rw [show (smM (wlM M6 f.1 (nI f.2)) 10).2 57 0 = M.2 57 0 from a2 57 0 (by decide)]) h.2.2.2.2.1
        rw [n7 55 0 (by decide)]; exact a5 j (by omega)
      · rw [n7 55 0 (by decide)]; exact a5 j (by omega)
  | inr Z =>
    obtain ⟨z12, zm, zo, zd⟩ := w6 Z rfl
    have hS := zo.1.2.1
    have ok := zok_end zo zd
    have nw : ∀ c i, ¬ (c = 50 ∧ i = 0) → (wlM M6 0 (-1)).1 c i = M6.1 c i := fun c i z => wlM_ne z
    have wj : ∀ j, ¬ (10 ≤ j ∧ j ≤ 11) → (wlM M6 0 (-1)).1 50 0 j = M6.1 50 0 j := fun j z => wlM_j z
    have w10 : (wlM M6 0 (-1)).1 50 0 10 = 0 := wlM_10
    have w11 : (wlM M6 0 (-1)).1 50 0 11 = -1 := wlM_11
    have wl : (wlM M6 0 (-1)).2 = M6.2 := rfl
    have key2 : f_X11_weeks_50 M6 = f_X11_weeks_82 FU 0 (sR (sR (wlM M6 0 (-1)) 55 0 (upd ((wlM M6 0 (-1)).1 55 0) 198 1)) 55 0 (upd ((sR (wlM M6 0 (-1)) 55 0 (upd ((wlM M6 0 (-1)).1 55 0) 198 1)).1 55 0) 199 (nI (Z.1.1 1)))) := by
      unfold f_X11_weeks_50
      rw [well_g z12, Option.bind_some]
      refine (if_neg (show ¬ (1 : Int32) = 0 from by decide)).trans ?_
      simp only
      rw [show (sR (wlM M6 0 (-1)) 55 0 (upd ((wlM M6 0 (-1)).1 55 0) 198 1)).1 50 0 25 = nI (Z.1.1 1) from (by rw [sR_ne _ _ _ _ (by decide), wj 25 (by decide)]; exact zm.1)]
    generalize wlM M6 0 (-1) = Mw at nw wj w10 w11 wl key2
    obtain ⟨M7, e7, n7, v7, l7⟩ : ∃ M7 : Mem, sR (sR Mw 55 0 (upd (Mw.1 55 0) 198 1)) 55 0 (upd ((sR Mw 55 0 (upd (Mw.1 55 0) 198 1)).1 55 0) 199 (nI (Z.1.1 1))) = M7 ∧ (∀ c i, ¬ (c = 55 ∧ i = 0) → M7.1 c i = Mw.1 c i) ∧ M7.1 55 0 = upd (upd (Mw.1 55 0) 198 1) 199 (nI (Z.1.1 1)) ∧ M7.2 = Mw.2 := by
      refine ⟨_, rfl, fun c i z => ?_, ?_, rfl⟩
      · rw [sR_ne _ _ _ _ z, sR_ne _ _ _ _ z]
      · rw [sR_at, sR_at]
    rw [e7] at key2
    obtain ⟨M8, k1, k2, k3, k4, k5⟩ := cp82 hS (9 * Z.1.1 1) 0 FU M7 (by omega) (lt_FU (by omega)) (by rw [n7 50 0 (by decide), wj 25 (by decide)]; exact zm.1)
    have c55 : ∀ j, ¬ (198 ≤ j ∧ j < 200 + 9 * Z.1.1 1) → M8.1 55 0 j = M6.1 55 0 j := fun j hj => by
      rw [k5 j (by omega), v7, upd_ne _ _ (by omega), upd_ne _ _ (by omega), nw 55 0 (by decide)]
    have cst : ∀ s, s < Z.1.1 1 → ∀ j, j ≤ 8 → M8.1 55 0 (200 + 9 * s + j) = M6.1 55 0 (2100 + 9 * s + j) := fun s hs j hj => by
      rw [show 200 + 9 * s + j = 200 + (9 * s + j) by omega, k4 (9 * s + j) (Nat.zero_le _) (by omega), show 2100 + (9 * s + j) = 2100 + 9 * s + j by omega, v7, upd_ne _ _ (by omega), upd_ne _ _ (by omega), nw 55 0 (by decide)]
    have mn : MnE Z (M8.1 55 0) := fun s hs => by
      have e := (zm.2 s hs).2.1
      have c := cst s hs
      unfold RsM at e ⊢
      rw [c 1 (by decide), c 2 (by decide), c 6 (by decide), c 7 (by decide)]
      exact e
    have z50 : M8.1 50 0 = Mw.1 50 0 := by rw [k3 50 0 (by decide), n7 50 0 (by decide)]
    have l8 : M8.2 = M6.2 := by rw [k2, l7, wl]
    refine ⟨M8, ?_, fun c i hc => ⟨?_, ?_⟩, fun g eg => (by cases eg), fun Z' ez => ?_⟩
    · rw [key2, show (0 : Int32) = nI 0 from rfl, k1]; rfl
    · rw [k3 c i (by omega), n7 c i (by omega), nw c i (by omega)]; exact a1 c i (by omega)
    · rw [l8]; exact a2 c i (by omega)
    · cases ez
      refine ⟨mn, RM.tx o (fun c i z => ?_) (fun c i z => ?_) (fun j z => ?_) ?_ ?_ ?_ ?_ ⟨?_, fun j hj => absurd hj (Nat.not_lt_zero _)⟩ ?_ (fun j x y => ?_) (fun j x y => ?_) h⟩
      · rw [k3 c i (by omega), n7 c i (by omega), nw c i (by omega)]; exact a1 c i z
      · rw [l8]; exact a2 c i (by omega)
      · rw [z50, wj j (by omega)]; exact a3 j (by omega) (by omega) (by omega) (by omega)
      · rw [l8]; exact ⟨a4 2 (by decide), a4 3 (by decide)⟩
      · rw [z50, wj 0 (by decide)]; exact a0
      · rw [z50]; exact w10
      · rw [z50]; exact w11
      · rw [z50, wj 8 (by decide)]; exact a8
      · obtain ⟨m1, m2, m3, -⟩ := h.2.2.2.2.1
        have e : ∀ j, j < 198 → M8.1 55 0 j = M.1 55 0 j := fun j hj => by rw [c55 j (by omega)]; exact a5 j (by omega)
        refine ⟨?_, ?_, ?_, ?_⟩
        · exact repMC_lo o.2.2.1.1 (fun j hj => e j hj) m1
        · exact repMH_lo o.2.2.1.1 (fun j hj => e j hj) m2
        · rw [l8, a2 57 0 (by decide)]; exact m3
        · refine ⟨?_, ?_, fun s hs => ?_⟩
          · show M8.1 55 0 198 = nI (Z.1.1 0)
            rw [k5 198 (by omega), v7, upd_ne _ _ (by decide), upd_at, zo.1.1]; rfl
          · show M8.1 55 0 199 = nI (Z.1.1 1)
            rw [k5 199 (by omega), v7, upd_at]
          · obtain ⟨q1, q2, q3⟩ := zm.2 s hs
            refine ⟨?_, ?_, ?_, ?_, ?_, ?_⟩
            case refine_2 =>
              show M8.1 55 0 (201 + 9 * s) = M8.1 55 0 (200 + 9 * s + 1)
              rw [show 201 + 9 * s = 200 + 9 * s + 1 by omega]
            case refine_3 =>
              show M8.1 55 0 (202 + 9 * s) = M8.1 55 0 (200 + 9 * s + 2)
              rw [show 202 + 9 * s = 200 + 9 * s + 2 by omega]
            case refine_4 =>
              show M8.1 55 0 (206 + 9 * s) = M8.1 55 0 (200 + 9 * s + 6)
              rw [show 206 + 9 * s = 200 + 9 * s + 6 by omega]
            case refine_5 =>
              show M8.1 55 0 (207 + 9 * s) = M8.1 55 0 (200 + 9 * s + 7)
              rw [show 207 + 9 * s = 200 + 9 * s + 7 by omega]
            · have := cst s hs 0 (by decide)
              rw [Nat.add_zero, Nat.add_zero] at this
              rw [this]; exact q1
            · show M8.1 55 0 (208 + 9 * s) = nI (Z.1.1 (100 + s))
              have := cst s hs 8 (by decide)
              rw [show 208 + 9 * s = 200 + 9 * s + 8 by omega, this]
              have hs' : s < Z.1.1 1 := hs
              exact q3 (by omega) (ok.2.2.2 s hs').2.2.1
      · rw [c55 j (by omega)]; exact a5 j (by omega)
      · rw [l8, a2 57 0 (by decide)]
theorem OKW.wk {s : Sy} {w : Wk} (o : OKS s) (h : OKK (sWo s).1 w) : OKW ((sWo s).1, (sWo s).2.1, (sWo s).2.2.1, w) := by
  obtain ⟨a1, a2, a3, a4, a5, a6, a7, a8⟩ := o.2.2.1
  exact ⟨a1, a2, a3, a4, a5, a6, a7, h⟩
theorem step_weeks {s : Sy} (o : OKS s) (x : Int32) : Step s (f_X10_weeks x) (f_X11_weeks x) := by
  have h9 := o.1
  have hm : min (sTp s).1 300 ≤ 300 := Nat.min_le_right _ _
  have hm2 : min (sTp s).1 300 ≤ (sTp s).1 := Nat.min_le_left _ _
  rcases arg_in x (n := min (sTp s).1 300 + 1) (by omega) with ⟨n, hn, rfl⟩ | hx
  · intro M h1 h2
    obtain ⟨M1, e1, f1, b1, w1⟩ := weeks_x o h1 (n := n) (by omega) (by omega)
    obtain ⟨M2, e2, f2, b2, w2⟩ := weeks_m o (h2.x f1) (n := n) (by omega) (by omega)
    cases hu : wkR s n with
    | inl f =>
      rw [hu] at e1 e2
      exact ⟨_, M1, M2, wksS s (.inl f), e1, e2, o.tx o.2.2.1 (Nat.zero_le _) okP_0, (b1 f hu).m f2, b2 f hu⟩
    | inr Z =>
      rw [hu] at e1 e2
      obtain ⟨mn, rm⟩ := w2 Z hu
      obtain ⟨zo, zd, rx⟩ := w1 Z hu
      exact ⟨_, M1, M2, wksS s (.inr (memW Z (M2.1 55 0))), e1, e2, o.tx (OKW.wk o (memW_K mn (zok_end zo zd))) (Nat.zero_le _) okP_0, (rx _ mn).m f2, rm⟩
  · refine step_no o 5 (fun M h => ?_) (fun M h => ?_)
    · unfold f_X10_weeks
      by_cases c : x < 0
      · rw [if_pos c]; rfl
      · obtain ⟨i, i1, rfl⟩ := (arg_cases x).resolve_left c
        have hx : ¬ nI i < nI (min (sTp s).1 300 + 1) := hx.resolve_left c
        rw [lt_nI i1 (by omega)] at hx
        rw [if_neg c, h.P.1]
        by_cases c2 : (sTp s).1 < i
        · rw [if_pos (by rw [lt_nI (by omega) i1]; exact c2)]; rfl
        · rw [if_neg (by rw [lt_nI (by omega) i1]; exact c2), if_pos (by show nI 300 < nI i; rw [lt_nI (by decide) i1]; omega)]; rfl
    · unfold f_X11_weeks
      simp only [mR_e]
      rw [show f_X11_starts x (300 : Int32) (mR M) = some (0, smM (mR M) 5) from starts_no h9 (by decide) ((h.r o).P.1) hx, Option.bind_some]
      exact (if_pos rfl).trans rfl
