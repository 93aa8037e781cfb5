/-! ===== court on the reference, whole; court on both ===== -/
/-- nothing but what the start of a reading may change -/
def StF (M M' : Mem) : Prop := (∀ c i, ¬ (c = 50 ∧ i = 0) → M'.1 c i = M.1 c i ∧ M'.2 c i = M.2 c i) ∧ (∀ j, ¬ (8 ≤ j ∧ j ≤ 9) → ¬ (12 ≤ j ∧ j ≤ 18) → M'.1 50 0 j = M.1 50 0 j) ∧ ∀ j, ¬ j = 19 → M'.2 50 0 j = M.2 50 0 j
theorem starts_m {M : Mem} {P : Nat → Int32} {n l lim : Nat} (B : BY P n) (hn : n ≤ l) (hl : l ≤ 900) (hi : n ≤ lim) (hi9 : lim ≤ 900) (h8 : M.1 50 0 8 = nI l) (hP : ∀ j, j < l → M.1 54 0 j = P j) : ∃ M', f_X11_starts (nI n) (nI lim) M = some (1, M') ∧ StF M M' ∧ GM P n M' (tokS P n 0) ∧ M'.1 50 0 8 = nI 0 := by
  unfold f_X11_starts
  rw [if_neg (nI_pos (by omega)), h8, if_neg (by rw [lt_nI (by omega) (by omega)]; omega), if_neg (by rw [lt_nI (by omega) (by omega)]; omega)]
  simp only
  obtain ⟨M8, e8, f8, j8, g9, g8, g16, g12, l8⟩ : ∃ M8 : Mem, sR (sR (sR (sR M 50 0 (upd (M.1 50 0) 9 (nI n))) 50 0 (upd ((sR M 50 0 (upd (M.1 50 0) 9 (nI n))).1 50 0) 8 0)) 50 0 (upd ((sR (sR M 50 0 (upd (M.1 50 0) 9 (nI n))) 50 0 (upd ((sR M 50 0 (upd (M.1 50 0) 9 (nI n))).1 50 0) 8 0)).1 50 0) 16 0)) 50 0 (upd ((sR (sR (sR M 50 0 (upd (M.1 50 0) 9 (nI n))) 50 0 (upd ((sR M 50 0 (upd (M.1 50 0) 9 (nI n))).1 50 0) 8 0)) 50 0 (upd ((sR (sR M 50 0 (upd (M.1 50 0) 9 (nI n))) 50 0 (upd ((sR M 50 0 (upd (M.1 50 0) 9 (nI n))).1 50 0) 8 0)).1 50 0) 16 0)).1 50 0) 12 0) = M8 ∧
      (∀ c i, ¬ (c = 50 ∧ i = 0) → M8.1 c i = M.1 c i) ∧ (∀ j, ¬ (8 ≤ j ∧ j ≤ 9) → ¬ (12 ≤ j ∧ j ≤ 18) → M8.1 50 0 j = M.1 50 0 j) ∧ M8.1 50 0 9 = nI n ∧ M8.1 50 0 8 = nI 0 ∧ M8.1 50 0 16 = nI 0 ∧ M8.1 50 0 12 = 0 ∧ M8.2 = M.2 := by
    refine ⟨_, rfl, fun c i z => ?_, fun j a b => ?_, ?_, ?_, ?_, ?_, rfl⟩
    · rw [sR_ne _ _ _ _ z, sR_ne _ _ _ _ z, sR_ne _ _ _ _ z, sR_ne _ _ _ _ z]
    · rw [sR_at, upd_ne _ _ (by omega), sR_at, upd_ne _ _ (by omega), sR_at, upd_ne _ _ (by omega), sR_at, upd_ne _ _ (by omega)]
    · rw [sR_at, upd_ne _ _ (by decide), sR_at, upd_ne _ _ (by decide), sR_at, upd_ne _ _ (by decide), sR_at, upd_at]
    · rw [sR_at, upd_ne _ _ (by decide), sR_at, upd_ne _ _ (by decide), sR_at, upd_at]; rfl
    · rw [sR_at, upd_ne _ _ (by decide), sR_at, upd_at]; rfl
    · rw [sR_at, upd_at]
  rw [e8]
  have T8 : TapM M8 P n := ⟨g9, fun j hj => by rw [f8 54 0 (by decide)]; exact hP j (by omega), B.2⟩
  obtain ⟨M9, e9, k9, F9⟩ := next_sp (p := 0) B.1 (by omega) T8 g16
  rw [e9, Option.bind_some]
  refine ⟨M9, rfl, ⟨fun c i z => ⟨?_, ?_⟩, fun j a b => ?_, fun j z => ?_⟩, ⟨F9.T T8, k9, tokS_wf (Nat.zero_le _) B.2, ?_⟩, ?_⟩
  · rw [(F9.1 c i z).1, f8 c i z]
  · rw [(F9.1 c i z).2, l8]
  · rw [F9.2.1 j (by omega), j8 j a b]
  · rw [F9.2.2 j z, l8]
  · rw [F9.2.1 12 (by omega)]; exact g12
  · rw [F9.2.1 8 (by omega)]; exact g8
theorem z25 : ∀ (m i fu : Nat) (M : Mem), i + m = 475 → m < fu → ∃ M', f_X11_court_25 fu (nI i) M = f_X11_court_54 FU (sR M' 50 0 (upd (M'.1 50 0) 24 0)) ∧ M'.2 = M.2 ∧ (∀ c a, ¬ (c = 55 ∧ a = 0) → M'.1 c a = M.1 c a) ∧ (∀ j, i ≤ j → j < 475 → M'.1 55 0 (1900 + j) = 0) ∧ ∀ j, ¬ (1900 + i ≤ j ∧ j < 2375) → M'.1 55 0 j = M.1 55 0 j
  | m, i, 0, M, _, z => by omega
  | 0, i, fu + 1, M, hi, _ => by
    have e : i = 475 := by omega
    subst e
    rw [f_X11_court_25, if_neg (by decide)]
    exact ⟨M, rfl, rfl, fun _ _ _ => rfl, fun j a b => by omega, fun _ _ => rfl⟩
  | m + 1, i, fu + 1, M, hi, hf => by
    rw [f_X11_court_25, if_pos (by show nI i < nI 475; rw [lt_nI (by omega) (by decide)]; omega), show (1900 : Int32) + nI i = nI (1900 + i) from add_nI 1900 i, inb_nI_t (by omega) (by decide), if_pos rfl, nI_clamp (by omega), show nI i + (1 : Int32) = nI (i + 1) from add_nI i 1]
    simp only
    obtain ⟨M', k1, k2, k3, k4, k5⟩ := z25 m (i + 1) fu (sR M 55 0 (upd (M.1 55 0) (1900 + i) 0)) (by omega) (by omega)
    refine ⟨M', k1, k2, fun c a z => by rw [k3 c a z, sR_ne _ _ _ _ z], fun j a b => ?_, fun j z => ?_⟩
    · by_cases c : j = i
      · rw [c, k5 _ (by omega), sR_at, upd_at]
      · exact k4 j (by omega) b
    · rw [k5 j (by omega), sR_at, upd_ne _ _ (by omega)]
def wlM (M : Mem) (a b : Int32) : Mem := sR (sR M 50 0 (upd (M.1 50 0) 10 a)) 50 0 (upd ((sR M 50 0 (upd (M.1 50 0) 10 a)).1 50 0) 11 b)
theorem wlM_j {M : Mem} {a b : Int32} {j : Nat} (h : ¬ (10 ≤ j ∧ j ≤ 11)) : (wlM M a b).1 50 0 j = M.1 50 0 j := by
  unfold wlM
  rw [sR_at, upd_ne _ _ (by omega), sR_at, upd_ne _ _ (by omega)]
theorem wlM_ne {M : Mem} {a b : Int32} {c i : Nat} (h : ¬ (c = 50 ∧ i = 0)) : (wlM M a b).1 c i = M.1 c i := by
  unfold wlM
  rw [sR_ne _ _ _ _ h, sR_ne _ _ _ _ h]
theorem wlM_10 {M : Mem} {a b : Int32} : (wlM M a b).1 50 0 10 = a := by
  unfold wlM
  rw [sR_at, upd_ne _ _ (by decide), sR_at, upd_at]
theorem wlM_11 {M : Mem} {a b : Int32} : (wlM M a b).1 50 0 11 = b := by
  unfold wlM
  rw [sR_at, upd_at]
theorem well_b {M : Mem} {f : Ft} (h : BM M f) : f_X11_isWell M = some (0, smM (wlM M f.1 (nI f.2)) 10) := by
  obtain ⟨h1, h2, h3⟩ := h
  have h1' := pos_ne h1
  have e12 : ∀ v : Int32, (sR M 50 0 (upd (M.1 50 0) 10 v)).1 50 0 12 = f.1 := fun v => by rw [sR_at, upd_ne _ _ (by decide)]; exact h2
  have e13 : ∀ v : Int32, (sR M 50 0 (upd (M.1 50 0) 10 v)).1 50 0 13 = nI f.2 := fun v => by rw [sR_at, upd_ne _ _ (by decide)]; exact h3
  unfold f_X11_isWell f_X11_isWell_24
  simp only
  rw [h2, e12, if_neg h1', e13]
  refine (if_neg ?_).trans rfl
  rw [show (sR (sR M 50 0 (upd (M.1 50 0) 10 f.1)) 50 0 (upd ((sR M 50 0 (upd (M.1 50 0) 10 f.1)).1 50 0) 11 (nI f.2))).1 50 0 12 = f.1 from (wlM_j (M := M) (a := f.1) (b := nI f.2) (j := 12) (by decide)).trans h2]
  exact h1'
theorem well_g {M : Mem} (h : M.1 50 0 12 = 0) : f_X11_isWell M = some (1, wlM M 0 (-1)) := by
  have e12 : ∀ v : Int32, (sR M 50 0 (upd (M.1 50 0) 10 v)).1 50 0 12 = 0 := fun v => by rw [sR_at, upd_ne _ _ (by decide)]; exact h
  unfold f_X11_isWell f_X11_isWell_24
  simp only
  rw [h, e12, if_pos rfl]
  refine (if_pos ?_).trans rfl
  exact (wlM_j (M := M) (a := 0) (b := -1) (j := 12) (by decide)).trans h
theorem DM.W {M : Mem} {D : Dr} (o : OKD D) (h : DM M D.1 D.2.1 D.2.2) : RepMC (fun j => M.1 55 0 (1900 + j)) D.1 ∧ NaM (fun j => M.2 57 0 (104 + j)) D.1 D.2.1 := by
  obtain ⟨hn, r0, r1, r2, r3, r4, r5, r6, r7, r8, r9⟩ := h
  obtain ⟨⟨k0, k1, k2, k3⟩, -⟩ := o
  refine ⟨⟨fun j hj => (hn j hj).1, r1, r2, fun j hj => ⟨?_, ?_, ?_⟩, fun a b ha hb => ?_, fun p hp => ?_, fun w hw => ⟨?_, ?_⟩, fun q w hq hw => ?_⟩, fun q hq i hi => ?_⟩
  · show M.1 55 0 (1900 + (12 + j)) = _
    rw [← Nat.add_assoc]; exact (r3 j hj).1
  · show M.1 55 0 (1900 + (22 + j)) = _
    rw [← Nat.add_assoc]; exact (r3 j hj).2.1
  · show M.1 55 0 (1900 + (32 + j)) = _
    rw [← Nat.add_assoc]; exact (r3 j hj).2.2.1
  · show M.1 55 0 (1900 + (52 + 10 * a + b)) = _
    rw [show 1900 + (52 + 10 * a + b) = 1952 + 10 * a + b by omega]; exact r5 a b (by omega) (by omega)
  · show M.1 55 0 (1900 + (152 + p)) = _
    rw [← Nat.add_assoc]; exact r6 p hp
  · show M.1 55 0 (1900 + (158 + w)) = _
    rw [← Nat.add_assoc]; exact (r7 w hw).1
  · show M.1 55 0 (1900 + (164 + w)) = _
    rw [← Nat.add_assoc]; exact (r7 w hw).2
  · show M.1 55 0 (1900 + (170 + 6 * q + w)) = _
    rw [show 1900 + (170 + 6 * q + w) = 2070 + 6 * q + w by omega]; exact r8 q w (by omega) (by omega)
  · show M.2 57 0 (104 + (fromN q + i)) = _
    rw [← Nat.add_assoc]; exact (hn q hq).2.2 i hi
theorem DM.H {M : Mem} {D : Dr} {l : Nat → Int32} (h : DM M D.1 D.2.1 D.2.2) : (∀ j, j < D.1.1 0 → M.1 55 0 (1942 + j) = (opnH D.1 l).2.1 j) ∧ ∀ j, zone j → M.1 55 0 (1900 + j) = 0 := by
  obtain ⟨hn, r0, r1, r2, r3, r4, r5, r6, r7, r8, r9⟩ := h
  refine ⟨fun j hj => ?_, r9⟩
  show _ = (if j < D.1.1 0 then D.1.2 0 j else l j)
  rw [if_pos hj]
  exact (r3 j hj).2.2.2
theorem GM.cg {M M' : Mem} {P : Nat → Int32} {n : Nat} {t : Tk} (e1 : ∀ j, ¬ j = 24 → M'.1 50 0 j = M.1 50 0 j) (e2 : M'.1 54 0 = M.1 54 0) (e3 : M'.2 50 0 = M.2 50 0) (h : GM P n M t) : GM P n M' t := by
  obtain ⟨⟨a1, a2, a3⟩, ⟨b1, b2, b3, b4, b5⟩, w, g⟩ := h
  refine ⟨⟨by rw [e1 9 (by decide)]; exact a1, by rw [e2]; exact a2, a3⟩, ⟨by rw [e1 15 (by decide)]; exact b1, by rw [e1 16 (by decide)]; exact b2, by rw [e1 14 (by decide)]; exact b3, ?_, ?_⟩, w, by rw [e1 12 (by decide)]; exact g⟩
  · rw [e1 18 (by decide), e3]; exact b4
  · rw [e1 17 (by decide)]; exact b5
/-- what court leaves in the block 4 before it is copied -/
theorem crtM_W {M : Mem} {c : Nat → Int32} {L : Nat → Int64} {D : Dr} {l : Nat → Int32} (o : OKD D) (h : DM M D.1 D.2.1 D.2.2) (e : ∀ j, ¬ j = 8 → ¬ j = 10 → j < 475 → c j = M.1 55 0 (1900 + j)) (e8 : c 8 = (if D.1.1 2 = 0 then -1 else 0)) (e10 : c 10 = nI (2 ^ D.1.1 0 - 1)) (eL : ∀ j, j < 26 → L j = M.2 57 0 (104 + j)) : MW c L (newW D l) := by
  have ok := okd_C' o
  have hz := (h.H (l := l)).2
  have hl := (h.H (l := l)).1
  have hJ := ok.J
  obtain ⟨d1, d2⟩ := h.W o
  have ec : ∀ j, j < 475 → c j = (fun j => if j < 475 then c j else M.1 55 0 (1900 + j)) j := fun j hj => (if_pos hj).symm
  refine ⟨RepMC.eq ok ec (RepMC.fr ok (fun j hj => ?_) d1), ?_, ?_, ?_⟩
  · show (if j < 475 then c j else M.1 55 0 (1900 + j)) = M.1 55 0 (1900 + j)
    by_cases q : j < 475
    · rw [if_pos q, e j (fun z => hj (by unfold hallIx; omega)) (fun z => hj (by unfold hallIx; omega)) q]
    · rw [if_neg q]
  · have zz : ∀ j, zone j → ¬ j = 8 → ¬ j = 10 → j < 475 → c j = 0 := fun j a b d q => (e j b d q).trans (hz j a)
    refine ⟨e10, ?_, ?_, ?_, ?_, ?_, fun j hj => ?_, fun q hq => ?_⟩
    · exact (zz 11 (by unfold zone; omega) (by decide) (by decide) (by decide)).trans rfl
    · exact (zz 7 (by unfold zone; omega) (by decide) (by decide) (by decide)).trans rfl
    · exact (zz 6 (by unfold zone; omega) (by decide) (by decide) (by decide)).trans rfl
    · rw [e8]; rfl
    · exact (zz 9 (by unfold zone; omega) (by decide) (by decide) (by decide)).trans rfl
    · have hj : j < D.1.1 0 := hj
      rw [e (42 + j) (by omega) (by omega) (by omega), ← Nat.add_assoc]; exact hl j hj
    · have k3 := ok.2.2.2.1
      have hq : q < D.1.1 3 := hq
      exact (zz (194 + q) (by unfold zone; omega) (by omega) (by omega) (by omega)).trans rfl
  · exact NaM.eq ok eL d2
  · refine ⟨?_, ?_, fun s hs => absurd hs (Nat.not_lt_zero _)⟩
    · rw [e 198 (by decide) (by decide) (by decide), hz 198 (by unfold zone; omega)]; rfl
    · rw [e 199 (by decide) (by decide) (by decide), hz 199 (by unfold zone; omega)]; rfl
theorem crt_ex {M : Mem} {K : Co} (k0 : K.1 0 ≤ 10) (k2 : K.1 2 ≤ 6) (h0 : M.1 55 0 1900 = nI (K.1 0)) (h2 : M.1 55 0 1902 = nI (K.1 2)) (h12 : M.1 50 0 12 = 0) : f_X11_court_197 M = (f_X11_copy 4 0 (sR (sR (wlM M 0 (-1)) 55 0 (upd ((wlM M 0 (-1)).1 55 0) 1910 (nI (2 ^ K.1 0 - 1)))) 55 0 (upd ((sR (wlM M 0 (-1)) 55 0 (upd ((wlM M 0 (-1)).1 55 0) 1910 (nI (2 ^ K.1 0 - 1)))).1 55 0) 1908 (if K.1 2 = 0 then -1 else 0)))).bind fun M10 => some ((M10.1 55 0 0), M10) := by
  unfold f_X11_court_197
  rw [well_g h12, Option.bind_some]
  refine (if_neg (show ¬ (1 : Int32) = 0 from by decide)).trans ?_
  simp only
  have e0 : (wlM M 0 (-1)).1 55 0 1900 = nI (K.1 0) := by rw [wlM_ne (by decide)]; exact h0
  rw [e0, shl_1 _ (by omega), show nI (2 ^ K.1 0) - (1 : Int32) = nI (2 ^ K.1 0 - 1) from sub_nI (Nat.two_pow_pos _)]
  have e2 : (sR (wlM M 0 (-1)) 55 0 (upd ((wlM M 0 (-1)).1 55 0) 1910 (nI (2 ^ K.1 0 - 1)))).1 55 0 1902 = nI (K.1 2) := by rw [sR_at, upd_ne _ _ (by decide), wlM_ne (by decide)]; exact h2
  rw [e2]
  by_cases c : K.1 2 = 0
  · rw [if_pos (by rw [c]; rfl), if_pos c]
  · rw [if_neg (by rw [nI_z (by omega)]; exact c), if_neg c]
theorem court_m {s : Sy} {M : Mem} (o : OKS s) (h : RM s M) {n : Nat} (hn : n ≤ (sTp s).1) : ∃ M', f_X11_court (nI n) M = some (crtA (courtR (sTp s).2 n (n + 1) DrO (tokS (sTp s).2 n 0)), M') ∧ RM (crtS s n (courtR (sTp s).2 n (n + 1) DrO (tokS (sTp s).2 n 0))) M' ∧ onM M M' := by
  have h9 := o.1
  have r := h.r o
  have q0 := mR_Q M
  obtain ⟨M3, e3, F3, G3, g8⟩ := starts_m (M := mR M) (lim := 900) (o.by_ hn) hn h9 (by omega) (by decide) r.P.1 r.P.2
  obtain ⟨M4, e4, l4, f4, z4, y4⟩ := z25 475 0 FU M3 (by omega) (lt_FU (by decide))
  have n5 : ∀ c i, ¬ (c = 50 ∧ i = 0) → (sR M4 50 0 (upd (M4.1 50 0) 24 0)).1 c i = M4.1 c i := fun c i z => sR_ne _ _ _ _ z
  have j5 : ∀ j, ¬ j = 24 → (sR M4 50 0 (upd (M4.1 50 0) 24 0)).1 50 0 j = M4.1 50 0 j := fun j z => by rw [sR_at, upd_ne _ _ z]
  have x24 : (sR M4 50 0 (upd (M4.1 50 0) 24 0)).1 50 0 24 = 0 := by rw [sR_at, upd_at]
  have l5 : (sR M4 50 0 (upd (M4.1 50 0) 24 0)).2 = M4.2 := rfl
  generalize sR M4 50 0 (upd (M4.1 50 0) 24 0) = M5 at e4 n5 j5 x24 l5
  have z5 : ∀ j, j < 475 → M5.1 55 0 (1900 + j) = 0 := fun j hj => by rw [n5 55 0 (by decide)]; exact z4 j (Nat.zero_le _) hj
  have G5 : GM (sTp s).2 n M5 (tokS (sTp s).2 n 0) := G3.cg (fun j z => by rw [j5 j z, f4 50 0 (by decide)]) (by rw [n5 54 0 (by decide), f4 54 0 (by decide)]) (by rw [l5, l4])
  have D5 : DM M5 DrO.1 DrO.2.1 DrO.2.2 := by
    refine ⟨fun q hq => ⟨?_, Nat.zero_le _, fun i hi => absurd hi (Nat.not_lt_zero _)⟩, x24.trans rfl, (z5 4 (by decide)).trans rfl, (z5 5 (by decide)).trans rfl, fun j hj => absurd hj (Nat.not_lt_zero _), fun j _ hj => ⟨?_, ?_, ?_⟩, fun a b ha hb => ?_, fun p hp => absurd hp (Nat.not_lt_zero _), fun w hw => absurd hw (Nat.not_lt_zero _), fun c w hc hw => ?_, fun j hj => ?_⟩
    · exact (z5 q (by omega)).trans rfl
    · rw [show 1912 + j = 1900 + (12 + j) by omega]; exact z5 _ (by omega)
    · rw [show 1922 + j = 1900 + (22 + j) by omega]; exact z5 _ (by omega)
    · rw [show 1932 + j = 1900 + (32 + j) by omega]; exact z5 _ (by omega)
    · rw [show 1952 + 10 * a + b = 1900 + (52 + 10 * a + b) by omega]; exact z5 _ (by omega)
    · rw [show 2070 + 6 * c + w = 1900 + (170 + 6 * c + w) by omega]; exact z5 _ (by omega)
    · unfold zone at hj; exact z5 j (by omega)
  obtain ⟨M6, e6, F6, b6, c6⟩ := court54 (o.by_ hn) okd_hun okd_part (n + 1) 0 FU M5 (tokS (sTp s).2 n 0) DrO (by omega) (lt_FU (by omega)) (Nat.zero_le _) tok_mt okd_0 G5 D5
  have a1 : ∀ c i, ¬ ((c = 50 ∨ c = 55) ∧ i = 0) → M6.1 c i = M.1 c i := fun c i z => by
    rw [F6.1 c i (by omega) (by omega), n5 c i (by omega), f4 c i (by omega), (F3.1 c i (by omega)).1]
    unfold mR
    rw [sR_ne _ _ _ _ (by omega), sR_ne _ _ _ _ (by omega)]
  have a2 : ∀ c i, ¬ ((c = 50 ∨ c = 57) ∧ i = 0) → M6.2 c i = M.2 c i := fun c i z => by
    rw [F6.2.1 c i (by omega) (by omega), l5, l4, (F3.1 c i (by omega)).2]; rfl
  have a3 : ∀ j, ¬ j ≤ 1 → ¬ (8 ≤ j ∧ j ≤ 9) → ¬ (12 ≤ j ∧ j ≤ 18) → ¬ j = 24 → M6.1 50 0 j = M.1 50 0 j := fun j x y z w => by
    rw [F6.2.2.1 j z w, j5 j w, f4 50 0 (by decide), F3.2.1 j y z]
    unfold mR
    rw [sR_at, upd_ne _ _ (by omega), sR_at, upd_ne _ _ (by omega)]
  have a0 : M6.1 50 0 0 = 0 := by
    rw [F6.2.2.1 0 (by decide) (by decide), j5 0 (by decide), f4 50 0 (by decide), F3.2.1 0 (by decide) (by decide)]
    exact mR_0 M
  have a8 : M6.1 50 0 8 = nI 0 := by rw [F6.2.2.1 8 (by decide) (by decide), j5 8 (by decide), f4 50 0 (by decide)]; exact g8
  have a4 : ∀ j, ¬ j = 19 → M6.2 50 0 j = M.2 50 0 j := fun j z => by
    rw [F6.2.2.2.1 j z, l5, l4, F3.2.2 j z]; rfl
  have a5 : ∀ j, j < 1900 → M6.1 55 0 j = M.1 55 0 j := fun j hj => by
    rw [F6.2.2.2.2.1 j hj, n5 55 0 (by decide), y4 j (by omega), (F3.1 55 0 (by decide)).1]
    unfold mR
    rw [sR_ne _ _ _ _ (by decide), sR_ne _ _ _ _ (by decide)]
  have a6 : ∀ j, j < 104 → M6.2 57 0 j = M.2 57 0 j := fun j hj => by
    rw [F6.2.2.2.2.2 j hj, l5, l4, (F3.1 57 0 (by decide)).2]; rfl
  have key : f_X11_court (nI n) M = f_X11_court_197 M6 := by
    unfold f_X11_court
    simp only [mR_e]
    rw [show f_X11_starts (nI n) (900 : Int32) (mR M) = some (1, M3) from e3, Option.bind_some]
    refine (if_neg (show ¬ (1 : Int32) = 0 from by decide)).trans ?_
    rw [← e6, ← e4]; rfl
  rw [key]
  generalize courtR (sTp s).2 n (n + 1) DrO (tokS (sTp s).2 n 0) = u at b6 c6 ⊢
  cases u with
  | inl f =>
    have B6 := b6 f rfl
    refine ⟨smM (wlM M6 f.1 (nI f.2)) 10, ?_, ?_, fun c i hc => ⟨?_, ?_⟩⟩
    · unfold f_X11_court_197
      rw [well_b B6, Option.bind_some]
      exact (if_pos rfl).trans rfl
    · have n7 : ∀ c i, ¬ (c = 50 ∧ i = 0) → (smM (wlM M6 f.1 (nI f.2)) 10).1 c i = M6.1 c i := fun c i z => (sR_ne _ _ _ _ z).trans (wlM_ne z)
      have j7 : ∀ j, ¬ j = 0 → (smM (wlM M6 f.1 (nI f.2)) 10).1 50 0 j = (wlM M6 f.1 (nI f.2)).1 50 0 j := fun j z => by
        unfold smM
        rw [sR_at, upd_ne _ _ z]
      refine RM.tx o (fun c i z => (n7 c i (by omega)).trans (a1 c i z)) (fun c i z => a2 c i z) (fun j z => ?_) ⟨a4 2 (by decide), a4 3 (by decide)⟩ (smM_at _ _) ?_ ?_ ⟨?_, fun j hj => absurd hj (Nat.not_lt_zero _)⟩ ?_ (fun j x y => ?_) (fun j x y => a6 j y) h
      · rw [j7 j (by omega), wlM_j (by omega)]; exact a3 j (by omega) (by omega) (by omega) (by omega)
      · rw [j7 10 (by decide), wlM_10]
      · rw [j7 11 (by decide), wlM_11]
      · rw [j7 8 (by decide), wlM_j (by decide)]; exact a8
      · refine MW.eq o.2.2.1 (fun j hj => ?_) (fun j hj => a6 j (by omega)) h.2.2.2.2.1
        rw [n7 55 0 (by decide)]; exact a5 j (by omega)
      · rw [n7 55 0 (by decide)]; exact a5 j y
    · exact ((sR_ne _ _ _ _ (by omega)).trans (wlM_ne (by omega))).trans (a1 c i (by omega))
    · exact a2 c i (by omega)
  | inr D =>
    obtain ⟨z12, dm, zo⟩ := c6 D rfl
    have ok := okd_C' zo
    have d1 := dm.1
    rw [crt_ex (K := D.1) ok.1 ok.2.2.1 (d1 0 (by decide)).1 (d1 2 (by decide)).1 z12]
    have nw : ∀ c i, ¬ (c = 50 ∧ i = 0) → (wlM M6 0 (-1)).1 c i = M6.1 c i := fun c i z => wlM_ne z
    obtain ⟨M9, e9, n9, v9, l9⟩ : ∃ M9 : Mem, sR (sR (wlM M6 0 (-1)) 55 0 (upd ((wlM M6 0 (-1)).1 55 0) 1910 (nI (2 ^ D.1.1 0 - 1)))) 55 0 (upd ((sR (wlM M6 0 (-1)) 55 0 (upd ((wlM M6 0 (-1)).1 55 0) 1910 (nI (2 ^ D.1.1 0 - 1)))).1 55 0) 1908 (if D.1.1 2 = 0 then -1 else 0)) = M9 ∧
        (∀ c i, ¬ (c = 55 ∧ i = 0) → M9.1 c i = (wlM M6 0 (-1)).1 c i) ∧ M9.1 55 0 = upd (upd (M6.1 55 0) 1910 (nI (2 ^ D.1.1 0 - 1))) 1908 (if D.1.1 2 = 0 then -1 else 0) ∧ M9.2 = M6.2 := by
      refine ⟨_, rfl, fun c i z => ?_, ?_, rfl⟩
      · rw [sR_ne _ _ _ _ z, sR_ne _ _ _ _ z]
      · rw [sR_at, sR_at, nw 55 0 (by decide)]
    rw [e9]
    obtain ⟨M10, e10, y1, y2, y3, y4', y5, y6⟩ := X11_copy_sp (a := 4) (b := 0) M9 (by decide) (by decide) (by decide)
    rw [show f_X11_copy (4 : Int32) (0 : Int32) M9 = some M10 from e10, Option.bind_some]
    have w9 : MW (fun j => M9.1 55 0 (1900 + j)) (fun j => M9.2 57 0 (104 + j)) (newW D (sWo s).2.1.2.1) := by
      refine crtM_W zo dm (fun j x y z => ?_) ?_ ?_ (fun j hj => by rw [l9])
      · show M9.1 55 0 (1900 + j) = _
        rw [v9, upd_ne _ _ (by omega), upd_ne _ _ (by omega)]
      · show M9.1 55 0 1908 = _
        rw [v9, upd_at]
      · show M9.1 55 0 1910 = _
        rw [v9, upd_ne _ _ (by decide), upd_at]
    have ow : OKW (newW D (sWo s).2.1.2.1) := newW_OK zo o.2.2.1.2.1.2.2.2
    have w10 : MW (M10.1 55 0) (M10.2 57 0) (newW D (sWo s).2.1.2.1) := by
      refine MW.eq ow (fun j hj => ?_) (fun j hj => ?_) w9
      · have := y3 j hj
        rw [Nat.mul_zero, Nat.zero_add] at this
        exact this
      · have := y5 j hj
        rw [Nat.mul_zero, Nat.zero_add] at this
        exact this
    have z50 : M10.1 50 0 = (wlM M6 0 (-1)).1 50 0 := by rw [y1 50 0 (by decide), n9 50 0 (by decide)]
    refine ⟨M10, ?_, ?_, fun c i hc => ⟨?_, ?_⟩⟩
    · rw [show M10.1 55 0 0 = nI (D.1.1 0) from w10.1.1 0 (by decide)]; rfl
    · refine RM.tx o (fun c i z => ?_) (fun c i z => ?_) (fun j z => ?_) ?_ ?_ ?_ ?_ ⟨?_, fun j hj => absurd hj (Nat.not_lt_zero _)⟩ w10 (fun j x y => ?_) (fun j x y => ?_) h
      · rw [y1 c i (by omega), n9 c i (by omega), nw c i (by omega)]; exact a1 c i z
      · rw [y2 c i (by omega), l9]; exact a2 c i z
      · rw [z50, wlM_j (by omega)]; exact a3 j (by omega) (by omega) (by omega) (by omega)
      · rw [y2 50 0 (by decide), l9]; exact ⟨a4 2 (by decide), a4 3 (by decide)⟩
      · rw [z50, wlM_j (by decide)]; exact a0
      · rw [z50, wlM_10]
      · rw [z50, wlM_11]
      · rw [z50, wlM_j (by decide)]; exact a8
      · rw [y4' j (by omega), v9, upd_ne _ _ (by omega), upd_ne _ _ (by omega)]; exact a5 j y
      · rw [y6 j (by omega), l9]; exact a6 j y
    · rw [y1 c i (by omega), n9 c i (by omega), nw c i (by omega)]; exact a1 c i (by omega)
    · rw [y2 c i (by omega), l9]; exact a2 c i (by omega)
