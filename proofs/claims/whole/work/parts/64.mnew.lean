/-! ===== the reference reads parts of a court ===== -/
def McF (M M' : Mem) : Prop := (∀ c i, ¬ (c = 50 ∧ i = 0) → ¬ (c = 55 ∧ i = 0) → M'.1 c i = M.1 c i) ∧ (∀ c i, ¬ (c = 50 ∧ i = 0) → ¬ (c = 57 ∧ i = 0) → M'.2 c i = M.2 c i) ∧ (∀ j, ¬ (12 ≤ j ∧ j ≤ 18) → ¬ j = 24 → M'.1 50 0 j = M.1 50 0 j) ∧ (∀ j, ¬ j = 19 → M'.2 50 0 j = M.2 50 0 j) ∧ (∀ j, j < 1900 → M'.1 55 0 j = M.1 55 0 j) ∧ ∀ j, j < 104 → M'.2 57 0 j = M.2 57 0 j
def zone (j : Nat) : Prop := (6 ≤ j ∧ j ≤ 11) ∨ (194 ≤ j ∧ j < 475)
def RD (M : Mem) (K : Co) (lt : Bool) : Prop := M.1 50 0 24 = (if lt then 1 else 0) ∧ M.1 55 0 1904 = nI (K.1 4) ∧ M.1 55 0 1905 = nI (K.1 5) ∧ (∀ j, j < K.1 0 → M.1 55 0 (1912 + j) = K.2 0 j ∧ M.1 55 0 (1922 + j) = K.2 1 j ∧ M.1 55 0 (1932 + j) = K.2 2 j ∧ M.1 55 0 (1942 + j) = K.2 0 j) ∧
  (∀ j, K.1 0 ≤ j → j < 10 → M.1 55 0 (1912 + j) = 0 ∧ M.1 55 0 (1922 + j) = 0 ∧ M.1 55 0 (1932 + j) = 0) ∧ (∀ a b, a < 10 → b < 10 → M.1 55 0 (1952 + 10 * a + b) = K.2 3 (10 * a + b)) ∧ (∀ p, p < K.1 1 → M.1 55 0 (2052 + p) = K.2 4 p) ∧
  (∀ w, w < K.1 2 → M.1 55 0 (2058 + w) = nI (K.1 (100 + w)) ∧ M.1 55 0 (2064 + w) = nI (K.1 (200 + w))) ∧ (∀ c w, c < 4 → w < 6 → M.1 55 0 (2070 + 6 * c + w) = K.2 5 (6 * c + w)) ∧ ∀ j, zone j → M.1 55 0 (1900 + j) = 0
def DM (M : Mem) (K : Co) (N : Nat → Nat → Int64) (lt : Bool) : Prop := NXm M 4 K.1 N ∧ RD M K lt
set_option maxHeartbeats 600000 in
theorem McF.rf {M : Mem} : McF M M := ⟨fun _ _ _ _ => rfl, fun _ _ _ _ => rfl, fun _ _ _ => rfl, fun _ _ => rfl, fun _ _ => rfl, fun _ _ => rfl⟩
set_option maxHeartbeats 600000 in
theorem McF.tr {M M1 M2 : Mem} (a : McF M M1) (b : McF M1 M2) : McF M M2 := ⟨fun c i h1 h2 => (b.1 c i h1 h2).trans (a.1 c i h1 h2), fun c i h1 h2 => (b.2.1 c i h1 h2).trans (a.2.1 c i h1 h2), fun j h1 h2 => (b.2.2.1 j h1 h2).trans (a.2.2.1 j h1 h2), fun j h => (b.2.2.2.1 j h).trans (a.2.2.2.1 j h), fun j h => (b.2.2.2.2.1 j h).trans (a.2.2.2.2.1 j h), fun j h => (b.2.2.2.2.2 j h).trans (a.2.2.2.2.2 j h)⟩
set_option maxHeartbeats 600000 in
theorem YFr.r {M M' : Mem} (a : YFr M M') : McF M M' := ⟨fun c i h1 _ => (a.1 c i h1).1, fun c i h1 _ => (a.1 c i h1).2, fun j h1 _ => a.2.1 j h1, a.2.2, fun j _ => by rw [(a.1 55 0 (by omega)).1], fun j _ => by rw [(a.1 57 0 (by omega)).2]⟩
set_option maxHeartbeats 600000 in
theorem McF.C {M : Mem} {p : Nat} {v : Int32} (hp : 1900 ≤ p) : McF M (sR M 55 0 (upd (M.1 55 0) p v)) := ⟨fun c i _ h2 => sR_ne _ _ _ _ h2, fun _ _ _ _ => rfl, fun j _ _ => by rw [sR_ne _ _ _ _ (by omega)], fun _ _ => rfl, fun j hj => by rw [sR_at, upd_ne _ _ (by omega)], fun _ _ => rfl⟩
set_option maxHeartbeats 600000 in
theorem McF.L {M : Mem} {p : Nat} {v : Int64} (hp : 104 ≤ p) : McF M (sL M 57 0 (vp_updL (M.2 57 0) p v)) := ⟨fun _ _ _ _ => rfl, fun c i _ h2 => sL_ne _ _ _ _ h2, fun _ _ _ => rfl, fun j _ => by rw [sL_ne _ _ _ _ (by omega)], fun _ _ => rfl, fun j hj => by rw [sL_at, updL_ne _ _ (by omega)]⟩
set_option maxHeartbeats 600000 in
theorem GM.C {M : Mem} {P : Nat → Int32} {n : Nat} {t : Tk} {f : Nat → Int32} (h : GM P n M t) : GM P n (sR M 55 0 f) t := by
  obtain ⟨⟨h1, h2, h3⟩, h4, h5, h6⟩ := h
  refine ⟨⟨?_, fun j hj => ?_, h3⟩, ?_, h5, ?_⟩
  · rw [sR_ne _ _ _ _ (by omega)]; exact h1
  · rw [sR_ne _ _ _ _ (by omega)]; exact h2 j hj
  · unfold TkM at h4 ⊢
    rw [sR_ne _ _ _ _ (by omega)]
    exact h4
  · rw [sR_ne _ _ _ _ (by omega)]; exact h6
set_option maxHeartbeats 600000 in
theorem GM.L {M : Mem} {P : Nat → Int32} {n : Nat} {t : Tk} {f : Nat → Int64} (h : GM P n M t) : GM P n (sL M 57 0 f) t := by
  obtain ⟨h1, h4, h5, h6⟩ := h
  refine ⟨h1, ?_, h5, h6⟩
  unfold TkM at h4 ⊢
  rw [sL_ne _ _ _ _ (by omega)]
  exact h4
set_option maxHeartbeats 600000 in
theorem BM.C {M : Mem} {f : Ft} {g : Nat → Int32} (h : BM M f) : BM (sR M 55 0 g) f := by
  unfold BM at h ⊢
  rw [sR_ne _ _ _ _ (by omega)]
  exact h
set_option maxHeartbeats 600000 in
theorem from_sep : ∀ p, p < 4 → ∀ q, q < 4 → ¬ p = q → fromN p + moN p ≤ fromN q ∨ fromN q + moN q ≤ fromN p := by decide +kernel
set_option maxHeartbeats 600000 in
theorem new102_b {M : Mem} {x1 x3 : Int32} {f : Ft} (h : BM M f) : f_X11_readNew_102 x1 x3 M = some (0, M) := by
  unfold f_X11_readNew_102
  rw [h.2.1, if_pos h.1]
set_option maxHeartbeats 600000 in
theorem new_m {M : Mem} {P : Nat → Int32} {n q : Nat} {c : Nat → Nat} {N : Nat → Nat → Int64} {t : Tk} (B : BY P n) (h : GM P n M t) (hN : NXm M 4 c N) (hq : q < 4) : ∃ r, f_X11_readNew (nI q) (nI (moN q)) M = some r ∧ McF M r.2 ∧ r.2.1 55 0 = M.1 55 0 ∧ r.2.1 50 0 24 = M.1 50 0 24 ∧ match newR P n c N q t with | .inl f => r.1 = 0 ∧ BM r.2 f | .inr a => r.1 = nI (c q) ∧ GM P n r.2 a.1 ∧ c q < moN q ∧ NXm r.2 4 c N ∧ r.2.2 57 0 (104 + fromN q + c q) = a.2 := by
  have hm := (hN q hq).2.1
  have hm2 := moN_le q
  have hm3 := from_le q hq
  have c0 : M.1 55 0 (1900 + q) = nI (c q) := (hN q hq).1
  unfold f_X11_readNew newR
  rw [show (1900 : Int32) + nI q = nI (1900 + q) from add_nI 1900 q, inb_nI_t (show 1900 + q < 2375 by omega) (by decide), if_pos rfl, nI_clamp (by omega), c0]
  simp only
  by_cases c1 : c q = moN q
  · rw [if_pos (by rw [c1]), if_pos c1]
    obtain ⟨M', a, b, d⟩ := fail_m (why := 6) h.2.2.2 h.2.1 (by decide)
    rw [a, Option.bind_some]
    unfold f_X11_readNew_26
    rw [d.2.1, if_pos d.1]
    exact ⟨_, rfl, b.r, (b.1 55 0 (by omega)).1, b.2.1 24 (by omega), rfl, d⟩
  · rw [if_neg (by rw [eq_nI (by omega) (by omega)]; exact c1), if_neg c1]
    unfold f_X11_readNew_26
    rw [h.2.2.2, if_neg (show ¬ (0 : Int32) < 0 from by decide)]
    obtain ⟨M3, a3, b3, d3⟩ := nx_m B h
    have N3 := b3.y.N hN
    rw [a3, Option.bind_some, isName_m d3.2.1 d3.2.2.1 B.1, Option.bind_some]
    by_cases c2 : isNm (nx P n t) = true
    · rw [if_pos c2, if_neg (show ¬ (1 : Int32) = 0 from by decide), if_pos c2]
      unfold f_X11_readNew_50
      rw [d3.2.2.2, if_pos rfl]
      have hl := nm_19 d3.2.1 d3.2.2.1 c2
      have v0 : f_X11_named (4 : Int32) (0 : Int32) M3 = _ := named_m (x := 4) (q := 0) N3 (by omega) (by omega) hl
      have v1 : f_X11_named (4 : Int32) (1 : Int32) M3 = _ := named_m (x := 4) (q := 1) N3 (by omega) (by omega) hl
      have v2 : f_X11_named (4 : Int32) (2 : Int32) M3 = _ := named_m (x := 4) (q := 2) N3 (by omega) (by omega) hl
      have v3 : f_X11_named (4 : Int32) (3 : Int32) M3 = _ := named_m (x := 4) (q := 3) N3 (by omega) (by omega) hl
      have bad : ∃ r, f_X11_readNew_93 (nI q) (nI (c q)) M3 = some r ∧ McF M r.2 ∧ r.2.1 55 0 = M.1 55 0 ∧ r.2.1 50 0 24 = M.1 50 0 24 ∧ r.1 = 0 ∧ BM r.2 (3, (nx P n t).1) := by
        obtain ⟨M', a, b, d⟩ := fail_m (why := 3) d3.2.2.2 d3.2.1 (by decide)
        unfold f_X11_readNew_93
        rw [a, Option.bind_some, new102_b d]
        exact ⟨_, rfl, (b3.y.tr b).r, ((b3.y.tr b).1 55 0 (by omega)).1, (b3.y.tr b).2.1 24 (by omega), rfl, d⟩
      have nn : ∀ (q' j : Nat), fndF (N q') (nx P n t).2.2.2.2.1 (c q') 0 = some j → q' < 4 → ¬ nI j < (0 : Int32) := by
        intro q' j e hq'
        have := fndF_lt _ _ _ e
        have := (hN q' hq').2.1
        have := moN_le q'
        show ¬ nI j < nI 0
        rw [lt_nI (by omega) (by omega)]
        omega
      rw [v0, Option.bind_some]
      cases e0 : fndF (N 0) (nx P n t).2.2.2.2.1 (c 0) 0 with
      | some j =>
        simp only
        rw [if_neg (nn 0 j e0 (by omega)), if_pos (show takenS c N (nx P n t).2.2.2.2.1 = true from by unfold takenS; rw [e0]; simp)]
        exact bad
      | none =>
      simp only
      rw [if_pos (show (-1 : Int32) < 0 from by decide), v1, Option.bind_some]
      cases e1 : fndF (N 1) (nx P n t).2.2.2.2.1 (c 1) 0 with
      | some j =>
        simp only
        rw [if_neg (nn 1 j e1 (by omega)), if_pos (show takenS c N (nx P n t).2.2.2.2.1 = true from by unfold takenS; rw [e1]; simp)]
        exact bad
      | none =>
      simp only
      rw [if_pos (show (-1 : Int32) < 0 from by decide), v2, Option.bind_some]
      cases e2 : fndF (N 2) (nx P n t).2.2.2.2.1 (c 2) 0 with
      | some j =>
        simp only
        rw [if_neg (nn 2 j e2 (by omega)), if_pos (show takenS c N (nx P n t).2.2.2.2.1 = true from by unfold takenS; rw [e2]; simp)]
        exact bad
      | none =>
      simp only
      rw [if_pos (show (-1 : Int32) < 0 from by decide), v3, Option.bind_some]
      cases e3 : fndF (N 3) (nx P n t).2.2.2.2.1 (c 3) 0 with
      | some j =>
        simp only
        rw [if_neg (nn 3 j e3 (by omega)), if_pos (show takenS c N (nx P n t).2.2.2.2.1 = true from by unfold takenS; rw [e3]; simp)]
        exact bad
      | none =>
      simp only
      rw [if_pos (show (-1 : Int32) < 0 from by decide), if_neg (show ¬ takenS c N (nx P n t).2.2.2.2.1 = true from by unfold takenS; rw [e0, e1, e2, e3]; decide)]
      unfold f_X11_readNew_102
      rw [d3.2.2.2, if_neg (show ¬ (0 : Int32) < 0 from by decide), from_all q hq, Option.bind_some, show (104 : Int32) + nI (fromN q) + nI (c q) = nI (104 + fromN q + c q) from by rw [show (104 : Int32) = nI 104 from rfl, add_nI, add_nI], inb_nI_t (show 104 + fromN q + c q < 130 by omega) (by decide), if_pos rfl, nI_clamp (by omega), hl]
      simp only
      obtain ⟨M8, a8, b8, d8⟩ := nx_m B (d3.L (f := vp_updL (M3.2 57 0) (104 + fromN q + c q) (nx P n t).2.2.2.2.1))
      rw [a8, Option.bind_some]
      refine ⟨_, rfl, (b3.y.r.tr (McF.L (by omega))).tr b8.y.r, ?_, ?_, rfl, d8, by omega, b8.y.N (fun p hp => ⟨(N3 p hp).1, (N3 p hp).2.1, fun i hi => ?_⟩), ?_⟩
      · rw [(b8.1 55 0 (by omega)).1]; exact (b3.1 55 0 (by omega)).1
      · rw [b8.2.1 24 (by omega)]; exact b3.2.1 24 (by omega)
      · have hpm := (N3 p hp).2.1
        rw [sL_at]
        by_cases e : p = q
        · rw [updL_ne _ _ (by subst e; omega)]; exact (N3 p hp).2.2 i hi
        · have := from_sep p hp q hq e
          rw [updL_ne _ _ (by omega)]; exact (N3 p hp).2.2 i hi
      · rw [(b8.1 57 0 (by omega)).2, sL_at, updL_at]
    · rw [if_neg c2, if_pos (show (0 : Int32) = 0 from rfl), if_neg c2]
      obtain ⟨M', a, b, d⟩ := wrong_m d3.2.2.2 d3.2.1 d3.2.2.1.2.2.1
      rw [a, Option.bind_some]
      unfold f_X11_readNew_50
      rw [d.2.1, if_neg (pos_ne d.1), new102_b d]
      exact ⟨_, rfl, (b3.y.tr b).r, ((b3.y.tr b).1 55 0 (by omega)).1, (b3.y.tr b).2.1 24 (by omega), rfl, d⟩
