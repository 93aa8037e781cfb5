/-! ===== the small readers of the reference ===== -/
def YFr (M M' : Mem) : Prop := (∀ c i, ¬ (c = 50 ∧ i = 0) → M'.1 c i = M.1 c i ∧ M'.2 c i = M.2 c i) ∧ (∀ j, ¬ (12 ≤ j ∧ j ≤ 18) → M'.1 50 0 j = M.1 50 0 j) ∧ ∀ j, ¬ j = 19 → M'.2 50 0 j = M.2 50 0 j
def BM (M : Mem) (f : Ft) : Prop := 0 < f.1 ∧ M.1 50 0 12 = f.1 ∧ M.1 50 0 13 = nI f.2
def GM (P : Nat → Int32) (n : Nat) (M : Mem) (t : Tk) : Prop := TapM M P n ∧ TkM M t ∧ WfT n t ∧ M.1 50 0 12 = 0
def NXm (M : Mem) (x : Nat) (c : Nat → Nat) (N : Nat → Nat → Int64) : Prop := ∀ q, q < 4 → M.1 55 0 (475 * x + q) = nI (c q) ∧ c q ≤ moN q ∧ ∀ i, i < c q → M.2 57 0 (26 * x + fromN q + i) = N q i
set_option maxHeartbeats 600000 in
theorem YFr.rf {M : Mem} : YFr M M := ⟨fun _ _ _ => ⟨rfl, rfl⟩, fun _ _ => rfl, fun _ _ => rfl⟩
set_option maxHeartbeats 600000 in
theorem YFr.tr {M M1 M2 : Mem} (a : YFr M M1) (b : YFr M1 M2) : YFr M M2 := ⟨fun c i h => ⟨(b.1 c i h).1.trans (a.1 c i h).1, (b.1 c i h).2.trans (a.1 c i h).2⟩, fun j h => (b.2.1 j h).trans (a.2.1 j h), fun j h => (b.2.2 j h).trans (a.2.2 j h)⟩
set_option maxHeartbeats 600000 in
theorem AFm.y {M M' : Mem} (a : AFm M M') : YFr M M' := ⟨a.1, fun j h => a.2.1 j (by omega), a.2.2⟩
set_option maxHeartbeats 600000 in
theorem YFr.R {M : Mem} {p : Nat} {v : Int32} (hp : 12 ≤ p ∧ p ≤ 18) : YFr M (sR M 50 0 (upd (M.1 50 0) p v)) := ⟨fun c i h => ⟨sR_ne _ _ _ _ h, rfl⟩, fun j h => by rw [sR_at, upd_ne _ _ (fun z => h (by rw [z]; exact hp))], fun _ _ => rfl⟩
set_option maxHeartbeats 600000 in
theorem YFr.T {M M' : Mem} {P : Nat → Int32} {n : Nat} (f : YFr M M') (h : TapM M P n) : TapM M' P n := ⟨by rw [f.2.1 9 (by omega)]; exact h.1, fun j hj => by rw [(f.1 54 0 (by decide)).1]; exact h.2.1 j hj, h.2.2⟩
set_option maxHeartbeats 600000 in
theorem YFr.N {M M' : Mem} {x : Nat} {c : Nat → Nat} {N : Nat → Nat → Int64} (f : YFr M M') (h : NXm M x c N) : NXm M' x c N := fun q hq => ⟨by rw [(f.1 55 0 (by omega)).1]; exact (h q hq).1, (h q hq).2.1, fun i hi => by rw [(f.1 57 0 (by omega)).2]; exact (h q hq).2.2 i hi⟩
set_option maxHeartbeats 600000 in
theorem pos_ne {v : Int32} (h : 0 < v) : ¬ v = 0 := by
  intro z
  rw [z] at h
  exact absurd h (by decide)
set_option maxHeartbeats 600000 in
theorem fail_m {M : Mem} {t : Tk} {why : Int32} (h0 : M.1 50 0 12 = 0) (ht : TkM M t) (hw : 0 < why) : ∃ M', f_X11_fail why (M.1 50 0 15) M = some M' ∧ YFr M M' ∧ BM M' (why, t.1) := by
  unfold f_X11_fail
  rw [h0, if_neg (by decide)]
  refine ⟨_, rfl, (YFr.R (by omega)).tr (YFr.R (by omega)), hw, ?_, ?_⟩
  · rw [sR_at, upd_ne _ _ (by decide), sR_at, upd_at]
  · rw [sR_at, upd_at]; exact ht.1
set_option maxHeartbeats 600000 in
theorem wrong_m {M : Mem} {t : Tk} (h0 : M.1 50 0 12 = 0) (ht : TkM M t) (hk : t.2.2.1 ≤ 4) : ∃ M', f_X11_wrong M = some M' ∧ YFr M M' ∧ BM M' (badK t 2) := by
  unfold f_X11_wrong badK
  rw [ht.2.2.1]
  by_cases c : t.2.2.1 = 4
  · obtain ⟨M', a, b, d⟩ := fail_m (why := 1) h0 ht (by decide)
    rw [if_pos (by rw [c]; rfl), a, Option.bind_some, if_pos c]
    exact ⟨M', rfl, b, d⟩
  · obtain ⟨M', a, b, d⟩ := fail_m (why := 2) h0 ht (by decide)
    rw [if_neg (by rw [show (4 : Int32) = nI 4 from rfl, eq_nI (by omega) (by omega)]; exact c), a, Option.bind_some, if_neg c]
    exact ⟨M', rfl, b, d⟩
set_option maxHeartbeats 600000 in
theorem nx_m {M : Mem} {P : Nat → Int32} {n : Nat} {t : Tk} (B : BY P n) (h : GM P n M t) : ∃ M', f_X11_next M = some M' ∧ AFm M M' ∧ GM P n M' (nx P n t) := by
  obtain ⟨h1, h2, h3, h4⟩ := h
  obtain ⟨M', a, b, c⟩ := next_sp (p := t.2.1) B.1 (by have := h3.2.1; have := B.1; omega) h1 h2.2.1
  exact ⟨M', a, c, c.T h1, b, tokS_wf h3.2.1 B.2, by rw [c.2.1 12 (by omega)]; exact h4⟩
set_option maxHeartbeats 600000 in
theorem must_b {M : Mem} {r : Int32} {f : Ft} (h : BM M f) : f_X11_must r M = some M := by
  unfold f_X11_must
  rw [h.2.1, if_pos h.1]
set_option maxHeartbeats 600000 in
theorem must_m {M : Mem} {P : Nat → Int32} {n : Nat} {t : Tk} {r : Int32} (B : BY P n) (h : GM P n M t) : ∃ M', f_X11_must r M = some M' ∧ YFr M M' ∧ if r = 0 then BM M' (badK t 2) else GM P n M' (nx P n t) := by
  unfold f_X11_must
  rw [h.2.2.2, if_neg (by decide)]
  by_cases c : r = 0
  · obtain ⟨M', a, b, d⟩ := wrong_m h.2.2.2 h.2.1 h.2.2.1.2.2.1
    rw [if_pos c, a, Option.bind_some]
    exact ⟨M', rfl, b, by rw [if_pos c]; exact d⟩
  · obtain ⟨M', a, b, d⟩ := nx_m B h
    rw [if_neg c, a, Option.bind_some]
    exact ⟨M', rfl, b.y, by rw [if_neg c]; exact d⟩
set_option maxHeartbeats 600000 in
theorem wdm_m {M : Mem} {P : Nat → Int32} {n i : Nat} {t : Tk} (B : BY P n) (h : GM P n M t) : ∃ M', f_X11_must (iw (wdS t) i) M = some M' ∧ YFr M M' ∧ match wdR P n i t with | .inl f => BM M' f | .inr t' => GM P n M' t' := by
  obtain ⟨M', a, b, d⟩ := must_m (r := iw (wdS t) i) B h
  refine ⟨M', a, b, ?_⟩
  unfold iw at d
  unfold wdR
  by_cases c : wdS t = nI i
  · rw [if_pos c, if_neg (show ¬ (1 : Int32) = 0 from by decide)] at d
    rw [if_pos c]; exact d
  · rw [if_neg c, if_pos (show (0 : Int32) = 0 from rfl)] at d
    rw [if_neg c]; exact d
set_option maxHeartbeats 600000 in
theorem sign_m {M : Mem} {P : Nat → Int32} {n : Nat} {v : Int32} {t : Tk} (h : GM P n M t) : f_X11_isSign v M = some (if t.2.2.1 = 3 ∧ t.2.2.2.2.2 = v then 1 else 0) := by
  unfold f_X11_isSign
  have hk := h.2.2.1.2.2.1
  rw [h.2.1.2.2.1]
  by_cases c : t.2.2.1 = 3
  · rw [if_pos (by rw [c]; rfl), h.2.1.2.2.2.2 (Or.inr c)]
    by_cases c1 : t.2.2.2.2.2 = v
    · rw [if_pos c1, if_pos ⟨c, c1⟩]
    · rw [if_neg c1, if_neg (fun z => c1 z.2)]
  · rw [if_neg (by rw [show (3 : Int32) = nI 3 from rfl, eq_nI (by omega) (by omega)]; exact c), if_neg (fun z => c z.1)]
set_option maxHeartbeats 600000 in
theorem sign_t (v : Int32) (M : Mem) : ∃ r, f_X11_isSign v M = some r := by
  unfold f_X11_isSign
  split
  · split
    · exact ⟨_, rfl⟩
    · exact ⟨_, rfl⟩
  · exact ⟨_, rfl⟩
set_option maxHeartbeats 600000 in
theorem isIn_n {x lo hi : Int32} : f_X11_isIn x.toInt64 lo.toInt64 hi.toInt64 = some (if x < lo then 0 else if hi < x then 0 else 1) := by
  by_cases c : x < lo
  · rw [if_pos c]
    have := Int32.lt_iff_toInt_lt.mp c
    exact isIn_f (by rw [t64, t64]; omega)
  · rw [if_neg c]
    have c' : ¬ x.toInt < lo.toInt := fun z => c (Int32.lt_iff_toInt_lt.mpr z)
    by_cases d : hi < x
    · rw [if_pos d]
      have := Int32.lt_iff_toInt_lt.mp d
      exact isIn_f (by rw [t64, t64]; omega)
    · rw [if_neg d]
      have d' : ¬ hi.toInt < x.toInt := fun z => d (Int32.lt_iff_toInt_lt.mpr z)
      exact isIn_t (by rw [t64, t64]; omega)
set_option maxHeartbeats 600000 in
theorem count_b {M : Mem} {lo hi : Int32} {f : Ft} (h : BM M f) : f_X11_count lo hi M = some (0, M) := by
  unfold f_X11_count
  rw [h.2.1, if_neg (pos_ne h.1)]
  unfold f_X11_count_19
  rw [h.2.1, if_neg (pos_ne h.1), if_pos h.1]
def OMv (P : Nat → Int32) (n : Nat) (M : Mem) (q : Int32 × Mem) (o : Ft ⊕ (Tk × Int32)) : Prop := YFr M q.2 ∧ match o with | .inl f => BM q.2 f | .inr t => GM P n q.2 t.1 ∧ q.1 = t.2
set_option maxHeartbeats 600000 in
theorem count_m {M : Mem} {P : Nat → Int32} {n : Nat} {lo hi : Int32} {t : Tk} (B : BY P n) (h : GM P n M t) : ∃ q, f_X11_count lo hi M = some q ∧ OMv P n M q (numR P n lo hi t) := by
  have hk := h.2.2.1.2.2.1
  unfold f_X11_count numR
  rw [h.2.2.2, if_pos rfl, h.2.1.2.2.1]
  by_cases c : t.2.2.1 = 2
  · rw [if_pos (by rw [c]; rfl), if_pos c]
    unfold f_X11_count_19
    rw [h.2.2.2, if_pos rfl, h.2.1.2.2.2.2 (Or.inl c), isIn_n, Option.bind_some]
    have bad : ∃ q, ((f_X11_fail (4 : Int32) (M.1 50 0 15) M).bind fun M4 => if 0 < (M4.1 50 0 12) then some ((0 : Int32), M4) else (f_X11_next M4).bind fun M5 => some ((M4.1 50 0 17), M5)) = some q ∧ OMv P n M q (.inl (4, t.1)) := by
      obtain ⟨M', a, b, d⟩ := fail_m (why := 4) h.2.2.2 h.2.1 (by decide)
      rw [a, Option.bind_some, d.2.1, if_pos d.1]
      exact ⟨_, rfl, b, d⟩
    by_cases c1 : t.2.2.2.2.2 < lo
    · rw [if_pos c1, if_pos (show (0 : Int32) = 0 from rfl), if_pos c1]
      exact bad
    · rw [if_neg c1, if_neg c1]
      by_cases c2 : hi < t.2.2.2.2.2
      · rw [if_pos c2, if_pos (show (0 : Int32) = 0 from rfl), if_pos c2]
        exact bad
      · rw [if_neg c2, if_neg (show ¬ (1 : Int32) = 0 from by decide), if_neg c2, if_neg (show ¬ (0 : Int32) < 0 from by decide)]
        obtain ⟨M', a, b, d⟩ := nx_m B h
        rw [a, Option.bind_some]
        exact ⟨_, rfl, b.y, d, rfl⟩
  · rw [if_neg (by rw [show (2 : Int32) = nI 2 from rfl, eq_nI (by omega) (by omega)]; exact c), if_neg c]
    obtain ⟨M', a, b, d⟩ := wrong_m h.2.2.2 h.2.1 hk
    rw [a, Option.bind_some]
    unfold f_X11_count_19
    rw [d.2.1, if_neg (pos_ne d.1), if_pos d.1]
    exact ⟨_, rfl, b, d⟩
set_option maxHeartbeats 600000 in
theorem signed_b {M : Mem} {hi : Int32} {f : Ft} (h : BM M f) : f_X11_signed hi M = some (0, M) := by
  unfold f_X11_signed
  rw [h.2.1, if_neg (pos_ne h.1)]
  unfold f_X11_signed_18 f_X11_signed_19
  rw [if_pos rfl, count_b h, Option.bind_some, if_pos rfl]
set_option maxHeartbeats 600000 in
theorem signed_m {M : Mem} {P : Nat → Int32} {n : Nat} {hi : Int32} {t : Tk} (B : BY P n) (h : GM P n M t) : ∃ q, f_X11_signed hi M = some q ∧ OMv P n M q (eithR P n hi t) := by
  unfold f_X11_signed eithR
  rw [h.2.2.2, if_pos rfl, r_Less h.2.1 h.2.2.1, Option.bind_some]
  unfold iw
  by_cases c : wdS t = nI 2
  · rw [if_pos c, if_neg (show ¬ (1 : Int32) = 0 from by decide), if_pos c]
    unfold f_X11_signed_19
    obtain ⟨M1, a1, b1, d1⟩ := nx_m B h
    obtain ⟨q, a2, b2, d2⟩ := count_m (lo := 0) (hi := hi) B d1
    rw [if_neg (show ¬ (1 : Int32) = 0 from by decide), a1, Option.bind_some, a2, Option.bind_some, if_neg (show ¬ (1 : Int32) = 0 from by decide)]
    generalize numR P n 0 hi (nx P n t) = o at d2
    match o, d2 with
    | .inl f, d2 => exact ⟨_, rfl, b1.y.tr b2, d2⟩
    | .inr r, d2 =>
      refine ⟨_, rfl, b1.y.tr b2, d2.1, ?_⟩
      show -q.1 = (if wdS t = nI 2 then -r.2 else r.2)
      rw [if_pos c, d2.2]
  · rw [if_neg c, if_pos (show (0 : Int32) = 0 from rfl), if_neg c]
    unfold f_X11_signed_18 f_X11_signed_19
    obtain ⟨q, a2, b2, d2⟩ := count_m (lo := 0) (hi := hi) B h
    rw [if_pos rfl, a2, Option.bind_some, if_pos rfl]
    generalize numR P n 0 hi t = o at d2
    match o, d2 with
    | .inl f, d2 => exact ⟨_, rfl, b2, d2⟩
    | .inr r, d2 =>
      refine ⟨_, rfl, b2, d2.1, ?_⟩
      show q.1 = (if wdS t = nI 2 then -r.2 else r.2)
      rw [if_neg c, d2.2]
set_option maxHeartbeats 600000 in
theorem from_all : ∀ q, q < 4 → f_X11_fromOf (nI q) = some (nI (fromN q)) := by decide +kernel
set_option maxHeartbeats 600000 in
theorem from_le : ∀ q, q < 4 → fromN q + moN q ≤ 26 := by decide +kernel
set_option maxHeartbeats 600000 in
theorem named_loop {M : Mem} {x q : Nat} {c : Nat → Nat} {N : Nat → Nat → Int64} {l : Int64} (h : NXm M x c N) (hx : x < 5) (hq : q < 4) (hl : M.2 50 0 19 = l) : ∀ (m i fu : Nat), i + m = c q → m < fu → f_X11_named_2 (nI x) (nI q) M fu (nI i) = some (match fndF (N q) l m i with | none => -1 | some j => nI j)
  | m, i, 0, _, z => by omega
  | 0, i, fu + 1, hi, _ => by
    have hm := (h q hq).2.1
    have hm2 := moN_le q
    have e1 : (475 : Int32) * nI x + nI q = nI (475 * x + q) := by rw [show (475 : Int32) = nI 475 from rfl, mul_nI, add_nI]
    rw [f_X11_named_2, e1, inb_nI_t (show 475 * x + q < 2375 by omega) (by decide), if_pos rfl, nI_clamp (by omega), (h q hq).1, if_neg (by rw [lt_nI (by omega) (by omega)]; omega)]
    rfl
  | m + 1, i, fu + 1, hi, hf => by
    have hm := (h q hq).2.1
    have hm2 := moN_le q
    have hm3 := from_le q hq
    have e1 : (475 : Int32) * nI x + nI q = nI (475 * x + q) := by rw [show (475 : Int32) = nI 475 from rfl, mul_nI, add_nI]
    have e2 : (26 : Int32) * nI x + nI (fromN q) + nI i = nI (26 * x + fromN q + i) := by rw [show (26 : Int32) = nI 26 from rfl, mul_nI, add_nI, add_nI]
    rw [f_X11_named_2, e1, inb_nI_t (show 475 * x + q < 2375 by omega) (by decide), if_pos rfl, nI_clamp (by omega), (h q hq).1, if_pos (by rw [lt_nI (by omega) (by omega)]; omega), from_all q hq, Option.bind_some, e2, inb_nI_t (show 26 * x + fromN q + i < 130 by omega) (by decide), if_pos rfl, nI_clamp (by omega), (h q hq).2.2 i (by omega), hl, show nI i + (1 : Int32) = nI (i + 1) from add_nI i 1]
    have es : fndF (N q) l (m + 1) i = if N q i = l then some i else fndF (N q) l m (i + 1) := rfl
    rw [es]
    by_cases e : N q i = l
    · rw [if_pos (by rw [lg_cmp_eq]; exact e), if_pos e]
    · rw [if_neg (by rw [lg_cmp_eq]; exact e), if_neg e]
      exact named_loop h hx hq hl m (i + 1) fu (by omega) (by omega)
set_option maxHeartbeats 600000 in
theorem named_m {M : Mem} {x q : Nat} {c : Nat → Nat} {N : Nat → Nat → Int64} {l : Int64} (h : NXm M x c N) (hx : x < 5) (hq : q < 4) (hl : M.2 50 0 19 = l) : f_X11_named (nI x) (nI q) M = some (match fndF (N q) l (c q) 0 with | none => -1 | some j => nI j) := by
  have := (h q hq).2.1
  have := moN_le q
  exact named_loop h hx hq hl (c q) 0 FU (by omega) (lt_FU (by omega))
set_option maxHeartbeats 600000 in
theorem jmax_nI {i : Nat} (h : i < 2 ^ 31) : jmax 0 (nI i) = nI i := by
  unfold jmax
  by_cases c : (0 : Int32) < nI i
  · rw [if_pos c]
  · rw [if_neg c]
    have c : ¬ nI 0 < nI i := c
    rw [lt_nI (by omega) h] at c
    rw [show i = 0 by omega]
    rfl
set_option maxHeartbeats 600000 in
theorem nm_long {t : Tk} {n : Nat} (hw : WfT n t) (c : isNm t = true) : t.2.2.1 = 1 ∧ t.2.2.2.1 ≤ 8 := by
  unfold isNm at c
  simp only [Bool.and_eq_true, decide_eq_true_eq] at c
  refine ⟨c.1.1, ?_⟩
  rcases Nat.lt_or_ge 8 t.2.2.2.1 with h | h
  · exact absurd ((hw.2.2.2.1 c.1.1).2.1 h) c.2
  · exact h
set_option maxHeartbeats 600000 in
theorem nm_19 {M : Mem} {t : Tk} {n : Nat} (ht : TkM M t) (hw : WfT n t) (c : isNm t = true) : M.2 50 0 19 = t.2.2.2.2.1 := by
  obtain ⟨h1, h2⟩ := nm_long hw c
  rw [(ht.2.2.2.1 h1).2, if_neg (by omega)]
set_option maxHeartbeats 600000 in
theorem told_b {M : Mem} {x q : Int32} {f : Ft} (h : BM M f) : f_X11_told x q M = some (0, M) := by
  unfold f_X11_told
  rw [h.2.1, if_neg (pos_ne h.1)]
  unfold f_X11_told_18
  rw [h.2.1, if_pos h.1]
set_option maxHeartbeats 600000 in
theorem told_m {M : Mem} {P : Nat → Int32} {n x q : Nat} {c : Nat → Nat} {N : Nat → Nat → Int64} {t : Tk} (B : BY P n) (h : GM P n M t) (hN : NXm M x c N) (hx : x < 5) (hq : q < 4) : ∃ r, f_X11_told (nI x) (nI q) M = some r ∧ YFr M r.2 ∧ match seeR c N q t with | .inl f => BM r.2 f | .inr i => GM P n r.2 t ∧ r.1 = nI i ∧ i < c q := by
  have hk := h.2.2.1.2.2.1
  have hm := (hN q hq).2.1
  have hm2 := moN_le q
  unfold f_X11_told seeR
  rw [h.2.2.2, if_pos rfl, isName_m h.2.1 h.2.2.1 B.1, Option.bind_some]
  by_cases c1 : isNm t = true
  · rw [if_pos c1, if_neg (show ¬ (1 : Int32) = 0 from by decide), if_pos c1]
    unfold f_X11_told_18
    rw [h.2.2.2, if_neg (show ¬ (0 : Int32) < 0 from by decide), named_m hN hx hq (nm_19 h.2.1 h.2.2.1 c1), Option.bind_some]
    cases e : fndF (N q) t.2.2.2.2.1 (c q) 0 with
    | none =>
      simp only
      obtain ⟨M', a, b, d⟩ := fail_m (why := 3) h.2.2.2 h.2.1 (by decide)
      rw [if_pos (show (-1 : Int32) < 0 from by decide), a, Option.bind_some]
      exact ⟨_, rfl, b, d⟩
    | some j =>
      have hj := fndF_lt _ _ _ e
      simp only
      rw [if_neg (show ¬ nI j < (0 : Int32) from by show ¬ nI j < nI 0; rw [lt_nI (by omega) (by omega)]; omega), jmax_nI (by omega)]
      exact ⟨_, rfl, YFr.rf, h, rfl, by omega⟩
  · rw [if_neg c1, if_pos (show (0 : Int32) = 0 from rfl), if_neg c1]
    obtain ⟨M', a, b, d⟩ := wrong_m h.2.2.2 h.2.1 hk
    rw [a, Option.bind_some]
    unfold f_X11_told_18
    rw [d.2.1, if_pos d.1]
    exact ⟨_, rfl, b, d⟩
set_option maxHeartbeats 600000 in
theorem rtold_b {M : Mem} {x q : Int32} {f : Ft} (h : BM M f) : f_X11_readTold x q M = some (0, M) := by
  unfold f_X11_readTold
  rw [told_b h, Option.bind_some]
  simp only
  rw [must_b h, Option.bind_some]
set_option maxHeartbeats 600000 in
theorem rtold_m {M : Mem} {P : Nat → Int32} {n x q : Nat} {c : Nat → Nat} {N : Nat → Nat → Int64} {t : Tk} (B : BY P n) (h : GM P n M t) (hN : NXm M x c N) (hx : x < 5) (hq : q < 4) : ∃ r, f_X11_readTold (nI x) (nI q) M = some r ∧ YFr M r.2 ∧ match seeR c N q t with | .inl f => BM r.2 f | .inr i => GM P n r.2 (nx P n t) ∧ r.1 = nI i ∧ i < c q := by
  obtain ⟨r, a, b, d⟩ := told_m B h hN hx hq
  unfold f_X11_readTold
  rw [a, Option.bind_some]
  generalize seeR c N q t = o at d
  match o, d with
  | .inl f, d =>
    rw [must_b d, Option.bind_some]
    exact ⟨_, rfl, b, d⟩
  | .inr i, d =>
    obtain ⟨d1, d2, d3⟩ := d
    obtain ⟨M', a2, b2, e2⟩ := must_m (r := 1) B d1
    rw [if_neg (show ¬ (1 : Int32) = 0 from by decide)] at e2
    rw [a2, Option.bind_some]
    exact ⟨_, rfl, b.tr b2, e2, d2, d3⟩
