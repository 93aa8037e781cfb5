/-! ===== tokens, on both ===== -/
def isL (x : Int32) : Bool := decide (¬ x < 97) && decide (¬ (122 : Int32) < x)
def isD (x : Int32) : Bool := decide (¬ x < 48) && decide (¬ (57 : Int32) < x)
def isW (x : Int32) : Bool := decide (x = 32) || decide (x = 10)
def isG (x : Int32) : Bool := decide (x = 59) || decide (x = 60) || decide (x = 62) || decide (x = 61)
def runP (q : Int32 → Bool) (P : Nat → Int32) : Nat → Nat → Nat
  | 0, p => p
  | k + 1, p => if q (P p) = true then runP q P k (p + 1) else p
def packS (P : Nat → Int32) (s : Nat) : Nat → Int64
  | 0 => 0
  | k + 1 => packS P s k * (32 : Int64) + ((P (s + k) - (97 : Int32)) + (1 : Int32)).toInt64
def numS (P : Nat → Int32) (s : Nat) : Nat → Int32
  | 0 => 0
  | k + 1 => numS P s k * (10 : Int32) + (P (s + k) - (48 : Int32))
/-- a token: where it begins, where what is behind it begins, its kind (0 end, 1 word, 2 number, 3 sign, 4 none), how many letters, the letters, the number or sign -/
abbrev Tk : Type := Nat × Nat × Nat × Nat × Int64 × Int32
def tokA (P : Nat → Int32) (n a : Nat) : Tk :=
  if n ≤ a then (a, a, 0, 0, 0, 0)
  else if isL (P a) = true then (a, runP isL P (n - a) a, 1, runP isL P (n - a) a - a, (if 8 < runP isL P (n - a) a - a then 0 else packS P a (runP isL P (n - a) a - a)), 0)
  else if isD (P a) = true then (a, runP isD P (n - a) a, (if 4 < runP isD P (n - a) a - a then 4 else 2), 0, 0, numS P a (min 4 (runP isD P (n - a) a - a)))
  else (a, a + 1, (if isG (P a) = true then 3 else 4), 0, 0, P a)
def tokS (P : Nat → Int32) (n p : Nat) : Tk := tokA P n (runP isW P (n - p) p)
set_option maxHeartbeats 600000 in
theorem runP_le (q : Int32 → Bool) (P : Nat → Int32) : ∀ (k p : Nat), p ≤ runP q P k p ∧ runP q P k p ≤ p + k
  | 0, p => ⟨Nat.le_refl _, Nat.le_refl _⟩
  | k + 1, p => by
    show p ≤ (if q (P p) = true then runP q P k (p + 1) else p) ∧ (if q (P p) = true then runP q P k (p + 1) else p) ≤ p + (k + 1)
    have := runP_le q P k (p + 1)
    by_cases c : q (P p) = true
    · rw [if_pos c]; omega
    · rw [if_neg c]; omega
-- which reserved word
def kwF (l : Int64) : Nat → Nat → Int32
  | 0, _ => -1
  | k + 1, i => if resW i = l then nI i else kwF l k (i + 1)
def kwS (l : Int64) : Int32 := kwF l 30 0
set_option maxHeartbeats 600000 in
theorem kwF_val {l : Int64} : ∀ (k i : Nat), kwF l k i = -1 ∨ ∃ j, i ≤ j ∧ j < i + k ∧ kwF l k i = nI j ∧ resW j = l
  | 0, _ => Or.inl rfl
  | k + 1, i => by
    show (if resW i = l then nI i else kwF l k (i + 1)) = -1 ∨ ∃ j, i ≤ j ∧ j < i + (k + 1) ∧ (if resW i = l then nI i else kwF l k (i + 1)) = nI j ∧ resW j = l
    by_cases c : resW i = l
    · right
      refine ⟨i, Nat.le_refl _, by omega, ?_, c⟩
      rw [if_pos c]
    · rw [if_neg c]
      rcases kwF_val (l := l) k (i + 1) with h | ⟨j, h1, h2, h3, h4⟩
      · exact Or.inl h
      · exact Or.inr ⟨j, by omega, by omega, h3, h4⟩
set_option maxHeartbeats 600000 in
theorem kw_of : ∀ i, i < 30 → kwS (resW i) = nI i := by decide +kernel
set_option maxHeartbeats 600000 in
theorem res_ne0 : ∀ i, i < 30 → ¬ resW i = 0 := by decide +kernel
set_option maxHeartbeats 600000 in
theorem res_pos : ∀ i, i < 30 → ¬ resW i = -1 := by decide +kernel
set_option maxHeartbeats 600000 in
theorem m1_nI : ∀ i, i < 30 → ¬ nI i = -1 := by decide +kernel
set_option maxHeartbeats 600000 in
theorem kw_iff {l : Int64} {i : Nat} (hi : i < 30) : kwS l = nI i ↔ l = resW i := by
  constructor
  · intro h
    rcases kwF_val (l := l) 30 0 with z | ⟨j, h1, h2, h3, h4⟩
    · exact absurd (h.symm.trans z) (m1_nI i hi)
    · have : nI i = nI j := h.symm.trans h3
      rw [eq_nI (by omega) (by omega)] at this
      rw [this]; exact h4.symm
  · intro h
    rw [h]; exact kw_of i hi
set_option maxHeartbeats 600000 in
theorem kw_none {l : Int64} : kwS l = -1 ↔ ∀ i, i < 30 → ¬ l = resW i := by
  constructor
  · intro h i hi e
    exact absurd (((kw_iff hi).mpr e).symm.trans h) (m1_nI i hi)
  · intro h
    rcases kwF_val (l := l) 30 0 with z | ⟨j, h1, h2, h3, h4⟩
    · exact z
    · exact absurd h4.symm (h j (by omega))
set_option maxHeartbeats 600000 in
theorem kw_0 : kwS 0 = -1 := by decide +kernel
-- the class
def AFr (M M' : Mem) : Prop := (∀ c i, ¬ (c = 30 ∧ i = 0) → M'.1 c i = M.1 c i ∧ M'.2 c i = M.2 c i) ∧ ∀ j, ¬ (4 ≤ j ∧ j ≤ 7) → M'.1 30 0 j = M.1 30 0 j
set_option maxHeartbeats 600000 in
theorem AFr.rf {M : Mem} : AFr M M := ⟨fun _ _ _ => ⟨rfl, rfl⟩, fun _ _ => rfl⟩
set_option maxHeartbeats 600000 in
theorem AFr.tr {M M1 M2 : Mem} (a : AFr M M1) (b : AFr M1 M2) : AFr M M2 := ⟨fun c i h => ⟨(b.1 c i h).1.trans (a.1 c i h).1, (b.1 c i h).2.trans (a.1 c i h).2⟩, fun j h => (b.2 j h).trans (a.2 j h)⟩
set_option maxHeartbeats 600000 in
theorem AFr.R {M : Mem} {p : Nat} {v : Int32} (hp : 4 ≤ p ∧ p ≤ 7) : AFr M (sR M 30 0 (upd (M.1 30 0) p v)) := ⟨fun c i h => ⟨sR_ne _ _ _ _ h, rfl⟩, fun j h => by rw [sR_at, upd_ne _ _ (fun z => h (by rw [z]; exact hp))]⟩
set_option maxHeartbeats 600000 in
theorem AFr.L {M : Mem} {f : Nat → Int64} : AFr M (sL M 30 0 f) := ⟨fun c i h => ⟨rfl, sL_ne _ _ _ _ h⟩, fun _ _ => rfl⟩
def TkX (M : Mem) (t : Tk) : Prop := M.1 30 0 5 = nI t.1 ∧ M.1 30 0 4 = nI t.2.1 ∧ M.1 30 0 6 = nI t.2.2.1 ∧ (t.2.2.1 = 1 → M.1 30 0 7 = kwS t.2.2.2.2.1 ∧ M.2 30 0 8 = t.2.2.2.2.1) ∧ (t.2.2.1 = 2 ∨ t.2.2.1 = 3 → M.1 30 0 7 = t.2.2.2.2.2)
set_option maxHeartbeats 600000 in
theorem kw_loop {l : Int64} : ∀ (k i fu : Nat) (M : Mem), i + k = 30 → k < fu → (∀ i, i < 30 → M.2 32 0 i = resW i) → M.2 30 0 8 = l → M.1 30 0 7 = -1 →
    ∃ M', f_X5_lookAtWord_120 fu (nI i) M = some M' ∧ M'.1 30 0 7 = kwF l k i ∧ M'.2 = M.2 ∧ (∀ c x, ¬ (c = 30 ∧ x = 0) → M'.1 c x = M.1 c x) ∧ ∀ j, ¬ j = 7 → M'.1 30 0 j = M.1 30 0 j
  | k, i, 0, M, _, h, _, _, _ => by omega
  | 0, i, fu + 1, M, hi, _, hr, hl, hv => by
    refine ⟨M, ?_, hv, rfl, fun _ _ _ => rfl, fun _ _ => rfl⟩
    rw [f_X5_lookAtWord_120, if_neg (by show ¬ nI i < nI 30; rw [lt_nI (by omega) (by omega)]; omega)]
  | k + 1, i, fu + 1, M, hi, hk, hr, hl, hv => by
    have es : kwF l (k + 1) i = if resW i = l then nI i else kwF l k (i + 1) := rfl
    rw [f_X5_lookAtWord_120, if_pos (by show nI i < nI 30; rw [lt_nI (by omega) (by omega)]; omega), hv, if_pos rfl, inb_nI_t (show i < 30 by omega) (by decide), if_pos rfl, nI_clamp (by omega), hr i (by omega), hl, show nI i + (1 : Int32) = nI (i + 1) from add_nI i 1, es]
    by_cases c : resW i = l
    · rw [if_pos (by rw [lg_cmp_eq]; exact c), if_pos c]
      obtain ⟨fu', rfl⟩ : ∃ fu', fu = fu' + 1 := ⟨fu - 1, by omega⟩
      refine ⟨sR M 30 0 (upd (M.1 30 0) 7 (nI i)), ?_, by rw [sR_at, upd_at], rfl, fun c x h => sR_ne _ _ _ _ h, fun j h => by rw [sR_at, upd_ne _ _ h]⟩
      simp only
      rw [f_X5_lookAtWord_120, sR_at, upd_at]
      by_cases d : i + 1 < 30
      · rw [if_pos (by show nI (i + 1) < nI 30; rw [lt_nI (by omega) (by omega)]; exact d), if_neg (m1_nI i (by omega))]
      · rw [if_neg (by show ¬ nI (i + 1) < nI 30; rw [lt_nI (by omega) (by omega)]; exact d)]
    · rw [if_neg (by rw [lg_cmp_eq]; exact c), if_neg c]
      exact kw_loop k (i + 1) fu M (by omega) (by omega) hr hl hv
set_option maxHeartbeats 600000 in
theorem nsub {a p : Nat} (h : a ≤ p) : nI p - nI a = nI (p - a) := sub_nI h
set_option maxHeartbeats 600000 in
theorem lw5_loop {P : Nat → Int32} {n a : Nat} (hn : n ≤ 900) : ∀ (k p fu : Nat) (M : Mem), p + k = n → k < fu → a ≤ p → (∀ j, j < n → M.1 31 0 j = P j) → M.1 30 0 3 = nI n → M.1 30 0 4 = nI p → M.1 30 0 5 = nI a → M.2 30 0 8 = packS P a (min 8 (p - a)) →
    ∃ M', f_X5_lookAtWord_5 fu M = f_X5_lookAtWord_120 FU (nI 0) M' ∧ M'.1 30 0 4 = nI (runP isL P k p) ∧ M'.2 30 0 8 = (if 8 < runP isL P k p - a then 0 else packS P a (runP isL P k p - a)) ∧ (∀ c i, ¬ (c = 30 ∧ i = 0) → M'.1 c i = M.1 c i ∧ M'.2 c i = M.2 c i) ∧ ∀ j, ¬ j = 4 → M'.1 30 0 j = M.1 30 0 j
  | k, p, 0, M, _, h, _, _, _, _, _, _ => by omega
  | k, p, fu + 1, M, hp, hk, ha, hP, h3, h4, h5, h8 => by
    have fin : ∃ M', (if (8 : Int32) < nI p - nI a then f_X5_lookAtWord_120 FU (0 : Int32) (sL M 30 0 (vp_updL (M.2 30 0) 8 (0 : Int64))) else f_X5_lookAtWord_120 FU (0 : Int32) M) = f_X5_lookAtWord_120 FU (nI 0) M' ∧ M'.1 30 0 4 = nI p ∧ M'.2 30 0 8 = (if 8 < p - a then 0 else packS P a (p - a)) ∧ (∀ c i, ¬ (c = 30 ∧ i = 0) → M'.1 c i = M.1 c i ∧ M'.2 c i = M.2 c i) ∧ ∀ j, ¬ j = 4 → M'.1 30 0 j = M.1 30 0 j := by
      rw [nsub ha]
      by_cases c : 8 < p - a
      · refine ⟨sL M 30 0 (vp_updL (M.2 30 0) 8 (0 : Int64)), ?_, h4, ?_, fun c i h => ⟨rfl, sL_ne _ _ _ _ h⟩, fun _ _ => rfl⟩
        · rw [if_pos (show (8 : Int32) < nI (p - a) from by show nI 8 < _; rw [lt_nI (by omega) (by omega)]; exact c)]
          rfl
        · rw [if_pos c, sL_at, updL_at]
      · refine ⟨M, ?_, h4, ?_, fun _ _ _ => ⟨rfl, rfl⟩, fun _ _ => rfl⟩
        · rw [if_neg (show ¬ (8 : Int32) < nI (p - a) from by show ¬ nI 8 < _; rw [lt_nI (by omega) (by omega)]; exact c)]
          rfl
        · rw [if_neg c, h8, Nat.min_eq_right (by omega)]
    cases k with
    | zero =>
      rw [f_X5_lookAtWord_5, h4, h3, if_neg (by rw [lt_nI (by omega) (by omega)]; omega), h5]
      exact fin
    | succ k =>
      have es : runP isL P (k + 1) p = if isL (P p) = true then runP isL P k (p + 1) else p := rfl
      rw [f_X5_lookAtWord_5, h4, h3, if_pos (by rw [lt_nI (by omega) (by omega)]; omega), inb_nI_t (show p < 900 by omega) (by decide), if_pos rfl, if_pos rfl, nI_clamp (by omega), hP p (by omega), h5, es]
      by_cases c1 : P p < 97
      · have e : isL (P p) = false := by unfold isL; simp [c1]
        rw [if_pos c1, e, if_neg (show ¬ (false = true) from by decide)]
        exact fin
      · rw [if_neg c1]
        by_cases c2 : (122 : Int32) < P p
        · have e : isL (P p) = false := by unfold isL; simp [c2]
          rw [if_pos c2, e, if_neg (show ¬ (false = true) from by decide)]
          exact fin
        · have e : isL (P p) = true := by unfold isL; simp [c1, c2]
          rw [if_neg c2, e, if_pos rfl, nsub ha, show nI p + (1 : Int32) = nI (p + 1) from add_nI p 1]
          by_cases c3 : p - a < 8
          · rw [if_pos (show nI (p - a) < (8 : Int32) from by show _ < nI 8; rw [lt_nI (by omega) (by omega)]; exact c3), if_pos rfl, h8]
            simp only
            have e4 : (sL M 30 0 (vp_updL (M.2 30 0) 8 (packS P a (min 8 (p - a)) * (32 : Int64) + (P p - (97 : Int32) + (1 : Int32)).toInt64))).1 30 0 4 = nI p := h4
            rw [e4, show nI p + (1 : Int32) = nI (p + 1) from add_nI p 1]
            obtain ⟨M', a1, a2, a3, a4, a5⟩ := lw5_loop (P := P) (a := a) hn k (p + 1) fu (sR (sL M 30 0 (vp_updL (M.2 30 0) 8 (packS P a (min 8 (p - a)) * (32 : Int64) + (P p - (97 : Int32) + (1 : Int32)).toInt64))) 30 0 (upd ((sL M 30 0 (vp_updL (M.2 30 0) 8 (packS P a (min 8 (p - a)) * (32 : Int64) + (P p - (97 : Int32) + (1 : Int32)).toInt64))).1 30 0) 4 (nI (p + 1)))) (by omega) (by omega) (by omega) (fun j hj => by rw [sR_ne _ _ _ _ (by decide)]; exact hP j hj) (by rw [sR_at, upd_ne _ _ (by decide)]; exact h3) (by rw [sR_at, upd_at]) (by rw [sR_at, upd_ne _ _ (by decide)]; exact h5) (by
              rw [sR_2, sL_at, updL_at, Nat.min_eq_right (show p - a ≤ 8 by omega), Nat.min_eq_right (show p + 1 - a ≤ 8 by omega), show p + 1 - a = (p - a) + 1 by omega]
              show _ = packS P a (p - a) * (32 : Int64) + ((P (a + (p - a)) - (97 : Int32)) + (1 : Int32)).toInt64
              rw [show a + (p - a) = p by omega])
            refine ⟨M', a1, a2, a3, fun c i h => ?_, fun j h => ?_⟩
            · obtain ⟨q1, q2⟩ := a4 c i h
              exact ⟨q1.trans (sR_ne _ _ _ _ h), q2.trans (sL_ne _ _ _ _ h)⟩
            · rw [a5 j h, sR_at, upd_ne _ _ h]
              rfl
          · rw [if_neg (show ¬ nI (p - a) < (8 : Int32) from by show ¬ _ < nI 8; rw [lt_nI (by omega) (by omega)]; exact c3)]
            obtain ⟨M', a1, a2, a3, a4, a5⟩ := lw5_loop (P := P) (a := a) hn k (p + 1) fu (sR M 30 0 (upd (M.1 30 0) 4 (nI (p + 1)))) (by omega) (by omega) (by omega) (fun j hj => by rw [sR_ne _ _ _ _ (by decide)]; exact hP j hj) (by rw [sR_at, upd_ne _ _ (by decide)]; exact h3) (by rw [sR_at, upd_at]) (by rw [sR_at, upd_ne _ _ (by decide)]; exact h5) (by
              rw [sR_2, h8, Nat.min_eq_left (by omega), Nat.min_eq_left (by omega)])
            refine ⟨M', a1, a2, a3, fun c i h => ?_, fun j h => ?_⟩
            · obtain ⟨q1, q2⟩ := a4 c i h
              exact ⟨q1.trans (sR_ne _ _ _ _ h), q2⟩
            · rw [a5 j h, sR_at, upd_ne _ _ h]
set_option maxHeartbeats 600000 in
theorem ln10_loop {P : Nat → Int32} {n a : Nat} (hn : n ≤ 900) : ∀ (k p fu : Nat) (M : Mem), p + k = n → k < fu → a ≤ p → (∀ j, j < n → M.1 31 0 j = P j) → M.1 30 0 3 = nI n → M.1 30 0 4 = nI p → M.1 30 0 5 = nI a → M.1 30 0 6 = 2 → M.1 30 0 7 = numS P a (min 4 (p - a)) →
    ∃ M', f_X5_lookAtNumber_10 fu M = some M' ∧ M'.1 30 0 4 = nI (runP isD P k p) ∧ M'.1 30 0 6 = nI (if 4 < runP isD P k p - a then 4 else 2) ∧ M'.1 30 0 7 = numS P a (min 4 (runP isD P k p - a)) ∧ M'.1 30 0 5 = nI a ∧ AFr M M'
  | k, p, 0, M, _, h, _, _, _, _, _, _, _ => by omega
  | k, p, fu + 1, M, hp, hk, ha, hP, h3, h4, h5, h6, h7 => by
    have fin : ∃ M', (if (4 : Int32) < nI p - nI a then some (sR M 30 0 (upd (M.1 30 0) 6 (4 : Int32))) else some M) = some M' ∧ M'.1 30 0 4 = nI p ∧ M'.1 30 0 6 = nI (if 4 < p - a then 4 else 2) ∧ M'.1 30 0 7 = numS P a (min 4 (p - a)) ∧ M'.1 30 0 5 = nI a ∧ AFr M M' := by
      rw [nsub ha]
      by_cases c : 4 < p - a
      · refine ⟨_, if_pos (show (4 : Int32) < nI (p - a) from by show nI 4 < _; rw [lt_nI (by omega) (by omega)]; exact c), ?_, ?_, ?_, ?_, AFr.R (by omega)⟩
        · rw [sR_at, upd_ne _ _ (by decide)]; exact h4
        · rw [sR_at, upd_at, if_pos c]; rfl
        · rw [sR_at, upd_ne _ _ (by decide)]; exact h7
        · rw [sR_at, upd_ne _ _ (by decide)]; exact h5
      · refine ⟨M, if_neg (show ¬ (4 : Int32) < nI (p - a) from by show ¬ nI 4 < _; rw [lt_nI (by omega) (by omega)]; exact c), h4, ?_, h7, h5, AFr.rf⟩
        rw [if_neg c]; exact h6
    cases k with
    | zero =>
      rw [f_X5_lookAtNumber_10, h4, h3, if_neg (by rw [lt_nI (by omega) (by omega)]; omega), h5]
      exact fin
    | succ k =>
      have es : runP isD P (k + 1) p = if isD (P p) = true then runP isD P k (p + 1) else p := rfl
      rw [f_X5_lookAtNumber_10, h4, h3, if_pos (by rw [lt_nI (by omega) (by omega)]; omega), inb_nI_t (show p < 900 by omega) (by decide), if_pos rfl, if_pos rfl, nI_clamp (by omega), hP p (by omega), h5, es]
      by_cases c1 : P p < 48
      · have e : isD (P p) = false := by unfold isD; simp [c1]
        rw [if_pos c1, e, if_neg (show ¬ (false = true) from by decide)]
        exact fin
      · rw [if_neg c1]
        by_cases c2 : (57 : Int32) < P p
        · have e : isD (P p) = false := by unfold isD; simp [c2]
          rw [if_pos c2, e, if_neg (show ¬ (false = true) from by decide)]
          exact fin
        · have e : isD (P p) = true := by unfold isD; simp [c1, c2]
          rw [if_neg c2, e, if_pos rfl, nsub ha]
          by_cases c3 : p - a < 4
          · rw [if_pos (show nI (p - a) < (4 : Int32) from by show _ < nI 4; rw [lt_nI (by omega) (by omega)]; exact c3), if_pos rfl, h7]
            simp only
            have e4 : (sR M 30 0 (upd (M.1 30 0) 7 (numS P a (min 4 (p - a)) * (10 : Int32) + (P p - (48 : Int32))))).1 30 0 4 = nI p := by rw [sR_at, upd_ne _ _ (by decide)]; exact h4
            rw [e4, show nI p + (1 : Int32) = nI (p + 1) from add_nI p 1]
            obtain ⟨M', a1, a2, a3, a4, a5, a6⟩ := ln10_loop (P := P) (a := a) hn k (p + 1) fu (sR (sR M 30 0 (upd (M.1 30 0) 7 (numS P a (min 4 (p - a)) * (10 : Int32) + (P p - (48 : Int32))))) 30 0 (upd ((sR M 30 0 (upd (M.1 30 0) 7 (numS P a (min 4 (p - a)) * (10 : Int32) + (P p - (48 : Int32))))).1 30 0) 4 (nI (p + 1)))) (by omega) (by omega) (by omega) (fun j hj => by rw [sR_ne _ _ _ _ (by decide), sR_ne _ _ _ _ (by decide)]; exact hP j hj) (by rw [sR_at, upd_ne _ _ (by decide), sR_at, upd_ne _ _ (by decide)]; exact h3) (by rw [sR_at, upd_at]) (by rw [sR_at, upd_ne _ _ (by decide), sR_at, upd_ne _ _ (by decide)]; exact h5) (by rw [sR_at, upd_ne _ _ (by decide), sR_at, upd_ne _ _ (by decide)]; exact h6) (by
              rw [sR_at, upd_ne _ _ (by decide), sR_at, upd_at, Nat.min_eq_right (show p - a ≤ 4 by omega), Nat.min_eq_right (show p + 1 - a ≤ 4 by omega), show p + 1 - a = (p - a) + 1 by omega]
              show _ = numS P a (p - a) * (10 : Int32) + (P (a + (p - a)) - (48 : Int32))
              rw [show a + (p - a) = p by omega])
            exact ⟨M', a1, a2, a3, a4, a5, ((AFr.R (by omega)).tr (AFr.R (by omega))).tr a6⟩
          · rw [if_neg (show ¬ nI (p - a) < (4 : Int32) from by show ¬ _ < nI 4; rw [lt_nI (by omega) (by omega)]; exact c3), show nI p + (1 : Int32) = nI (p + 1) from add_nI p 1]
            obtain ⟨M', a1, a2, a3, a4, a5, a6⟩ := ln10_loop (P := P) (a := a) hn k (p + 1) fu (sR M 30 0 (upd (M.1 30 0) 4 (nI (p + 1)))) (by omega) (by omega) (by omega) (fun j hj => by rw [sR_ne _ _ _ _ (by decide)]; exact hP j hj) (by rw [sR_at, upd_ne _ _ (by decide)]; exact h3) (by rw [sR_at, upd_at]) (by rw [sR_at, upd_ne _ _ (by decide)]; exact h5) (by rw [sR_at, upd_ne _ _ (by decide)]; exact h6) (by
              rw [sR_at, upd_ne _ _ (by decide), h7, Nat.min_eq_left (by omega), Nat.min_eq_left (by omega)])
            exact ⟨M', a1, a2, a3, a4, a5, (AFr.R (by omega)).tr a6⟩
set_option maxHeartbeats 600000 in
theorem sign_sp {M : Mem} {P : Nat → Int32} {n a : Nat} (hn : n ≤ 900) (ha : a < n) (hP : ∀ j, j < n → M.1 31 0 j = P j) (h4 : M.1 30 0 4 = nI a) (h5 : M.1 30 0 5 = nI a) : ∃ M', f_X5_lookAtSign M = some M' ∧ TkX M' (a, a + 1, (if isG (P a) = true then 3 else 4), 0, 0, P a) ∧ AFr M M' := by
  have go : ∀ v : Int32, (v = nI (if isG (P a) = true then 3 else 4)) → ∃ M', some (sR (sR (sR M 30 0 (upd (M.1 30 0) 6 v)) 30 0 (upd ((sR M 30 0 (upd (M.1 30 0) 6 v)).1 30 0) 7 (P a))) 30 0 (upd ((sR (sR M 30 0 (upd (M.1 30 0) 6 v)) 30 0 (upd ((sR M 30 0 (upd (M.1 30 0) 6 v)).1 30 0) 7 (P a))).1 30 0) 4 (((sR (sR M 30 0 (upd (M.1 30 0) 6 v)) 30 0 (upd ((sR M 30 0 (upd (M.1 30 0) 6 v)).1 30 0) 7 (P a))).1 30 0 4) + (1 : Int32)))) = some M' ∧ TkX M' (a, a + 1, (if isG (P a) = true then 3 else 4), 0, 0, P a) ∧ AFr M M' := by
    intro v hv
    refine ⟨_, rfl, ⟨?_, ?_, ?_, fun z => ?_, fun _ => ?_⟩, ((AFr.R (by omega)).tr (AFr.R (by omega))).tr (AFr.R (by omega))⟩
    · rw [sR_at, upd_ne _ _ (by decide), sR_at, upd_ne _ _ (by decide), sR_at, upd_ne _ _ (by decide)]; exact h5
    · rw [sR_at, upd_at, sR_at, upd_ne _ _ (by decide), sR_at, upd_ne _ _ (by decide), h4]; exact add_nI a 1
    · rw [sR_at, upd_ne _ _ (by decide), sR_at, upd_ne _ _ (by decide), sR_at, upd_at, hv]
    · exfalso
      have z : (if isG (P a) = true then 3 else 4) = 1 := z
      by_cases c : isG (P a) = true
      · rw [if_pos c] at z; omega
      · rw [if_neg c] at z; omega
    · rw [sR_at, upd_ne _ _ (by decide), sR_at, upd_at]
  unfold f_X5_lookAtSign
  rw [h5, inb_nI_t (show a < 900 by omega) (by decide), if_pos rfl, nI_clamp (by omega), hP a ha]
  simp only
  by_cases c1 : P a = 59
  · rw [if_pos c1]; exact go 3 (by rw [show isG (P a) = true from by unfold isG; simp [c1]]; rfl)
  · rw [if_neg c1]
    by_cases c2 : P a = 60
    · rw [if_pos c2]; exact go 3 (by rw [show isG (P a) = true from by unfold isG; simp [c2]]; rfl)
    · rw [if_neg c2]
      by_cases c3 : P a = 62
      · rw [if_pos c3]; exact go 3 (by rw [show isG (P a) = true from by unfold isG; simp [c3]]; rfl)
      · rw [if_neg c3]
        by_cases c4 : P a = 61
        · rw [if_pos c4]; exact go 3 (by rw [show isG (P a) = true from by unfold isG; simp [c4]]; rfl)
        · rw [if_neg c4]; exact go 4 (by rw [show isG (P a) = false from by unfold isG; simp [c1, c2, c3, c4]]; rfl)
def TapX (M : Mem) (P : Nat → Int32) (n : Nat) : Prop := M.1 30 0 3 = nI n ∧ (∀ j, j < n → M.1 31 0 j = P j) ∧ ∀ i, i < 30 → M.2 32 0 i = resW i
set_option maxHeartbeats 600000 in
theorem AFr.T {M M' : Mem} {P : Nat → Int32} {n : Nat} (f : AFr M M') (h : TapX M P n) : TapX M' P n :=
  ⟨by rw [f.2 3 (by omega)]; exact h.1, fun j hj => by rw [(f.1 31 0 (by decide)).1]; exact h.2.1 j hj, fun i hi => by rw [(f.1 32 0 (by decide)).2]; exact h.2.2 i hi⟩
set_option maxHeartbeats 600000 in
theorem adv52_sp {M : Mem} {P : Nat → Int32} {n a : Nat} (hn : n ≤ 900) (hT : TapX M P n) (h4 : M.1 30 0 4 = nI a) (ha9 : a ≤ 900) : ∃ M', f_X5_advance_52 M = some M' ∧ TkX M' (tokA P n a) ∧ AFr M M' := by
  obtain ⟨M3, e3, F3, g4, g5, g7, g8⟩ : ∃ M3, f_X5_advance_52 M = (if (M3.1 30 0 5) < (M3.1 30 0 3) then if inb (M3.1 30 0 5) 900 = true then if (M3.1 31 0 ((M3.1 30 0 5).toNatClampNeg)) < (97 : Int32) then f_X5_advance_124 M3 else if inb (M3.1 30 0 5) 900 = true then if (122 : Int32) < (M3.1 31 0 ((M3.1 30 0 5).toNatClampNeg)) then f_X5_advance_124 M3 else (f_X5_lookAtWord M3).bind fun M11 => some M11 else none else none else some (sR M3 30 0 (upd (M3.1 30 0) 6 (0 : Int32)))) ∧ AFr M M3 ∧ M3.1 30 0 4 = nI a ∧ M3.1 30 0 5 = nI a ∧ M3.1 30 0 7 = -1 ∧ M3.2 30 0 8 = 0 := by
    refine ⟨sL (sR (sR M 30 0 (upd (M.1 30 0) 5 (M.1 30 0 4))) 30 0 (upd ((sR M 30 0 (upd (M.1 30 0) 5 (M.1 30 0 4))).1 30 0) 7 (-1 : Int32))) 30 0 (vp_updL ((sR (sR M 30 0 (upd (M.1 30 0) 5 (M.1 30 0 4))) 30 0 (upd ((sR M 30 0 (upd (M.1 30 0) 5 (M.1 30 0 4))).1 30 0) 7 (-1 : Int32))).2 30 0) 8 (0 : Int64)), rfl, ((AFr.R (by omega)).tr (AFr.R (by omega))).tr AFr.L, ?_, ?_, ?_, ?_⟩
    · rw [sL_1, sR_at, upd_ne _ _ (by decide), sR_at, upd_ne _ _ (by decide)]; exact h4
    · rw [sL_1, sR_at, upd_ne _ _ (by decide), sR_at, upd_at]; exact h4
    · rw [sL_1, sR_at, upd_at]
    · rw [sL_at, updL_at]
  have T3 := F3.T hT
  obtain ⟨t1, t2, t3⟩ := T3
  rw [e3, g5, t1]
  unfold tokA
  by_cases c : n ≤ a
  · rw [if_neg (by rw [lt_nI (by omega) (by omega)]; omega), if_pos c]
    refine ⟨_, rfl, ⟨?_, ?_, ?_, fun z => absurd (show (0 : Nat) = 1 from z) (by decide), fun z => absurd (show (0 : Nat) = 2 ∨ (0 : Nat) = 3 from z) (by decide)⟩, F3.tr (AFr.R (by omega))⟩
    · rw [sR_at, upd_ne _ _ (by decide)]; exact g5
    · rw [sR_at, upd_ne _ _ (by decide)]; exact g4
    · rw [sR_at, upd_at]; rfl
  · rw [if_pos (by rw [lt_nI (by omega) (by omega)]; omega), if_neg c, inb_nI_t (show a < 900 by omega) (by decide), if_pos rfl, if_pos rfl, nI_clamp (by omega), t2 a (by omega)]
    have e124 : isL (P a) = false → ∃ M', f_X5_advance_124 M3 = some M' ∧ TkX M' (if isL (P a) = true then (a, runP isL P (n - a) a, 1, runP isL P (n - a) a - a, (if 8 < runP isL P (n - a) a - a then 0 else packS P a (runP isL P (n - a) a - a)), 0) else if isD (P a) = true then (a, runP isD P (n - a) a, (if 4 < runP isD P (n - a) a - a then 4 else 2), 0, 0, numS P a (min 4 (runP isD P (n - a) a - a))) else (a, a + 1, (if isG (P a) = true then 3 else 4), 0, 0, P a)) ∧ AFr M3 M' := by
      intro hl
      rw [hl, if_neg (show ¬ (false = true) from by decide)]
      obtain ⟨Ms, s1, s2, s3⟩ := sign_sp (M := M3) (P := P) (n := n) (a := a) hn (by omega) t2 g4 g5
      unfold f_X5_advance_124
      rw [g5, inb_nI_t (show a < 900 by omega) (by decide), if_pos rfl, if_pos rfl, nI_clamp (by omega), t2 a (by omega)]
      by_cases d1 : P a < 48
      · have e : isD (P a) = false := by unfold isD; simp [d1]
        rw [if_pos d1, e, if_neg (show ¬ (false = true) from by decide), s1]
        exact ⟨Ms, rfl, s2, s3⟩
      · rw [if_neg d1]
        by_cases d2 : (57 : Int32) < P a
        · have e : isD (P a) = false := by unfold isD; simp [d2]
          rw [if_pos d2, e, if_neg (show ¬ (false = true) from by decide), s1]
          exact ⟨Ms, rfl, s2, s3⟩
        · have e : isD (P a) = true := by unfold isD; simp [d1, d2]
          rw [if_neg d2, e, if_pos rfl]
          have F5 : AFr M3 (sR (sR M3 30 0 (upd (M3.1 30 0) 6 (2 : Int32))) 30 0 (upd ((sR M3 30 0 (upd (M3.1 30 0) 6 (2 : Int32))).1 30 0) 7 (0 : Int32))) := (AFr.R (by omega)).tr (AFr.R (by omega))
          obtain ⟨u1, u2, u3⟩ := F5.T ⟨t1, t2, t3⟩
          obtain ⟨M', b1, b2, b3, b4, b5, b6⟩ := ln10_loop (P := P) (n := n) (a := a) hn (n - a) a FU (sR (sR M3 30 0 (upd (M3.1 30 0) 6 (2 : Int32))) 30 0 (upd ((sR M3 30 0 (upd (M3.1 30 0) 6 (2 : Int32))).1 30 0) 7 (0 : Int32))) (by omega) (lt_FU (by omega)) (Nat.le_refl _) u2 u1 (by rw [sR_at, upd_ne _ _ (by decide), sR_at, upd_ne _ _ (by decide)]; exact g4) (by rw [sR_at, upd_ne _ _ (by decide), sR_at, upd_ne _ _ (by decide)]; exact g5) (by rw [sR_at, upd_ne _ _ (by decide), sR_at, upd_at]) (by rw [sR_at, upd_at, Nat.sub_self]; rfl)
          refine ⟨M', ?_, ⟨b5, b2, b3, fun z => ?_, fun _ => b4⟩, F5.tr b6⟩
          · unfold f_X5_lookAtNumber
            simp only
            rw [b1]
            rfl
          · exfalso
            have z : (if 4 < runP isD P (n - a) a - a then 4 else 2) = 1 := z
            by_cases y : 4 < runP isD P (n - a) a - a
            · rw [if_pos y] at z; omega
            · rw [if_neg y] at z; omega
    by_cases d1 : P a < 97
    · have e : isL (P a) = false := by unfold isL; simp [d1]
      rw [if_pos d1]
      obtain ⟨M', b1, b2, b3⟩ := e124 e
      exact ⟨M', b1, b2, F3.tr b3⟩
    · rw [if_neg d1]
      by_cases d2 : (122 : Int32) < P a
      · have e : isL (P a) = false := by unfold isL; simp [d2]
        rw [if_pos d2]
        obtain ⟨M', b1, b2, b3⟩ := e124 e
        exact ⟨M', b1, b2, F3.tr b3⟩
      · have e : isL (P a) = true := by unfold isL; simp [d1, d2]
        rw [if_neg d2, e, if_pos rfl]
        have F5 : AFr M3 (sR M3 30 0 (upd (M3.1 30 0) 6 (1 : Int32))) := AFr.R (by omega)
        obtain ⟨u1, u2, u3⟩ := F5.T ⟨t1, t2, t3⟩
        obtain ⟨M6, b1, b2, b3, b4, b5⟩ := lw5_loop (P := P) (n := n) (a := a) hn (n - a) a FU (sR M3 30 0 (upd (M3.1 30 0) 6 (1 : Int32))) (by omega) (lt_FU (by omega)) (Nat.le_refl _) u2 u1 (by rw [sR_at, upd_ne _ _ (by decide)]; exact g4) (by rw [sR_at, upd_ne _ _ (by decide)]; exact g5) (by rw [sR_2, g8, Nat.sub_self]; rfl)
        obtain ⟨M7, k1, k2, k3, k4, k5⟩ := kw_loop (l := if 8 < runP isL P (n - a) a - a then 0 else packS P a (runP isL P (n - a) a - a)) 30 0 FU M6 (by omega) (lt_FU (by omega)) (fun i hi => by rw [(b4 32 0 (by decide)).2]; exact u3 i hi) b3 (by rw [b5 7 (by decide), sR_at, upd_ne _ _ (by decide)]; exact g7)
        refine ⟨M7, ?_, ⟨?_, ?_, ?_, fun _ => ⟨k2, by rw [k3]; exact b3⟩, fun z => absurd (show (1 : Nat) = 2 ∨ (1 : Nat) = 3 from z) (by decide)⟩, F3.tr (F5.tr ?_)⟩
        · unfold f_X5_lookAtWord
          simp only
          rw [b1, k1]
          rfl
        · rw [k5 5 (by decide), b5 5 (by decide), sR_at, upd_ne _ _ (by decide)]; exact g5
        · rw [k5 4 (by decide)]; exact b2
        · rw [k5 6 (by decide), b5 6 (by decide), sR_at, upd_at]; rfl
        · exact ⟨fun c i h => ⟨(k4 c i h).trans (b4 c i h).1, by rw [k3]; exact (b4 c i h).2⟩, fun j h => by rw [k5 j (by omega), b5 j (by omega)]⟩
set_option maxHeartbeats 600000 in
theorem adv0_loop {P : Nat → Int32} {n : Nat} (hn : n ≤ 900) : ∀ (k p fu : Nat) (M : Mem), p + k = n ∨ (k = 0 ∧ n ≤ p ∧ p ≤ 900) → k < fu → TapX M P n → M.1 30 0 4 = nI p → ∃ M', f_X5_advance_0 fu M = some M' ∧ TkX M' (tokA P n (runP isW P k p)) ∧ AFr M M'
  | k, p, 0, M, _, h, _, _ => by omega
  | 0, p, fu + 1, M, hp, _, hT, h4 => by
    obtain ⟨M', a1, a2, a3⟩ := adv52_sp (a := p) hn hT h4 (by omega)
    refine ⟨M', ?_, a2, a3⟩
    rw [f_X5_advance_0, h4, hT.1, if_neg (by rw [lt_nI (by omega) (by omega)]; omega)]
    exact a1
  | k + 1, p, fu + 1, M, hp, hk, hT, h4 => by
    have hp : p + (k + 1) = n := by omega
    have es : runP isW P (k + 1) p = if isW (P p) = true then runP isW P k (p + 1) else p := rfl
    have step : isW (P p) = true → ∃ M', f_X5_advance_0 fu (sR M 30 0 (upd (M.1 30 0) 4 (nI p + (1 : Int32)))) = some M' ∧ TkX M' (tokA P n (runP isW P (k + 1) p)) ∧ AFr M M' := by
      intro hw
      rw [es, if_pos hw, show nI p + (1 : Int32) = nI (p + 1) from add_nI p 1]
      have F : AFr M (sR M 30 0 (upd (M.1 30 0) 4 (nI (p + 1)))) := AFr.R (by omega)
      obtain ⟨M', a1, a2, a3⟩ := adv0_loop (P := P) hn k (p + 1) fu _ (Or.inl (by omega)) (by omega) (F.T hT) (by rw [sR_at, upd_at])
      exact ⟨M', a1, a2, F.tr a3⟩
    rw [f_X5_advance_0, h4, hT.1, if_pos (by rw [lt_nI (by omega) (by omega)]; omega), inb_nI_t (show p < 900 by omega) (by decide), if_pos rfl, if_pos rfl, nI_clamp (by omega), hT.2.1 p (by omega)]
    by_cases c1 : P p = 32
    · rw [if_pos c1]
      exact step (by unfold isW; simp [c1])
    · rw [if_neg c1]
      by_cases c2 : P p = 10
      · rw [if_pos c2]
        exact step (by unfold isW; simp [c2])
      · have e : isW (P p) = false := by unfold isW; simp [c1, c2]
        rw [if_neg c2, es, e, if_neg (show ¬ (false = true) from by decide)]
        exact adv52_sp (a := p) hn hT h4 (by omega)
set_option maxHeartbeats 600000 in
theorem advance_sp {M : Mem} {P : Nat → Int32} {n p : Nat} (hn : n ≤ 900) (hp : p ≤ 900) (hT : TapX M P n) (h4 : M.1 30 0 4 = nI p) : ∃ M', f_X5_advance M = some M' ∧ TkX M' (tokS P n p) ∧ AFr M M' := by
  by_cases c : p ≤ n
  · exact adv0_loop hn (n - p) p FU M (Or.inl (by omega)) (lt_FU (by omega)) hT h4
  · have := adv0_loop hn 0 p FU M (Or.inr ⟨rfl, by omega, hp⟩) (lt_FU (by omega)) hT h4
    unfold tokS
    rw [show n - p = 0 by omega]
    exact this
