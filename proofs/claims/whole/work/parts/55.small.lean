/-! ===== the small readers: what they find, in words of their own, and that the class does so ===== -/
/-- a fault: its kind, where -/
abbrev Ft : Type := Int32 × Nat
def badK (t : Tk) (why : Int32) : Ft := (if t.2.2.1 = 4 then 1 else why, t.1)
def nx (P : Nat → Int32) (n : Nat) (t : Tk) : Tk := tokS P n t.2.1
def numR (P : Nat → Int32) (n : Nat) (lo hi : Int32) (t : Tk) : Ft ⊕ (Tk × Int32) :=
  if t.2.2.1 = 2 then (if t.2.2.2.2.2 < lo then .inl (4, t.1) else if hi < t.2.2.2.2.2 then .inl (4, t.1) else .inr (nx P n t, t.2.2.2.2.2)) else .inl (badK t 2)
def eithR (P : Nat → Int32) (n : Nat) (hi : Int32) (t : Tk) : Ft ⊕ (Tk × Int32) :=
  match numR P n 0 hi (if wdS t = nI 2 then nx P n t else t) with
  | .inl f => .inl f
  | .inr q => .inr (q.1, if wdS t = nI 2 then -q.2 else q.2)
def fndF (N : Nat → Int64) (l : Int64) : Nat → Nat → Option Nat
  | 0, _ => none
  | k + 1, i => if N i = l then some i else fndF N l k (i + 1)
def seeR (c : Nat → Nat) (N : Nat → Nat → Int64) (q : Nat) (t : Tk) : Ft ⊕ Nat :=
  if isNm t = true then (match fndF (N q) t.2.2.2.2.1 (c q) 0 with | none => .inl (3, t.1) | some i => .inr i) else .inl (badK t 2)
def wdR (P : Nat → Int32) (n i : Nat) (t : Tk) : Ft ⊕ Tk := if wdS t = nI i then .inr (nx P n t) else .inl (badK t 2)
def stopR (P : Nat → Int32) (n : Nat) (t : Tk) : Ft ⊕ Tk := if t.2.2.1 = 3 ∧ t.2.2.2.2.2 = 59 then .inr (nx P n t) else .inl (badK t 2)
def cmpR (P : Nat → Int32) (n : Nat) (t : Tk) : Ft ⊕ (Tk × Int32) := if t.2.2.1 = 3 ∧ ¬ t.2.2.2.2.2 = 59 then .inr (nx P n t, t.2.2.2.2.2) else .inl (badK t 2)
def moN (q : Nat) : Nat := if q = 0 then 10 else if q = 3 then 4 else 6
def XFr (M M' : Mem) : Prop := (∀ c i, ¬ (c = 30 ∧ i = 0) → M'.1 c i = M.1 c i ∧ M'.2 c i = M.2 c i) ∧ ∀ j, j < 4 → M'.1 30 0 j = M.1 30 0 j
def BX (M : Mem) (f : Ft) : Prop := ¬ f.1 = 0 ∧ M.1 30 0 10 = f.1 ∧ M.1 30 0 11 = nI f.2
def GX (P : Nat → Int32) (n : Nat) (M : Mem) (t : Tk) : Prop := TapX M P n ∧ TkX M t ∧ WfT n t ∧ M.1 30 0 10 = 0
def BY (P : Nat → Int32) (n : Nat) : Prop := n ≤ 900 ∧ ∀ j, j < n → inR (-128) 127 (P j)
def OX (P : Nat → Int32) (n : Nat) (M : Mem) (q : Int32 × Mem) (o : Ft ⊕ Tk) : Prop := XFr M q.2 ∧ match o with | .inl f => q.1 = 0 ∧ BX q.2 f | .inr t => q.1 = 1 ∧ GX P n q.2 t
def OXv (P : Nat → Int32) (n : Nat) (M : Mem) (q : Int32 × Mem) (o : Ft ⊕ (Tk × Int32)) : Prop := XFr M q.2 ∧ match o with | .inl f => q.1 = 0 ∧ BX q.2 f | .inr t => q.1 = 1 ∧ GX P n q.2 t.1 ∧ q.2.1 30 0 9 = t.2
def NX (M : Mem) (k : Nat) (c : Nat → Nat) (N : Nat → Nat → Int64) : Prop := ∀ q, q < 4 → M.1 9 k q = nI (c q) ∧ c q ≤ moN q ∧ ∀ i, i < c q → M.2 10 k (10 * q + i) = N q i
set_option maxHeartbeats 600000 in
theorem XFr.rf {M : Mem} : XFr M M := ⟨fun _ _ _ => ⟨rfl, rfl⟩, fun _ _ => rfl⟩
set_option maxHeartbeats 600000 in
theorem XFr.tr {M M1 M2 : Mem} (a : XFr M M1) (b : XFr M1 M2) : XFr M M2 := ⟨fun c i h => ⟨(b.1 c i h).1.trans (a.1 c i h).1, (b.1 c i h).2.trans (a.1 c i h).2⟩, fun j h => (b.2 j h).trans (a.2 j h)⟩
set_option maxHeartbeats 600000 in
theorem AFr.x {M M' : Mem} (a : AFr M M') : XFr M M' := ⟨a.1, fun j h => a.2 j (by omega)⟩
set_option maxHeartbeats 600000 in
theorem XFr.R {M : Mem} {p : Nat} {v : Int32} (hp : 4 ≤ p) : XFr M (sR M 30 0 (upd (M.1 30 0) p v)) := ⟨fun c i h => ⟨sR_ne _ _ _ _ h, rfl⟩, fun j h => by rw [sR_at, upd_ne _ _ (by omega)]⟩
set_option maxHeartbeats 600000 in
theorem XFr.T {M M' : Mem} {P : Nat → Int32} {n : Nat} (f : XFr M M') (h : TapX M P n) : TapX M' P n := ⟨by rw [f.2 3 (by omega)]; exact h.1, fun j hj => by rw [(f.1 31 0 (by decide)).1]; exact h.2.1 j hj, fun i hi => by rw [(f.1 32 0 (by decide)).2]; exact h.2.2 i hi⟩
set_option maxHeartbeats 600000 in
theorem XFr.N {M M' : Mem} {k : Nat} {c : Nat → Nat} {N : Nat → Nat → Int64} (f : XFr M M') (h : NX M k c N) : NX M' k c N := fun q hq => ⟨by rw [(f.1 9 k (by omega)).1]; exact (h q hq).1, (h q hq).2.1, fun i hi => by rw [(f.1 10 k (by omega)).2]; exact (h q hq).2.2 i hi⟩
set_option maxHeartbeats 600000 in
theorem fail_x {M : Mem} {t : Tk} {why : Int32} (h0 : M.1 30 0 10 = 0) (ht : TkX M t) (hk : t.2.2.1 ≤ 4) (hw : ¬ why = 0) : ∃ M', f_X5_fail why M = some (0, M') ∧ XFr M M' ∧ BX M' (badK t why) := by
  have go : ∀ v : Int32, v = (badK t why).1 → ∃ M', some ((0 : Int32), sR (sR M 30 0 (upd (M.1 30 0) 10 v)) 30 0 (upd ((sR M 30 0 (upd (M.1 30 0) 10 v)).1 30 0) 11 ((sR M 30 0 (upd (M.1 30 0) 10 v)).1 30 0 5))) = some (0, M') ∧ XFr M M' ∧ BX M' (badK t why) := by
    intro v hv
    refine ⟨_, rfl, (XFr.R (by omega)).tr (XFr.R (by omega)), ?_, ?_, ?_⟩
    · unfold badK
      show ¬ (if t.2.2.1 = 4 then 1 else why) = 0
      split
      · decide
      · exact hw
    · rw [sR_at, upd_ne _ _ (by decide), sR_at, upd_at]; exact hv
    · rw [sR_at, upd_at, sR_at, upd_ne _ _ (by decide)]; exact ht.1
  unfold f_X5_fail
  rw [h0, if_pos rfl, ht.2.2.1]
  by_cases c : t.2.2.1 = 4
  · rw [if_pos (by rw [c]; rfl)]
    exact go 1 (by unfold badK; exact (if_pos c).symm)
  · rw [if_neg (by rw [show (4 : Int32) = nI 4 from rfl, eq_nI (by omega) (by omega)]; exact c)]
    exact go why (by unfold badK; exact (if_neg c).symm)
set_option maxHeartbeats 600000 in
theorem fail_b {M : Mem} {t : Tk} {why : Int32} (h0 : M.1 30 0 10 = 0) (ht : TkX M t) (hk : t.2.2.1 ≤ 4) (hw : ¬ why = 0) : ∃ M', ((f_X5_fail why M).bind fun q => if isB q.1 = true then some (q.1, q.2) else none) = some (0, M') ∧ XFr M M' ∧ BX M' (badK t why) := by
  obtain ⟨M', a, b, c⟩ := fail_x h0 ht hk hw
  refine ⟨M', ?_, b, c⟩
  rw [a, Option.bind_some]
  exact if_pos (show isB (0 : Int32) = true from zB)
set_option maxHeartbeats 600000 in
theorem adv_x {M : Mem} {P : Nat → Int32} {n : Nat} {t : Tk} (B : BY P n) (h : GX P n M t) : ∃ M', f_X5_advance M = some M' ∧ AFr M M' ∧ GX P n M' (nx P n t) := by
  obtain ⟨h1, h2, h3, h4⟩ := h
  obtain ⟨M', a, b, c⟩ := advance_sp (p := t.2.1) B.1 (by have := h3.2.1; have := B.1; omega) h1 h2.2.1
  exact ⟨M', a, c, c.T h1, b, tokS_wf h3.2.1 B.2, by rw [c.2 10 (by omega)]; exact h4⟩
set_option maxHeartbeats 600000 in
theorem GX.set9 {M : Mem} {P : Nat → Int32} {n : Nat} {t : Tk} {v : Int32} (h : GX P n M t) : GX P n (sR M 30 0 (upd (M.1 30 0) 9 v)) t := by
  obtain ⟨h1, h2, h3, h4⟩ := h
  refine ⟨XFr.T (XFr.R (by omega)) h1, ⟨?_, ?_, ?_, fun z => ⟨?_, (h2.2.2.2.1 z).2⟩, fun z => ?_⟩, h3, ?_⟩
  · rw [sR_at, upd_ne _ _ (by decide)]; exact h2.1
  · rw [sR_at, upd_ne _ _ (by decide)]; exact h2.2.1
  · rw [sR_at, upd_ne _ _ (by decide)]; exact h2.2.2.1
  · rw [sR_at, upd_ne _ _ (by decide)]; exact (h2.2.2.2.1 z).1
  · rw [sR_at, upd_ne _ _ (by decide)]; exact h2.2.2.2.2 z
  · rw [sR_at, upd_ne _ _ (by decide)]; exact h4
set_option maxHeartbeats 600000 in
theorem take_x {M : Mem} {P : Nat → Int32} {n i : Nat} {t : Tk} (B : BY P n) (h : GX P n M t) : ∃ M', f_X5_takeWord (nI i) M = some (iw (wdS t) i, M') ∧ AFr M M' ∧ GX P n M' (if wdS t = nI i then nx P n t else t) := by
  unfold f_X5_takeWord iw
  rw [word_sp h.2.1 h.2.2.1.2.2.1, Option.bind_some]
  by_cases c : wdS t = nI i
  · obtain ⟨M', a, b, d⟩ := adv_x B h
    rw [if_pos c, a, Option.bind_some, if_pos c, if_pos c]
    exact ⟨M', rfl, b, d⟩
  · rw [if_neg c, if_neg c, if_neg c]
    exact ⟨M, rfl, AFr.rf, h⟩
set_option maxHeartbeats 600000 in
theorem needN_x {M : Mem} {P : Nat → Int32} {n : Nat} {lo hi : Int32} {t : Tk} (B : BY P n) (h : GX P n M t) : ∃ q, f_X5_needNumber lo hi M = some q ∧ OXv P n M q (numR P n lo hi t) := by
  have hk := h.2.2.1.2.2.1
  unfold f_X5_needNumber numR
  rw [h.2.1.2.2.1]
  by_cases c : t.2.2.1 = 2
  · have e4 : badK t 4 = (4, t.1) := by unfold badK; rw [if_neg (by omega)]
    rw [if_pos (by rw [c]; rfl), if_pos c, h.2.1.2.2.2.2 (Or.inl c)]
    by_cases c1 : t.2.2.2.2.2 < lo
    · rw [if_pos c1, if_pos c1]
      obtain ⟨M', a, b, d⟩ := fail_b (why := 4) h.2.2.2 h.2.1 hk (by decide)
      rw [e4] at d
      exact ⟨_, a, b, rfl, d⟩
    · rw [if_neg c1, if_neg c1]
      by_cases c2 : hi < t.2.2.2.2.2
      · rw [if_pos c2, if_pos c2]
        obtain ⟨M', a, b, d⟩ := fail_b (why := 4) h.2.2.2 h.2.1 hk (by decide)
        rw [e4] at d
        exact ⟨_, a, b, rfl, d⟩
      · rw [if_neg c2, if_neg c2]
        obtain ⟨M', a, b, d⟩ := adv_x B (h.set9 (v := t.2.2.2.2.2))
        simp only
        rw [a, Option.bind_some]
        exact ⟨_, rfl, (XFr.R (by omega)).tr b.x, rfl, d, by show M'.1 30 0 9 = _; rw [b.2 9 (by omega), sR_at, upd_at]⟩
  · rw [if_neg (by rw [show (2 : Int32) = nI 2 from rfl, eq_nI (by omega) (by omega)]; exact c), if_neg c]
    obtain ⟨M', a, b, d⟩ := fail_b (why := 2) h.2.2.2 h.2.1 hk (by decide)
    exact ⟨_, a, b, rfl, d⟩
set_option maxHeartbeats 600000 in
theorem eith_x {M : Mem} {P : Nat → Int32} {n : Nat} {hi : Int32} {t : Tk} (B : BY P n) (h : GX P n M t) : ∃ q, f_X5_needEither hi M = some q ∧ OXv P n M q (eithR P n hi t) := by
  obtain ⟨M1, a1, b1, d1⟩ := take_x (i := 2) B h
  obtain ⟨q, a2, b2, d2⟩ := needN_x (lo := 0) (hi := hi) B d1
  unfold f_X5_needEither eithR
  rw [show (2 : Int32) = nI 2 from rfl, a1, Option.bind_some]
  simp only
  rw [a2, Option.bind_some]
  generalize numR P n 0 hi (if wdS t = nI 2 then nx P n t else t) = o at d2
  match o, d2 with
  | .inl f, d2 =>
    obtain ⟨d3, d4⟩ := d2
    rw [if_pos d3]
    exact ⟨_, rfl, b1.x.tr b2, rfl, d4⟩
  | .inr r, d2 =>
    obtain ⟨d3, d4, d5⟩ := d2
    rw [if_neg (by rw [d3]; decide)]
    unfold iw
    by_cases c : wdS t = nI 2
    · rw [if_pos c, if_neg (show ¬ (1 : Int32) = 0 from by decide)]
      refine ⟨_, rfl, (b1.x.tr b2).tr (XFr.R (by omega)), rfl, d4.set9, ?_⟩
      show (sR q.2 30 0 (upd (q.2.1 30 0) 9 (-(q.2.1 30 0 9)))).1 30 0 9 = (if wdS t = nI 2 then -r.2 else r.2)
      rw [sR_at, upd_at, d5, if_pos c]
    · rw [if_neg c, if_pos (show (0 : Int32) = 0 from rfl)]
      refine ⟨_, rfl, (b1.x.tr b2).tr (XFr.R (by omega)), rfl, d4.set9, ?_⟩
      show (sR q.2 30 0 (upd (q.2.1 30 0) 9 (q.2.1 30 0 9))).1 30 0 9 = (if wdS t = nI 2 then -r.2 else r.2)
      rw [sR_at, upd_at, d5, if_neg c]
set_option maxHeartbeats 600000 in
theorem find_loop {M : Mem} {k q : Nat} {c : Nat → Nat} {N : Nat → Nat → Int64} {l : Int64} (h : NX M k c N) (hq : q < 4) : ∀ (m i fu : Nat), i + m = c q → m < fu → f_X1_find_3 k (nI q) l M fu (nI i) = some (match fndF (N q) l m i with | none => -1 | some j => nI j)
  | m, i, 0, _, z => by omega
  | 0, i, fu + 1, hi, _ => by
    have hm : c q ≤ moN q := (h q hq).2.1
    have hm2 : moN q ≤ 10 := by unfold moN; split; omega; split <;> omega
    rw [f_X1_find_3, inb_nI_t hq (by decide), if_pos rfl, nI_clamp (by omega), (h q hq).1, if_neg (by rw [lt_nI (by omega) (by omega)]; omega)]
    rfl
  | m + 1, i, fu + 1, hi, hf => by
    have hm : c q ≤ moN q := (h q hq).2.1
    have hm2 : moN q ≤ 10 := by unfold moN; split; omega; split <;> omega
    rw [f_X1_find_3, inb_nI_t hq (by decide), if_pos rfl, nI_clamp (by omega), (h q hq).1, if_pos (by rw [lt_nI (by omega) (by omega)]; omega), show nI q * (10 : Int32) = nI (q * 10) from mul_nI q 10, add_nI, inb_nI_t (show q * 10 + i < 40 by omega) (by decide), if_pos rfl, nI_clamp (by omega), show q * 10 + i = 10 * q + i by omega, (h q hq).2.2 i (by omega), show nI i + (1 : Int32) = nI (i + 1) from add_nI i 1]
    have es : fndF (N q) l (m + 1) i = if N q i = l then some i else fndF (N q) l m (i + 1) := rfl
    rw [es]
    by_cases e : N q i = l
    · rw [if_pos (by rw [lg_cmp_eq]; exact e), if_pos e]
    · rw [if_neg (by rw [lg_cmp_eq]; exact e), if_neg e]
      exact find_loop h hq m (i + 1) fu (by omega) (by omega)
set_option maxHeartbeats 600000 in
theorem fndF_lt {N : Nat → Int64} {l : Int64} : ∀ (m i j : Nat), fndF N l m i = some j → i ≤ j ∧ j < i + m ∧ N j = l
  | 0, i, j, h => by cases h
  | m + 1, i, j, h => by
    have h : (if N i = l then some i else fndF N l m (i + 1)) = some j := h
    by_cases e : N i = l
    · rw [if_pos e] at h
      cases h
      exact ⟨Nat.le_refl _, by omega, e⟩
    · rw [if_neg e] at h
      obtain ⟨a, b, c⟩ := fndF_lt m (i + 1) j h
      exact ⟨by omega, by omega, c⟩
set_option maxHeartbeats 600000 in
theorem moN_le (q : Nat) : moN q ≤ 10 := by unfold moN; split; omega; split <;> omega
set_option maxHeartbeats 600000 in
theorem find_x {M : Mem} {k q : Nat} {c : Nat → Nat} {N : Nat → Nat → Int64} {l : Int64} (h : NX M k c N) (hq : q < 4) : f_X1_find k (nI q) l M = some (match fndF (N q) l (c q) 0 with | none => -1 | some j => nI j) := by
  have := (h q hq).2.1
  have := moN_le q
  exact find_loop h hq (c q) 0 FU (by omega) (lt_FU (by omega))
set_option maxHeartbeats 600000 in
theorem m1_nI2 {i : Nat} (h : i < 2 ^ 31) : ¬ nI i = -1 := by
  intro z
  have := congrArg Int32.toInt z
  rw [nI_toInt h, show (-1 : Int32).toInt = -1 from by decide] at this
  omega
set_option maxHeartbeats 600000 in
theorem see_x {M : Mem} {P : Nat → Int32} {n k q : Nat} {c : Nat → Nat} {N : Nat → Nat → Int64} {t : Tk} (h : GX P n M t) (hN : NX M k c N) (hq : q < 4) : ∃ r, f_X5_seeKnown k (nI q) M = some r ∧ XFr M r.2 ∧ match seeR c N q t with | .inl f => r.1 = 0 ∧ BX r.2 f | .inr i => r.1 = 1 ∧ GX P n r.2 t ∧ r.2.1 30 0 9 = nI i ∧ i < c q := by
  have hk := h.2.2.1.2.2.1
  have hm := (hN q hq).2.1
  have hm2 := moN_le q
  unfold f_X5_seeKnown seeR
  rw [isName_x h.2.1 h.2.2.1, Option.bind_some]
  by_cases c1 : isNm t = true
  · have hk1 : t.2.2.1 = 1 := by
      unfold isNm at c1
      simp only [Bool.and_eq_true, decide_eq_true_eq] at c1
      exact c1.1.1
    rw [if_pos c1, if_neg (show ¬ (1 : Int32) = 0 from by decide), if_pos c1, (h.2.1.2.2.2.1 hk1).2, find_x hN hq, Option.bind_some]
    simp only
    rw [sR_at, upd_at]
    cases e : fndF (N q) t.2.2.2.2.1 (c q) 0 with
    | none =>
      simp only
      obtain ⟨M', a, b, d⟩ := fail_x (M := sR M 30 0 (upd (M.1 30 0) 9 (-1))) (why := 3) (h.set9 (v := -1)).2.2.2 (h.set9 (v := -1)).2.1 hk (by decide)
      rw [if_pos trivial, a, Option.bind_some, if_pos rfl]
      rw [show badK t 3 = (3, t.1) from by unfold badK; rw [if_neg (by omega)]] at d
      exact ⟨_, rfl, (XFr.R (by omega)).tr b, rfl, d⟩
    | some j =>
      have hj := fndF_lt _ _ _ e
      simp only
      rw [if_neg (m1_nI2 (by omega))]
      exact ⟨_, rfl, XFr.R (by omega), rfl, h.set9, by show (sR M 30 0 (upd (M.1 30 0) 9 (nI j))).1 30 0 9 = nI j; rw [sR_at, upd_at], by omega⟩
  · rw [if_neg c1, if_pos (show (0 : Int32) = 0 from rfl), if_neg c1]
    obtain ⟨M', a, b, d⟩ := fail_b (why := 2) h.2.2.2 h.2.1 hk (by decide)
    exact ⟨_, a, b, rfl, d⟩
set_option maxHeartbeats 600000 in
theorem known_x {M : Mem} {P : Nat → Int32} {n k q : Nat} {c : Nat → Nat} {N : Nat → Nat → Int64} {t : Tk} (B : BY P n) (h : GX P n M t) (hN : NX M k c N) (hq : q < 4) : ∃ r, f_X5_needKnown k (nI q) M = some r ∧ XFr M r.2 ∧ match seeR c N q t with | .inl f => r.1 = 0 ∧ BX r.2 f | .inr i => r.1 = 1 ∧ GX P n r.2 (nx P n t) ∧ r.2.1 30 0 9 = nI i ∧ i < c q := by
  obtain ⟨r, a, b, d⟩ := see_x h hN hq
  unfold f_X5_needKnown
  rw [a, Option.bind_some]
  generalize seeR c N q t = o at d
  match o, d with
  | .inl f, d =>
    rw [if_pos d.1]
    exact ⟨_, rfl, b, rfl, d.2⟩
  | .inr i, d =>
    obtain ⟨d1, d2, d3, d4⟩ := d
    obtain ⟨M', a2, b2, e2⟩ := adv_x B d2
    rw [if_neg (by rw [d1]; decide), a2, Option.bind_some]
    exact ⟨_, rfl, b.tr b2.x, rfl, e2, by show M'.1 30 0 9 = _; rw [b2.2 9 (by omega)]; exact d3, d4⟩
set_option maxHeartbeats 600000 in
theorem needW_x {M : Mem} {P : Nat → Int32} {n i : Nat} {t : Tk} (B : BY P n) (h : GX P n M t) : ∃ r, f_X5_needWord (nI i) M = some r ∧ XFr M r.2 ∧ match wdR P n i t with | .inl f => r.1 = 0 ∧ BX r.2 f | .inr t' => r.1 = 1 ∧ GX P n r.2 t' := by
  obtain ⟨M1, a1, b1, d1⟩ := take_x (i := i) B h
  unfold f_X5_needWord wdR
  rw [a1, Option.bind_some]
  unfold iw
  by_cases c : wdS t = nI i
  · rw [if_pos c] at d1
    simp only
    rw [if_pos c, if_neg (show ¬ (1 : Int32) = 0 from by decide), if_pos c]
    exact ⟨_, rfl, b1.x, rfl, d1⟩
  · rw [if_neg c] at d1
    simp only
    rw [if_neg c, if_pos (show (0 : Int32) = 0 from rfl), if_neg c]
    obtain ⟨M', a, b, d⟩ := fail_x (why := 2) d1.2.2.2 d1.2.1 h.2.2.1.2.2.1 (by decide)
    rw [a, Option.bind_some, if_pos rfl]
    exact ⟨_, rfl, b1.x.tr b, rfl, d⟩
set_option maxHeartbeats 600000 in
theorem stop_x {M : Mem} {P : Nat → Int32} {n : Nat} {t : Tk} (B : BY P n) (h : GX P n M t) : ∃ r, f_X5_needStop M = some r ∧ XFr M r.2 ∧ match stopR P n t with | .inl f => r.1 = 0 ∧ BX r.2 f | .inr t' => r.1 = 1 ∧ GX P n r.2 t' := by
  have hk := h.2.2.1.2.2.1
  have bad : ∃ r, ((f_X5_fail (2 : Int32) M).bind fun q => if isB q.1 = true then some (q.1, q.2) else none) = some r ∧ XFr M r.2 ∧ r.1 = 0 ∧ BX r.2 (badK t 2) := by
    obtain ⟨M', a, b, d⟩ := fail_b (why := 2) h.2.2.2 h.2.1 hk (by decide)
    exact ⟨_, a, b, rfl, d⟩
  unfold f_X5_needStop stopR
  rw [h.2.1.2.2.1]
  by_cases c : t.2.2.1 = 3
  · rw [if_pos (by rw [c]; rfl), h.2.1.2.2.2.2 (Or.inr c)]
    by_cases c1 : t.2.2.2.2.2 = 59
    · rw [if_pos c1, if_pos ⟨c, c1⟩]
      obtain ⟨M', a, b, d⟩ := adv_x B h
      rw [a, Option.bind_some]
      exact ⟨_, rfl, b.x, rfl, d⟩
    · rw [if_neg c1, if_neg (fun z => c1 z.2)]
      exact bad
  · rw [if_neg (by rw [show (3 : Int32) = nI 3 from rfl, eq_nI (by omega) (by omega)]; exact c), if_neg (fun z => c z.1)]
    exact bad
set_option maxHeartbeats 600000 in
theorem cmp_x {M : Mem} {P : Nat → Int32} {n : Nat} {t : Tk} (B : BY P n) (h : GX P n M t) : ∃ q, f_X5_needCompares M = some q ∧ OXv P n M q (cmpR P n t) := by
  have hk := h.2.2.1.2.2.1
  have bad : ∃ r, ((f_X5_fail (2 : Int32) M).bind fun q => if isB q.1 = true then some (q.1, q.2) else none) = some r ∧ XFr M r.2 ∧ r.1 = 0 ∧ BX r.2 (badK t 2) := by
    obtain ⟨M', a, b, d⟩ := fail_b (why := 2) h.2.2.2 h.2.1 hk (by decide)
    exact ⟨_, a, b, rfl, d⟩
  unfold f_X5_needCompares cmpR
  rw [h.2.1.2.2.1]
  by_cases c : t.2.2.1 = 3
  · rw [if_pos (by rw [c]; rfl), h.2.1.2.2.2.2 (Or.inr c)]
    by_cases c1 : t.2.2.2.2.2 = 59
    · rw [if_pos c1, if_neg (fun z => z.2 c1)]
      exact bad
    · rw [if_neg c1, if_pos ⟨c, c1⟩]
      obtain ⟨M', a, b, d⟩ := adv_x B (h.set9 (v := t.2.2.2.2.2))
      simp only
      rw [a, Option.bind_some]
      exact ⟨_, rfl, (XFr.R (by omega)).tr b.x, rfl, d, by show M'.1 30 0 9 = _; rw [b.2 9 (by omega), sR_at, upd_at]⟩
  · rw [if_neg (by rw [show (3 : Int32) = nI 3 from rfl, eq_nI (by omega) (by omega)]; exact c), if_neg (fun z => c z.1)]
    exact bad
