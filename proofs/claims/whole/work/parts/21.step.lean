/-! ===== a call on both ===== -/
def onX (M M' : Mem) : Prop := ∀ c i, 50 ≤ c → M'.1 c i = M.1 c i ∧ M'.2 c i = M.2 c i
def onM (M M' : Mem) : Prop := ∀ c i, c < 50 → M'.1 c i = M.1 c i ∧ M'.2 c i = M.2 c i
theorem onX.tr {M M1 M2 : Mem} (a : onX M M1) (b : onX M1 M2) : onX M M2 := fun c i h => ⟨(b c i h).1.trans (a c i h).1, (b c i h).2.trans (a c i h).2⟩
theorem onM.tr {M M1 M2 : Mem} (a : onM M M1) (b : onM M1 M2) : onM M M2 := fun c i h => ⟨(b c i h).1.trans (a c i h).1, (b c i h).2.trans (a c i h).2⟩
theorem XQ.on {M M' : Mem} (f : XQ M M') : onX M M' := fun c i h => f.1 c i (by omega) (by omega) (by omega) (by unfold scrX; omega)
theorem HFr.on {h : Nat} {M M' : Mem} (f : HFr h M M') : onX M M' := fun c i hc => ⟨f.2 c i (by omega), by rw [f.1]⟩
theorem MQm.on {M M' : Mem} (f : MQm M M') : onM M M' := fun c i h => f.1 c i (Or.inl h)
theorem MFr.on {M M' : Mem} (f : MFr M M') : onM M M' := fun c i h => ⟨f.2.1 c i (by omega), by rw [f.1]⟩
theorem RM.x {s : Sy} {M M' : Mem} (f : onX M M') (h : RM s M) : RM s M' := by
  unfold RM MW at h ⊢
  rw [(f 50 0 (by decide)).1, (f 50 0 (by decide)).2, (f 54 0 (by decide)).1, (f 52 0 (by decide)).1, (f 51 0 (by decide)).1, (f 53 0 (by decide)).2, (f 55 0 (by decide)).1, (f 57 0 (by decide)).2, (f 60 0 (by decide)).1, (f 63 0 (by decide)).1]
  exact h
theorem RX.m {s : Sy} {M M' : Mem} (f : onM M M') (h : RX s M) : RX s M' := by
  obtain ⟨h1, h2, h3, h4, h5, h6, h7, h8, h9⟩ := h
  have e := fun c (hc : c < 50) => f c 0 hc
  refine ⟨by rw [(e 0 (by decide)).1, (e 36 (by decide)).1]; exact h1, by rw [(e 0 (by decide)).2]; exact h2, by rw [(e 30 (by decide)).1, (e 31 (by decide)).1]; exact h3, fun t ht => ?_, h5.eq (fun c _ h => f c 0 (by omega)), ⟨by rw [(e 0 (by decide)).1]; exact h6.1, fun k a b => (h6.2 k a b).eq (fun c _ h => f c k (by omega))⟩, by rw [(e 36 (by decide)).1, (e 42 (by decide)).1]; exact h7, by rw [(e 0 (by decide)).1, (e 44 (by decide)).1]; exact h8, by rw [(e 32 (by decide)).2]; exact h9⟩
  rw [(e 5 (by decide)).1, (e 6 (by decide)).1, (f 4 t (by decide)).2]
  exact h4 t ht
def Step {α : Type} (s : Sy) (fx fm : Mem → Option (α × Mem)) : Prop := ∀ M, RX s M → RM s M → ∃ r M1 M2 s', fx M = some (r, M1) ∧ fm M1 = some (r, M2) ∧ OKS s' ∧ RX s' M2 ∧ RM s' M2
theorem step_of {α : Type} {s : Sy} {fx fm : Mem → Option (α × Mem)} (r : α) (s' : Sy) (ok : OKS s') (hx : ∀ M, RX s M → ∃ M1, fx M = some (r, M1) ∧ RX s' M1 ∧ onX M M1) (hm : ∀ M, RM s M → ∃ M2, fm M = some (r, M2) ∧ RM s' M2 ∧ onM M M2) : Step s fx fm := by
  intro M h1 h2
  obtain ⟨M1, a1, a2, a3⟩ := hx M h1
  obtain ⟨M2, b1, b2, b3⟩ := hm M1 (h2.x a3)
  exact ⟨r, M1, M2, s', a1, b1, ok, a2.m b3, b2⟩
/-- the class's status -/
def stM (M : Mem) (v : Int32) : Mem := sR M 0 0 (upd (M.1 0 0) 14 v)
theorem X10_none_e (v : Int32) (M : Mem) : f_X10_none v M = some (-1, stM M v) := rfl
theorem X10_refuse_e (v : Int32) (M : Mem) : f_X10_refuse v M = some (0, stM M v) := rfl
theorem X10_answer_e (v : Int32) (M : Mem) : f_X10_answer v M = some (v, stM M 0) := rfl
theorem X10_agree_e (M : Mem) : f_X10_agree M = some (1, stM M 0) := rfl
theorem stM_at (M : Mem) (v : Int32) : (stM M v).1 0 0 14 = v := by
  unfold stM
  rw [sR_at, upd_at]
theorem OKS.sc {s : Sy} (o : OKS s) (v : Int32) : OKS (setSc s 0 v) := o
theorem RX.st {s : Sy} {M M' : Mem} (o : OKS s) (v : Int32) (f : XQ M M') (h : RX s M) : RX (setSc s 0 v) (stM M' v) ∧ onX M (stM M' v) :=
  ⟨h.q (f.tr XQ.st) (stM_at _ _) o.2.2.2.1.1, (f.tr XQ.st).on⟩
/-- the reference's start of a call -/
def mR (M : Mem) : Mem := sR (sR M 50 0 (upd (M.1 50 0) 1 (0 : Int32))) 50 0 (upd ((sR M 50 0 (upd (M.1 50 0) 1 (0 : Int32))).1 50 0) 0 (0 : Int32))
theorem mR_e (M : Mem) : sR (sR M 50 0 (upd (M.1 50 0) 1 (0 : Int32))) 50 0 (upd ((sR M 50 0 (upd (M.1 50 0) 1 (0 : Int32))).1 50 0) 0 (0 : Int32)) = mR M := rfl
theorem mR_Q (M : Mem) : MQm M (mR M) := (MQm.f (by decide)).tr (MQm.f (by decide))
theorem mR_0 (M : Mem) : (mR M).1 50 0 0 = 0 := by
  unfold mR
  rw [sR_at, upd_at]
/-- the reference's status -/
def smM (M : Mem) (v : Int32) : Mem := sR M 50 0 (upd (M.1 50 0) 0 v)
theorem X11_refuse_e (v : Int32) (M : Mem) : f_X11_refuse v M = some (-1, smM M v) := rfl
theorem X11_no_e (v : Int32) (M : Mem) : f_X11_no v M = some (0, smM M v) := rfl
theorem smM_at (M : Mem) (v : Int32) : (smM M v).1 50 0 0 = v := by
  unfold smM
  rw [sR_at, upd_at]
theorem smM_Q (M : Mem) (v : Int32) : MQm M (smM M v) := MQm.f (by decide)
theorem RM.st {s : Sy} {M M' : Mem} (o : OKS s) (v : Int32) (f : MQm M M') (h : RM s M) : RM (setSc s 0 v) (smM M' v) ∧ onM M (smM M' v) :=
  ⟨h.q o (f.tr (smM_Q _ _)) (smM_at _ _), (f.tr (smM_Q _ _)).on⟩
theorem RM.s0 {s : Sy} {M M' : Mem} (o : OKS s) (f : MQm (mR M) M') (h0 : M'.1 50 0 0 = 0) (h : RM s M) : RM (setSc s 0 0) M' ∧ onM M M' :=
  ⟨h.q o ((mR_Q M).tr f) h0, ((mR_Q M).tr f).on⟩
theorem RM.r {s : Sy} {M : Mem} (o : OKS s) (h : RM s M) : RM (setSc s 0 0) (mR M) := (h.s0 o MQm.rf (mR_0 M)).1
-- arguments
theorem arg_cases (x : Int32) : x < 0 ∨ ∃ i, i < 2 ^ 31 ∧ x = nI i := by
  by_cases h : x < 0
  · exact Or.inl h
  · right
    have h0 : (0 : Int) ≤ x.toInt := by
      have := Int32.le_iff_toInt_le.mp (Int32.not_lt.mp h)
      simpa using this
    have h1 := Int32.toInt_lt x
    refine ⟨x.toInt.toNat, by omega, ?_⟩
    apply Int32.toInt_inj.mp
    rw [nI_toInt (by omega)]
    omega
theorem arg_in (x : Int32) {n : Nat} (hn : n < 2 ^ 31) : (∃ i, i < n ∧ x = nI i) ∨ (x < 0 ∨ ¬ x < nI n) := by
  rcases arg_cases x with h | ⟨i, h1, rfl⟩
  · exact Or.inr (Or.inl h)
  · by_cases c : i < n
    · exact Or.inl ⟨i, c, rfl⟩
    · right; right
      rw [lt_nI h1 hn]; exact c
theorem isIn_spec (a b c : Int64) : f_X11_isIn a b c = some (if b.toInt ≤ a.toInt ∧ a.toInt ≤ c.toInt then 1 else 0) := by
  unfold f_X11_isIn
  by_cases h1 : lg_cmp a b < 0
  · rw [if_pos h1]
    have := Int64.lt_iff_toInt_lt.mp ((lg_cmp_lt a b).mp h1)
    rw [if_neg (by omega)]
  · rw [if_neg h1]
    have h1' : ¬ a.toInt < b.toInt := fun z => h1 ((lg_cmp_lt a b).mpr (Int64.lt_iff_toInt_lt.mpr z))
    by_cases h2 : 0 < lg_cmp a c
    · rw [if_pos h2]
      have := Int64.lt_iff_toInt_lt.mp ((lg_cmp_gt a c).mp h2)
      rw [if_neg (by omega)]
    · rw [if_neg h2]
      have h2' : ¬ c.toInt < a.toInt := fun z => h2 ((lg_cmp_gt a c).mpr (Int64.lt_iff_toInt_lt.mpr z))
      rw [if_pos (by omega)]
theorem t64 (x : Int32) : x.toInt64.toInt = x.toInt := Int32.toInt_toInt64 x
theorem isIn_t {x : Int32} {b c : Int64} (h : b.toInt ≤ x.toInt ∧ x.toInt ≤ c.toInt) : f_X11_isIn x.toInt64 b c = some 1 := by
  rw [isIn_spec, t64, if_pos h]
theorem isIn_f {x : Int32} {b c : Int64} (h : ¬ (b.toInt ≤ x.toInt ∧ x.toInt ≤ c.toInt)) : f_X11_isIn x.toInt64 b c = some 0 := by
  rw [isIn_spec, t64, if_neg h]
theorem neg_toInt {x : Int32} (h : x < 0) : x.toInt < 0 := by
  have := Int32.lt_iff_toInt_lt.mp h
  simpa using this
theorem out_toInt {x : Int32} {n : Nat} (hn : n < 2 ^ 31) (h : x < 0 ∨ ¬ x < nI n) : ¬ (0 ≤ x.toInt ∧ x.toInt < n) := by
  rcases h with h | h
  · have := neg_toInt h; omega
  · have := Int32.le_iff_toInt_le.mp (Int32.not_lt.mp h)
    rw [nI_toInt hn] at this
    omega
theorem isNo_t {M : Mem} {s : Sy} (h : RX s M) (o : OKS s) {q : Nat} (hq : q < 4) {i : Nat} (hi : i < (sWo s).1.1 q) : f_X10_isNo (nI q) (nI i) M = some 0 := by
  have hc : (sWo s).1.1 q ≤ 10 := by
    obtain ⟨k0, k1, k2, k3, -⟩ := o.2.2.1.1
    match q, hq with
    | 0, _ => omega
    | 1, _ => omega
    | 2, _ => omega
    | 3, _ => omega
  unfold f_X10_isNo
  rw [if_neg (nI_pos (by omega)), inb_nI_t hq (by decide), if_pos rfl, nI_clamp (by omega), show M.1 9 0 q = nI ((sWo s).1.1 q) from h.2.2.2.2.1.1.1 q hq, if_pos (by rw [lt_nI (by omega) (by omega)]; exact hi)]
theorem isNo_f {M : Mem} {s : Sy} (h : RX s M) {q : Nat} (hq : q < 4) {x : Int32} (hx : x < 0 ∨ ¬ x < nI ((sWo s).1.1 q)) : f_X10_isNo (nI q) x M = some 1 := by
  unfold f_X10_isNo
  rw [inb_nI_t hq (by decide), nI_clamp (by omega), show M.1 9 0 q = nI ((sWo s).1.1 q) from h.2.2.2.2.1.1.1 q hq]
  by_cases c : x < 0
  · rw [if_pos c]
  · rw [if_neg c, if_pos rfl, if_neg (hx.resolve_left c)]
theorem isJur_t {M : Mem} {K : Co} (ok : OKC K) (rc : RepMC (M.1 55 0) K) {i : Nat} (hi : i < K.1 0) : f_X11_isJurorAt (nI i) M = some 1 := by
  have hJ := ok.J
  unfold f_X11_isJurorAt
  rw [rc.1 0 (by decide), show nI (K.1 0) - (1 : Int32) = nI (K.1 0 - 1) from sub_nI (a := K.1 0) (b := 1) (by omega), isIn_t (by rw [t64, nI_toInt (by omega), nI_toInt (by omega)]; exact ⟨by show (0 : Int) ≤ _; omega, by omega⟩), Option.bind_some]
  rfl
theorem isJur_f {M : Mem} {K : Co} (ok : OKC K) (rc : RepMC (M.1 55 0) K) {x : Int32} (hx : x < 0 ∨ ¬ x < nI (K.1 0)) : f_X11_isJurorAt x M = some 0 := by
  have hJ := ok.J
  have ho := out_toInt (by omega) hx
  unfold f_X11_isJurorAt
  have e : (nI (K.1 0) - (1 : Int32)).toInt = (K.1 0 : Int) - 1 := by
    have : ∀ n, n < 11 → (nI n - (1 : Int32)).toInt = (n : Int) - 1 := by decide +kernel
    exact this _ (by omega)
  rw [rc.1 0 (by decide), isIn_f (by rw [t64, e]; intro z; exact ho ⟨z.1, by omega⟩), Option.bind_some]
  rfl
