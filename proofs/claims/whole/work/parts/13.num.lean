/-! ===== numbers: small ints as naturals, sets as naturals ===== -/
theorem lt_nI {a b : Nat} (ha : a < 2 ^ 31) (hb : b < 2 ^ 31) : (nI a < nI b) = (a < b) := by
  apply propext
  rw [Int32.lt_iff_toInt_lt, nI_toInt ha, nI_toInt hb]
  omega
theorem eq_nI {a b : Nat} (ha : a < 2 ^ 31) (hb : b < 2 ^ 31) : (nI a = nI b) = (a = b) := by
  apply propext
  constructor
  · intro h
    have := congrArg Int32.toInt h
    rw [nI_toInt ha, nI_toInt hb] at this
    omega
  · intro h; rw [h]
theorem add_nI (a b : Nat) : nI a + nI b = nI (a + b) := by
  unfold nI
  exact (Int32.ofNat_add a b).symm
theorem mul_nI (a b : Nat) : nI a * nI b = nI (a * b) := by
  unfold nI
  exact (Int32.ofNat_mul a b).symm
theorem sub_nI {a b : Nat} (h : b ≤ a) : nI a - nI b = nI (a - b) := by
  have : nI a = nI (a - b) + nI b := by rw [add_nI]; congr 1; omega
  rw [this]
  exact Int32.add_sub_cancel _ _
theorem inb_nI {a n : Nat} (ha : a < 2 ^ 31) : inb (nI a) n = decide (a < n) := by
  unfold inb
  rw [nI_clamp ha]
  have : ¬ nI a < 0 := nI_pos ha
  simp [this]
theorem inb_nI_t {a n : Nat} (h : a < n) (hn : n < 2 ^ 31) : inb (nI a) n = true := by
  rw [inb_nI (by omega)]; simpa using h
-- sets of at most ten
theorem or_nI (a b : Nat) : nI a ||| nI b = nI (a ||| b) := by
  apply Int32.toBitVec_inj.mp
  apply BitVec.eq_of_toNat_eq
  show (BitVec.ofNat 32 a ||| BitVec.ofNat 32 b).toNat = (BitVec.ofNat 32 (a ||| b)).toNat
  rw [BitVec.toNat_or, BitVec.toNat_ofNat, BitVec.toNat_ofNat, BitVec.toNat_ofNat, Nat.or_mod_two_pow]
theorem and_nI (a b : Nat) : nI a &&& nI b = nI (a &&& b) := by
  apply Int32.toBitVec_inj.mp
  apply BitVec.eq_of_toNat_eq
  show (BitVec.ofNat 32 a &&& BitVec.ofNat 32 b).toNat = (BitVec.ofNat 32 (a &&& b)).toNat
  rw [BitVec.toNat_and, BitVec.toNat_ofNat, BitVec.toNat_ofNat, BitVec.toNat_ofNat, Nat.and_mod_two_pow]
/-- how many of i, i + 1 .. i + k - 1 have p -/
def cntR (p : Nat → Bool) : Nat → Nat → Nat
  | _, 0 => 0
  | i, k + 1 => (if p i then 1 else 0) + cntR p (i + 1) k
theorem cntR_le (p : Nat → Bool) : ∀ (k i : Nat), cntR p i k ≤ k
  | 0, _ => Nat.le_refl _
  | k + 1, i => by
    have := cntR_le p k (i + 1)
    unfold cntR
    split <;> omega
theorem cntR_zero {p : Nat → Bool} : ∀ (k i : Nat), (∀ j, i ≤ j → j < i + k → p j = false) → cntR p i k = 0
  | 0, _, _ => rfl
  | k + 1, i, h => by
    unfold cntR
    rw [h i (Nat.le_refl _) (by omega), cntR_zero k (i + 1) (fun j h1 h2 => h j (by omega) (by omega))]
    rfl
theorem cntR_congr {p q : Nat → Bool} : ∀ (k i : Nat), (∀ j, i ≤ j → j < i + k → p j = q j) → cntR p i k = cntR q i k
  | 0, _, _ => rfl
  | k + 1, i, h => by
    unfold cntR
    rw [h i (Nat.le_refl _) (by omega), cntR_congr k (i + 1) (fun j h1 h2 => h j (by omega) (by omega))]
theorem cntR_app (p : Nat → Bool) : ∀ (k m i : Nat), cntR p i (k + m) = cntR p i k + cntR p (i + k) m
  | 0, m, i => by simp [cntR]
  | k + 1, m, i => by
    rw [show k + 1 + m = (k + m) + 1 by omega]
    show (if p i then 1 else 0) + cntR p (i + 1) (k + m) = (if p i then 1 else 0) + cntR p (i + 1) k + cntR p (i + (k + 1)) m
    rw [cntR_app p k m (i + 1), show i + 1 + k = i + (k + 1) by omega]
    omega
theorem pc10_cnt : ∀ S, S < 1024 → pc10 S = cntR (fun i => S.testBit i) 0 10 := by decide +kernel
theorem cntR_split {p q : Nat → Bool} : ∀ (k i : Nat), cntR (fun j => p j && q j) i k + cntR (fun j => p j && !q j) i k = cntR p i k
  | 0, _ => rfl
  | k + 1, i => by
    have := cntR_split (p := p) (q := q) k (i + 1)
    unfold cntR
    cases hp : p i <;> cases hq : q i <;> simp <;> omega
theorem no_bit {S i : Nat} (h : S / 2 ^ i = 0) {j : Nat} (hj : i ≤ j) : S.testBit j = false := by
  have h1 : S < 2 ^ i := by
    rcases Nat.lt_or_ge S (2 ^ i) with q | q
    · exact q
    · have := Nat.div_pos q (Nat.two_pow_pos i)
      omega
  exact Nat.testBit_lt_two_pow (Nat.lt_of_lt_of_le h1 (Nat.pow_le_pow_right (by decide) hj))
