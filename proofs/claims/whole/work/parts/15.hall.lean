/-! ===== the class's Hall does so ===== -/
theorem p2_le {J : Nat} (h : J ≤ 10) : 2 ^ J ≤ 1024 := by
  have := Nat.pow_le_pow_right (n := 2) (by decide) h
  simpa using this
theorem OKH.S {J : Nat} {A : Ha} (h : OKH J A) : A.1 0 < 1024 := Nat.lt_of_lt_of_le h.2.1 (p2_le h.1)
theorem bitZ (S i : Nat) (h : S < 1024) (hi : i < 11) : ((((nI S) >>> ((nI i) &&& 31)) &&& 1) = 0) = (S.testBit i = false) := by
  rw [bit_at S h i hi]
  cases S.testBit i <;> simp
theorem no_hi {J S j : Nat} (h : S < 2 ^ J) (hj : J ≤ j) : S.testBit j = false := Nat.testBit_lt_two_pow (Nat.lt_of_lt_of_le h (Nat.pow_le_pow_right (by decide) hj))
theorem ifb_f {α : Type} (A B : α) : (if (if false = true then (1 : Int32) else 0) = 0 then A else B) = A := rfl
theorem ifb_t {α : Type} (A B : α) : (if (if true = true then (1 : Int32) else 0) = 0 then A else B) = B := rfl
theorem X3_isSeated_sp {M : Mem} {h S i : Nat} (hS : M.1 20 h 2 = nI S) (h1 : S < 1024) (hi : i < 11) : f_X3_isSeated h (nI i) M = some (if S.testBit i then 1 else 0) := by
  unfold f_X3_isSeated
  rw [hS, bit_at S h1 i hi]
  cases S.testBit i <;> rfl
/-- the lean row with one changed -/
def putL (M : Mem) (h i : Nat) (v : Int32) : Mem := sR M 21 h (upd (M.1 21 h) i v)
theorem X3_shift_sp {M : Mem} {h i : Nat} {by_ : Int32} (hi : i < 10) : f_X3_shift h (nI i) by_ M = some (if cutS (M.1 21 h i + by_) = M.1 21 h i then 0 else 1, putL M h i (cutS (M.1 21 h i + by_))) := by
  unfold f_X3_shift cutS putL
  rw [inb_nI_t hi (by decide), nI_clamp (by omega)]
  simp only [if_true]
  by_cases h1 : 99 < M.1 21 h i + by_
  · simp only [if_pos h1]
    by_cases h2 : (99 : Int32) = M.1 21 h i
    · simp only [if_pos h2]
    · simp only [if_neg h2]
  · simp only [if_neg h1]
    by_cases h3 : M.1 21 h i + by_ < -99
    · simp only [if_pos h3]
      by_cases h2 : (-99 : Int32) = M.1 21 h i
      · simp only [if_pos h2]
      · simp only [if_neg h2]
    · simp only [if_neg h3]
      by_cases h2 : M.1 21 h i + by_ = M.1 21 h i
      · simp only [if_pos h2]
      · simp only [if_neg h2]
theorem putL_H {M : Mem} {h i : Nat} {v : Int32} {A : Ha} (r : RepH M h A) : RepH (putL M h i v) h (A.1, upd A.2.1 i v, A.2.2) := by
  obtain ⟨r1, r2, r3⟩ := r
  refine ⟨fun j hj => ?_, fun j hj => ?_, fun j hj => ?_⟩
  · show (sR M 21 h _).1 20 h (j + 2) = _
    rw [sR_ne _ _ _ _ (fun z => absurd z.1 (by decide))]
    exact r1 j hj
  · show (sR M 21 h _).1 21 h j = upd A.2.1 i v j
    rw [sR_at]
    unfold upd
    by_cases e : j = i
    · rw [if_pos e, if_pos e]
    · rw [if_neg e, if_neg e]; exact r2 j hj
  · show (sR M 21 h _).1 22 h j = _
    rw [sR_ne _ _ _ _ (fun z => absurd z.1 (by decide))]
    exact r3 j hj
theorem putL_F {M : Mem} {h i : Nat} {v : Int32} : HFr h M (putL M h i v) := HFr.set (Or.inr (Or.inl rfl))
theorem gv_loop {M : Mem} {h S : Nat} {l : Nat → Int32} (hS : M.1 20 h 2 = nI S) (h1 : S < 1024) (hl : ∀ j, j < 10 → M.1 21 h j = l j) : ∀ (k i n acc : Nat), i + k = 10 → k < n → acc ≤ i →
    f_X3_guiltyVotes_4 h M n (nI acc) (nI i) = some (nI (acc + cntR (fun i => S.testBit i && decide (0 < l i)) i k))
  | k, i, 0, acc, _, hn, _ => by omega
  | 0, i, n + 1, acc, hi, _, _ => by
    have e : i = 10 := by omega
    subst e
    rw [f_X3_guiltyVotes_4]
    rfl
  | k + 1, i, n + 1, acc, hi, hn, ha => by
    have ih := gv_loop hS h1 hl k (i + 1) n
    rw [f_X3_guiltyVotes_4, hS]
    have c1 : nI i < (10 : Int32) := by show nI i < nI 10; rw [lt_nI (by omega) (by decide)]; omega
    rw [if_pos c1]
    by_cases c2 : S / 2 ^ i = 0
    · rw [if_pos ((shr_0 S h1 i (by omega)).mpr c2)]
      rw [cntR_zero _ _ (fun j hj _ => by rw [no_bit c2 hj]; rfl)]
      rfl
    · rw [if_neg (fun z => c2 ((shr_0 S h1 i (by omega)).mp z)), bit_at S h1 i (by omega)]
      rw [show nI i + (1 : Int32) = nI (i + 1) from add_nI i 1]
      have e : cntR (fun i => S.testBit i && decide (0 < l i)) i (k + 1) = (if (S.testBit i && decide (0 < l i)) = true then 1 else 0) + cntR (fun i => S.testBit i && decide (0 < l i)) (i + 1) k := rfl
      rw [e]
      cases hb : S.testBit i with
      | false =>
        rw [ifb_f, ih acc (by omega) (by omega) (by omega)]
        simp
      | true =>
        rw [ifb_t, inb_nI_t (by omega) (by decide), nI_clamp (by omega), hl i (by omega)]
        simp only [if_true]
        by_cases c3 : 0 < l i
        · rw [if_pos c3, show nI acc + (1 : Int32) = nI (acc + 1) from add_nI acc 1, ih (acc + 1) (by omega) (by omega) (by omega)]
          simp [c3, Nat.add_assoc]
        · rw [if_neg c3, ih acc (by omega) (by omega) (by omega)]
          simp [c3]
theorem cnt_J {J S : Nat} {p : Nat → Bool} (hJ : J ≤ 10) (h : S < 2 ^ J) : cntR (fun i => S.testBit i && p i) 0 10 = cntR (fun i => S.testBit i && p i) 0 J := by
  have e : 10 = J + (10 - J) := by omega
  rw [e, cntR_app, cntR_zero (10 - J) (0 + J) (fun j h1 _ => by rw [no_hi h (by omega)]; rfl)]
  omega
theorem X3_guiltyVotes_sp {M : Mem} {h J : Nat} {A : Ha} (r : RepH M h A) (o : OKH J A) : f_X3_guiltyVotes h M = some (nI (votesS J (A.1 0) A.2.1)) := by
  unfold f_X3_guiltyVotes
  have := gv_loop (M := M) (h := h) (S := A.1 0) (l := A.2.1) (r.1 0 (by decide)) o.S r.2.1 10 0 FU 0 rfl (lt_FU (by decide)) (Nat.le_refl _)
  rw [show (0 : Int32) = nI 0 from rfl, this, Nat.zero_add, cnt_J o.1 o.2.1]
  rfl
theorem seats_pc {J S : Nat} (hJ : J ≤ 10) (h : S < 2 ^ J) : pc10 S = seatsS J S := by
  rw [pc10_cnt S (Nat.lt_of_lt_of_le h (p2_le hJ))]
  have := cnt_J (p := fun _ => true) hJ h
  simp only [Bool.and_true] at this
  exact this
theorem X3_seatedCount_sp {M : Mem} {h J : Nat} {A : Ha} (r : RepH M h A) (o : OKH J A) : f_X3_seatedCount h M = some (nI (seatsS J (A.1 0))) := by
  unfold f_X3_seatedCount
  rw [show M.1 20 h 2 = nI (A.1 0) from r.1 0 (by decide), bitCount_at _ o.S, seats_pc o.1 o.2.1]
  rfl
theorem votes_le {J S : Nat} {l : Nat → Int32} : votesS J S l ≤ seatsS J S := by
  have := cntR_split (p := fun i => S.testBit i) (q := fun i => decide (0 < l i)) J 0
  unfold votesS seatsS
  omega
theorem seats_le {J S : Nat} : seatsS J S ≤ J := cntR_le _ _ _
theorem rule_at : ∀ w, w < 3 → ∀ g, g < 11 → ∀ f, f < 11 → f_X10_rule (nI w) (nI g) (nI f) = some (ruleN w g f) := by decide +kernel
theorem judge_at : ∀ w, w < 3 → ∀ g, g < 11 → ∀ f, f < 11 → f_X11_judge (nI w) (nI g) (nI f) = some (ruleN w g f) := by decide +kernel
theorem bind_some_id {α : Type} (x : α) : ((some x).bind fun r => some r) = some x := rfl
theorem X3_ruling_sp {M : Mem} {h J w : Nat} {A : Ha} (r : RepH M h A) (o : OKH J A) (hw : w ≤ 2) : f_X3_ruling h (nI w) M = some (ruleN w (votesS J (A.1 0) A.2.1) (seatsS J (A.1 0) - votesS J (A.1 0) A.2.1)) := by
  have h1 : seatsS J (A.1 0) ≤ J := seats_le
  have h2 : votesS J (A.1 0) A.2.1 ≤ seatsS J (A.1 0) := votes_le
  have h3 : J ≤ 10 := o.1
  have e1 := X3_guiltyVotes_sp r o
  have e2 := X3_seatedCount_sp r o
  generalize votesS J (A.1 0) A.2.1 = g at *
  generalize seatsS J (A.1 0) = f at *
  have e3 := rule_at w (by omega) g (by omega) (f - g) (by omega)
  unfold f_X3_ruling
  rw [e1, Option.bind_some, e2, Option.bind_some, sub_nI h2, e3, Option.bind_some]
