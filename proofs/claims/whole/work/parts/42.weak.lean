/-! ===== the same with less asked of a hall: who is seated, which round it is ===== -/
def OKT (J : Nat) (A : Ha) : Prop := J ≤ 10 ∧ A.1 0 < 2 ^ J ∧ (∀ j, j = 2 → A.1 j < 16777216) ∧ True
theorem OKT.S {J : Nat} {A : Ha} (h : OKT J A) : A.1 0 < 1024 := Nat.lt_of_lt_of_le h.2.1 (p2_le h.1)
theorem OKT.lean {J : Nat} {A : Ha} {l : Nat → Int32} (o : OKT J A) : OKT J (A.1, l, A.2.2) := o
theorem X3_guiltyVotes_spW {M : Mem} {h J : Nat} {A : Ha} (r : RepH M h A) (o : OKT J A) : f_X3_guiltyVotes h M = some (nI (votesS J (A.1 0) A.2.1)) := by
  unfold f_X3_guiltyVotes
  have := gv_loop (M := M) (h := h) (S := A.1 0) (l := A.2.1) (r.1 0 (by decide)) o.S r.2.1 10 0 FU 0 rfl (lt_FU (by decide)) (Nat.le_refl _)
  rw [show (0 : Int32) = nI 0 from rfl, this, Nat.zero_add, cnt_J o.1 o.2.1]
  rfl
theorem X3_seatedCount_spW {M : Mem} {h J : Nat} {A : Ha} (r : RepH M h A) (o : OKT J A) : f_X3_seatedCount h M = some (nI (seatsS J (A.1 0))) := by
  unfold f_X3_seatedCount
  rw [show M.1 20 h 2 = nI (A.1 0) from r.1 0 (by decide), bitCount_at _ o.S, seats_pc o.1 o.2.1]
  rfl
theorem X3_ruling_spW {M : Mem} {h J w : Nat} {A : Ha} (r : RepH M h A) (o : OKT J A) (hw : w ≤ 2) : f_X3_ruling h (nI w) M = some (ruleN w (votesS J (A.1 0) A.2.1) (seatsS J (A.1 0) - votesS J (A.1 0) A.2.1)) := by
  have h1 : seatsS J (A.1 0) ≤ J := seats_le
  have h2 : votesS J (A.1 0) A.2.1 ≤ seatsS J (A.1 0) := votes_le
  have h3 : J ≤ 10 := o.1
  have e1 := X3_guiltyVotes_spW r o
  have e2 := X3_seatedCount_spW r o
  generalize votesS J (A.1 0) A.2.1 = g at *
  generalize seatsS J (A.1 0) = f at *
  have e3 := rule_at w (by omega) g (by omega) (f - g) (by omega)
  unfold f_X3_ruling
  rw [e1, Option.bind_some, e2, Option.bind_some, sub_nI h2, e3, Option.bind_some]
theorem X3_pullOn_spW {M : Mem} {h k j : Nat} {A : Ha} {K : Co} (rc : RepC M k K) (r : RepH M h A) (o : OKT (K.1 0) A) (hj : j < K.1 0) : f_X3_pullOn h k (nI j) M = some (pullS K (A.1 0) A.2.1 j) := by
  have hJ := o.1
  have hS := o.S
  have hS0 : M.1 20 h 2 = nI (A.1 0) := r.1 0 (by decide)
  obtain ⟨T, hT, hT2, hTb⟩ := rc.2.2.2.2.2.1 j hj
  have hT : M.1 15 k j = nI T := hT
  have hU : T &&& A.1 0 < 1024 := Nat.lt_of_le_of_lt Nat.and_le_right hS
  unfold f_X3_pullOn
  rw [inb_nI_t (show j < 10 by omega) (by decide), nI_clamp (by omega), hT, hS0, and_nI]
  simp only [if_true]
  have e := pl_loop (M := M) (h := h) (k := k) (j := j) (U := T &&& A.1 0) (l := A.2.1) (w := fun i => K.2 3 (10 * i + j)) (sb := K.2 1 j) hU (by omega) r.2.1
    (fun i hi hb => by
      have hb' : T.testBit i = true := by rw [Nat.testBit_and, Bool.and_eq_true] at hb; exact hb.1
      have hiJ : i < K.1 0 := by
        rcases Nat.lt_or_ge i (K.1 0) with q | q
        · exact q
        · rw [no_hi hT2 q] at hb'; cases hb'
      exact rc.2.2.2.2.1 i j hiJ hj) ((rc.2.2.2.1 j hj).2.1) 10 0 FU 0 rfl (lt_FU (by decide))
  rw [show nI 0 = (0 : Int32) from rfl] at e
  rw [e]
  have ea : accR (fun i => if (T &&& A.1 0).testBit i then (if 0 < A.2.1 i then K.2 3 (10 * i + j) else if A.2.1 i < 0 then -(K.2 3 (10 * i + j)) else 0) else 0) 10 0 0 = accR (swayS K (A.1 0) A.2.1 j) (K.1 0) 0 0 := by
    have ap := accR_app (fun i => if (T &&& A.1 0).testBit i then (if 0 < A.2.1 i then K.2 3 (10 * i + j) else if A.2.1 i < 0 then -(K.2 3 (10 * i + j)) else 0) else 0) (K.1 0) (10 - K.1 0) 0 0
    rw [show K.1 0 + (10 - K.1 0) = 10 by omega] at ap
    rw [ap, accR_zero (10 - K.1 0) (0 + K.1 0) _ (fun m hm _ => by
      simp only [Nat.testBit_and, no_hi hT2 (show K.1 0 ≤ m by omega), Bool.false_and]; rfl)]
    apply accR_congr
    intro i _ hi
    have hi : i < K.1 0 := by omega
    unfold swayS
    simp only [Nat.testBit_and, hTb i hi]
    cases hs : (A.1 0).testBit i with
    | false => simp
    | true =>
      by_cases hz : K.2 3 (10 * i + j) = 0
      · simp [hz]
      · simp [hz]
  rw [ea]
  rfl
theorem X3_goHungry_spW {M : Mem} {h k : Nat} {A : Ha} {K : Co} (rc : RepC M k K) (r : RepH M h A) (o : OKT (K.1 0) A) :
    ∃ a' M', f_X3_goHungry h k M = some (nI a', M') ∧ a' ≤ 10 ∧ RepH M' h (A.1, hungL K (A.1 0) A.2.1, A.2.2) ∧ HFr h M M' ∧ (a' = 0 → hungL K (A.1 0) A.2.1 = A.2.1) := by
  have h1 : seatsS (K.1 0) (A.1 0) ≤ K.1 0 := seats_le
  have h2 : votesS (K.1 0) (A.1 0) A.2.1 ≤ seatsS (K.1 0) (A.1 0) := votes_le
  have h3 : K.1 0 ≤ 10 := o.1
  have e1 := X3_guiltyVotes_spW r o
  have e2 := X3_seatedCount_spW r o
  have e3 : f_J6_compare_7cf53 (nI (2 * votesS (K.1 0) (A.1 0) A.2.1)) (nI (seatsS (K.1 0) (A.1 0))) = some (sideS (K.1 0) (A.1 0) A.2.1) := by
    unfold sideS
    generalize votesS (K.1 0) (A.1 0) A.2.1 = g at *
    generalize seatsS (K.1 0) (A.1 0) = f at *
    exact cmp_at (2 * g) (by omega) f (by omega)
  unfold f_X3_goHungry
  rw [e1, Option.bind_some, e2, Option.bind_some, show (2 : Int32) * nI (votesS (K.1 0) (A.1 0) A.2.1) = nI (2 * votesS (K.1 0) (A.1 0) A.2.1) from mul_nI 2 _, e3, Option.bind_some]
  obtain ⟨a', M', g1, g2, g3, g4, g5, g6⟩ := gh_loop (h := h) (k := k) (x3 := sideS (K.1 0) (A.1 0) A.2.1) (S := A.1 0) (K := K) h3 rfl (K.1 0) 0 FU 0 M A (by omega) (lt_FU (by omega)) rc r rfl o.S
  exact ⟨a', M', g1, by omega, g4, g5, g6⟩
theorem tr_loopW {h k J : Nat} {x2 : Int32} {S : Nat} {K : Co} (hJ : J ≤ 10) (hK : K.1 0 = J) : ∀ (kk i n a : Nat) (M : Mem) (A : Ha), i + kk = J → kk < n → RepC M k K → RepH M h A → A.1 0 = S → OKT J A →
    ∃ n' a' M', f_X3_talkRound_5 h k x2 n (nI a) (nI i) M = f_X3_talkRound_5 h k x2 (n' + 1) (nI a') (nI J) M' ∧ a ≤ a' ∧ a' ≤ a + kk ∧ RepH M' h (A.1, foldJ (fun l i => if S.testBit i then upd l i (cutS (l i + pullS K S l i)) else l) kk i A.2.1, A.2.2) ∧ HFr h M M' ∧ (a' = a → foldJ (fun l i => if S.testBit i then upd l i (cutS (l i + pullS K S l i)) else l) kk i A.2.1 = A.2.1)
  | kk, i, 0, a, M, A, _, hn, _, _, _, _ => by omega
  | 0, i, n + 1, a, M, A, hi, _, rc, r, hA, o => by
    have e : i = J := by omega
    subst e
    exact ⟨n, a, M, rfl, Nat.le_refl _, Nat.le_refl _, r, HFr.rf, fun _ => rfl⟩
  | kk + 1, i, n + 1, a, M, A, hi, hn, rc, r, hA, o => by
    have ih := tr_loopW (h := h) (k := k) (x2 := x2) (S := S) hJ hK kk (i + 1) n
    rw [f_X3_talkRound_5, show M.1 9 k 0 = nI (K.1 0) from rc.1 0 (by decide), hK, if_pos (by rw [lt_nI (by omega) (by omega)]; omega)]
    rw [X3_isSeated_sp (S := S) (by rw [← hA]; exact r.1 0 (by decide)) (by rw [← hA]; exact o.S) (by omega), Option.bind_some]
    rw [show nI i + (1 : Int32) = nI (i + 1) from add_nI i 1]
    have e : ∀ l, foldJ (fun l i => if S.testBit i then upd l i (cutS (l i + pullS K S l i)) else l) (kk + 1) i l = foldJ (fun l i => if S.testBit i then upd l i (cutS (l i + pullS K S l i)) else l) kk (i + 1) (if S.testBit i then upd l i (cutS (l i + pullS K S l i)) else l) := fun _ => rfl
    rw [e]
    cases hb : S.testBit i with
    | false =>
      rw [ifb_f]
      obtain ⟨n', a', M', g1, g2, g3, g4, g5, g6⟩ := ih a M A (by omega) (by omega) rc r hA o
      exact ⟨n', a', M', g1, g2, by omega, g4, g5, g6⟩
    | true =>
      rw [ifb_t, X3_pullOn_spW rc r (by rw [hK]; exact o) (by omega), Option.bind_some, hA]
      obtain ⟨f, M1, s1, s2, s3, s4, s5⟩ := X3_shift_H (J := J) (by_ := pullS K S A.2.1 i) r (show i < 10 by omega)
      rw [s1, Option.bind_some]
      simp only
      rw [add_nI]
      obtain ⟨n', a', M', g1, g2, g3, g4, g5, g6⟩ := ih (a + f) M1 _ (by omega) (by omega) (rc.fr s4) s3 hA o.lean
      refine ⟨n', a', M', g1, by omega, by omega, g4, s4.tr g5, fun h0 => ?_⟩
      have hf : f = 0 := by omega
      have := g6 (by omega)
      rw [if_pos trivial]
      exact this.trans (s5 hf)
theorem X3_talkRound_spW {M : Mem} {h k b : Nat} {A : Ha} {K : Co} (hb : b ≤ 1) (rc : RepC M k K) (r : RepH M h A) (o : OKT (K.1 0) A) (ok4 : K.1 4 ≤ 99) (hbig : A.1 2 + 1 < 16777216) :
    ∃ a' M', f_X3_talkRound h k (nI b) M = some (nI a', M') ∧ a' ≤ 20 ∧ RepH M' h (roundS K (decide (b = 1)) A) ∧ HFr h M M' ∧ (a' = 0 → (roundS K (decide (b = 1)) A).2.1 = A.2.1) := by
  have h3 : K.1 0 ≤ 10 := o.1
  have hr : A.1 2 < 16777216 := o.2.2.1 2 (by decide)
  obtain ⟨n', a', M', g1, g2, g3, g4, g5, g6⟩ := tr_loopW (h := h) (k := k) (x2 := nI b) (S := A.1 0) (K := K) h3 rfl (K.1 0) 0 FU 0 M A (by omega) (lt_FU (by omega)) rc r rfl o
  have ol : OKT (K.1 0) (A.1, talkL K (A.1 0) A.2.1, A.2.2) := o.lean
  have rc' := rc.fr g5
  unfold f_X3_talkRound
  rw [show (0 : Int32) = nI 0 from rfl, g1, f_X3_talkRound_5, show M'.1 9 k 0 = nI (K.1 0) from rc'.1 0 (by decide), if_neg (by rw [lt_nI (by omega) (by omega)]; omega)]
  have er : M'.1 20 h 4 = nI (A.1 2) := g4.1 2 (by decide)
  have e1 : M'.1 20 h 4 + (1 : Int32) = nI (A.1 2 + 1) := by rw [er]; exact add_nI _ 1
  rw [e1]
  have q4 := setN_H (j := 2) (v := A.1 2 + 1) (by decide) g4
  have f4 : HFr h M' (sR M' 20 h (upd (M'.1 20 h) 4 (nI (A.1 2 + 1)))) := setN_F
  have rc2 := rc'.fr f4
  have o2 : OKT (K.1 0) (updN A.1 2 (A.1 2 + 1), talkL K (A.1 0) A.2.1, A.2.2) ∨ True := Or.inr trivial
  generalize hM2 : sR M' 20 h (upd (M'.1 20 h) 4 (nI (A.1 2 + 1))) = M2 at *
  simp only
  have t0 : ∀ e : Bool, e = false → (roundS K e A) = (updN A.1 2 (A.1 2 + 1), talkL K (A.1 0) A.2.1, A.2.2) := by
    intro e he; subst he; rfl
  match b, hb with
  | 0, _ =>
    rw [if_pos (show nI 0 = 0 from rfl)]
    refine ⟨a', M2, rfl, by omega, ?_, g5.tr f4, fun h0 => ?_⟩
    · rw [t0 (decide (0 = 1)) rfl]; exact q4
    · rw [t0 (decide (0 = 1)) rfl]; exact g6 h0
  | 1, _ =>
    rw [if_neg (by decide), show M2.1 8 k 11 = nI (K.1 4) from rc2.2.1, show M2.1 20 h 4 = nI (A.1 2 + 1) from q4.1 2 (by decide)]
    by_cases c : A.1 2 + 1 < K.1 4
    · rw [if_pos (by rw [lt_nI (by omega) (by omega)]; exact c)]
      have e : roundS K (decide (1 = 1)) A = (updN A.1 2 (A.1 2 + 1), talkL K (A.1 0) A.2.1, A.2.2) := by
        unfold roundS
        rw [if_neg (by simp; omega)]
      refine ⟨a', M2, rfl, by omega, ?_, g5.tr f4, fun h0 => ?_⟩
      · rw [e]; exact q4
      · rw [e]; exact g6 h0
    · rw [if_neg (by rw [lt_nI (by omega) (by omega)]; exact c)]
      have oR : OKT (K.1 0) (updN A.1 2 (A.1 2 + 1), talkL K (A.1 0) A.2.1, A.2.2) := ⟨ol.1, ol.2.1, fun j hj => by
        show updN A.1 2 (A.1 2 + 1) j < _
        unfold updN
        by_cases e : j = 2
        · rw [if_pos e]; exact hbig
        · rw [if_neg e]; exact o.2.2.1 j hj, ol.2.2.2⟩
      obtain ⟨a2, M3, k1, k2, k3, k4, k5⟩ := X3_goHungry_spW rc2 q4 oR
      rw [k1, Option.bind_some]
      have e : roundS K (decide (1 = 1)) A = (updN A.1 2 (A.1 2 + 1), hungL K (A.1 0) (talkL K (A.1 0) A.2.1), A.2.2) := by
        unfold roundS
        rw [if_pos (by simp; omega)]
      refine ⟨a' + a2, M3, by rw [add_nI], by omega, ?_, (g5.tr f4).tr k4, fun h0 => ?_⟩
      · rw [e]; exact k3
      · rw [e]
        have z1 := g6 (by omega)
        have z2 := k5 (by omega)
        exact z2.trans z1

theorem roundS_okW {J : Nat} {K : Co} {e : Bool} {A : Ha} (o : OKT J A) (h : A.1 2 + 1 < 16777216) : OKT J (roundS K e A) := by
  refine ⟨o.1, o.2.1, fun j hj => ?_, trivial⟩
  show updN A.1 2 (A.1 2 + 1) j < _
  unfold updN
  by_cases e : j = 2
  · rw [if_pos e]; exact h
  · rw [if_neg e]; exact o.2.2.1 j hj
theorem to_loopW {h k R b : Nat} {K : Co} (hb : b ≤ 1) (ok4 : K.1 4 ≤ 99) (hR : R < 1000) : ∀ (kk i n : Nat) (M : Mem) (A : Ha), i + kk = R → kk < n → RepC M k K → RepH M h A → OKT (K.1 0) A → A.1 2 + kk < 16777216 →
    ∃ M', f_X3_talkOn_16 h k (nI R) (nI b) n (nI i) M = some M' ∧ RepH M' h (roundsS K (decide (b = 1)) kk A) ∧ HFr h M M'
  | kk, i, 0, M, A, _, hn, _, _, _, _ => by omega
  | 0, i, n + 1, M, A, hi, _, rc, r, o, _ => by
    have e : i = R := by omega
    subst e
    refine ⟨M, ?_, r, HFr.rf⟩
    rw [f_X3_talkOn_16, if_neg (by rw [lt_nI (by omega) (by omega)]; omega)]
  | kk + 1, i, n + 1, M, A, hi, hn, rc, r, o, hbig => by
    rw [f_X3_talkOn_16, if_pos (by rw [lt_nI (by omega) (by omega)]; omega)]
    obtain ⟨a, M1, g1, g2, g3, g4, g5⟩ := X3_talkRound_spW hb rc r o ok4 (by omega)
    have rc1 := rc.fr g4
    have ih := to_loopW (h := h) (k := k) hb ok4 hR kk (i + 1) n M1 (roundS K (decide (b = 1)) A) (by omega) (by omega) rc1 g3 (roundS_okW o (by omega)) (by show updN A.1 2 (A.1 2 + 1) 2 + kk < _; rw [updN_at]; omega)
    rw [g1, Option.bind_some]
    simp only
    rw [show nI i + (1 : Int32) = nI (i + 1) from add_nI i 1]
    have cont : ∃ M', f_X3_talkOn_16 h k (nI R) (nI b) n (nI (i + 1)) M1 = some M' ∧ RepH M' h (roundsS K (decide (b = 1)) (kk + 1) A) ∧ HFr h M M' := by
      obtain ⟨M', k1, k2, k3⟩ := ih
      exact ⟨M', k1, k2, g4.tr k3⟩
    have er : M1.1 20 h 4 = nI (A.1 2 + 1) := by
      have := g3.1 2 (by decide)
      rw [show (roundS K (decide (b = 1)) A).1 2 = A.1 2 + 1 from updN_at A.1 2 (A.1 2 + 1)] at this
      exact this
    have fin : a = 0 → (decide (b = 1) = false ∨ K.1 4 ≤ A.1 2 + 1) → RepH (sR M1 20 h (upd (M1.1 20 h) 4 (M1.1 20 h 4 + (nI R - (1 : Int32) - nI i)))) h (roundsS K (decide (b = 1)) (kk + 1) A) ∧ HFr h M (sR M1 20 h (upd (M1.1 20 h) 4 (M1.1 20 h 4 + (nI R - (1 : Int32) - nI i)))) := by
      intro ha hc
      have hl := g5 ha
      have ex : M1.1 20 h 4 + (nI R - (1 : Int32) - nI i) = nI (A.1 2 + (kk + 1)) := by
        rw [er, show (1 : Int32) = nI 1 from rfl, sub_nI (by omega), sub_nI (by omega), add_nI]
        congr 1; omega
      rw [ex]
      have hs := setN_H (j := 2) (v := A.1 2 + (kk + 1)) (by decide) g3
      refine ⟨?_, g4.tr setN_F⟩
      have ef := rounds_fix (K := K) (e := decide (b = 1)) (l := A.2.1) (g := A.2.2) (kk + 1) A.1 hc hl
      have ea : A = (A.1, A.2.1, A.2.2) := rfl
      rw [ea, ef]
      have e2 : (updN (roundS K (decide (b = 1)) A).1 2 (A.1 2 + (kk + 1)), (roundS K (decide (b = 1)) A).2) = (updN A.1 2 (A.1 2 + (kk + 1)), A.2.1, A.2.2) := by
        show (updN (updN A.1 2 (A.1 2 + 1)) 2 (A.1 2 + (kk + 1)), (roundS K (decide (b = 1)) A).2.1, A.2.2) = _
        rw [updN_2, hl]
      rw [← e2]
      exact hs
    by_cases c0 : a = 0
    · rw [if_pos (by rw [c0]; rfl)]
      match b, hb with
      | 0, _ =>
        rw [if_pos (show nI 0 = 0 from rfl)]
        exact ⟨_, rfl, fin c0 (Or.inl rfl)⟩
      | 1, _ =>
        rw [if_neg (by decide), show M1.1 8 k 11 = nI (K.1 4) from rc1.2.1]
        by_cases c1 : A.1 2 + 1 < K.1 4
        · rw [if_pos (by rw [er, lt_nI (by omega) (by omega)]; exact c1)]
          exact cont
        · rw [if_neg (by rw [er, lt_nI (by omega) (by omega)]; exact c1)]
          exact ⟨_, rfl, fin c0 (Or.inr (by omega))⟩
    · rw [if_neg (by rw [show (0 : Int32) = nI 0 from rfl, eq_nI (by omega) (by decide)]; exact c0)]
      exact cont
theorem X3_talkOn_spW {M : Mem} {h k R : Nat} {A : Ha} {K : Co} (rc : RepC M k K) (r : RepH M h A) (o : OKT (K.1 0) A) (ok4 : K.1 4 ≤ 99) (hR : R < 1000) (hbig : A.1 2 + R < 16777216) :
    ∃ M', f_X3_talkOn h k (nI R) M = some M' ∧ RepH M' h (roundsS K (decide (0 < K.1 4)) R A) ∧ HFr h M M' := by
  unfold f_X3_talkOn
  rw [show M.1 8 k 11 = nI (K.1 4) from rc.2.1, show (0 : Int32) = nI 0 from rfl]
  by_cases c : 0 < K.1 4
  · rw [if_pos (by rw [lt_nI (by decide) (by omega)]; exact c)]
    have := to_loopW (h := h) (k := k) (b := 1) (K := K) (R := R) (Nat.le_refl _) ok4 hR R 0 FU M A (by omega) (lt_FU (by omega)) rc r o (by omega)
    rw [show decide (0 < K.1 4) = decide (1 = 1) by simp [c]]
    exact this
  · rw [if_neg (by rw [lt_nI (by decide) (by omega)]; exact c)]
    have := to_loopW (h := h) (k := k) (b := 0) (K := K) (R := R) (Nat.zero_le _) ok4 hR R 0 FU M A (by omega) (lt_FU (by omega)) rc r o (by omega)
    rw [show decide (0 < K.1 4) = decide (0 = 1) by simp [c]]
    exact this
