/-! ===== calls on both: lacks, swing ===== -/
theorem rule_full : ∀ w, w < 3 → ∀ g, g < 11 → 0 < g → ruleN w g 0 = 1 := by decide +kernel
def lackN (w g f : Nat) : Nat → Nat → Nat
  | 0, n => n
  | k + 1, n => if ruleN w (g + n) (f - n) = 1 then n else lackN w g f k (n + 1)
theorem lx_loop {M : Mem} {w g f : Nat} (hw : w < 3) (hM : M.1 8 0 12 = nI w) (hs : g + f ≤ 10) : ∀ (k n fu : Nat), n + k = f → k < fu →
    f_X10_lacks_35 (nI (g + f)) (nI g) M fu (nI n) = some (nI (lackN w g f k n), stM M 0)
  | k, n, 0, _, h => by omega
  | 0, n, fu + 1, hn, _ => by
    rw [f_X10_lacks_35, add_nI, if_neg (by rw [lt_nI (by omega) (by omega)]; omega), X10_answer_e]
    rfl
  | k + 1, n, fu + 1, hn, hk => by
    rw [f_X10_lacks_35, add_nI, if_pos (by rw [lt_nI (by omega) (by omega)]; omega), hM, sub_nI (a := g + f) (b := g) (by omega), sub_nI (a := g + f - g) (b := n) (by omega), rule_at w hw _ (by omega) _ (by omega), Option.bind_some, show nI n + (1 : Int32) = nI (n + 1) from add_nI n 1, lx_loop hw hM hs k (n + 1) fu (by omega) (by omega), show g + f - g - n = f - n by omega]
    rw [show lackN w g f (k + 1) n = if ruleN w (g + n) (f - n) = 1 then n else lackN w g f k (n + 1) from rfl]
    by_cases c : ruleN w (g + n) (f - n) = 1
    · rw [if_pos c, if_pos c]; rfl
    · rw [if_neg c, if_neg c]
theorem lm_loop {M : Mem} {w g f : Nat} (hw : w < 3) (hM : M.1 55 0 5 = nI w) (hs : g + f ≤ 10) (h0 : 0 < g + f) : ∀ (k n fu : Nat), n + k = f → k < fu →
    f_X11_lacks_37 (nI g) (nI f) M fu (nI n) = some (nI (lackN w g f k n), M)
  | k, n, 0, _, h => by omega
  | 0, n, fu + 1, hn, _ => by
    rw [f_X11_lacks_37, add_nI, hM, sub_nI (a := f) (b := n) (by omega), judge_at w hw _ (by omega) _ (by omega), Option.bind_some, show f - n = 0 by omega, rule_full w hw _ (by omega) (by omega), if_pos rfl]
    rfl
  | k + 1, n, fu + 1, hn, hk => by
    rw [f_X11_lacks_37, add_nI, hM, sub_nI (a := f) (b := n) (by omega), judge_at w hw _ (by omega) _ (by omega), Option.bind_some, show nI n + (1 : Int32) = nI (n + 1) from add_nI n 1, lm_loop hw hM hs h0 k (n + 1) fu (by omega) (by omega)]
    rw [show lackN w g f (k + 1) n = if ruleN w (g + n) (f - n) = 1 then n else lackN w g f k (n + 1) from rfl]
    by_cases c : ruleN w (g + n) (f - n) = 1
    · rw [if_pos c, if_pos c]
    · rw [if_neg c, if_neg c]
theorem step_lacks {s : Sy} (o : OKS s) : Step s f_X10_lacks f_X11_lacks := by
  have h1 : seatsS ((sWo s).1.1 0) ((sWo s).2.1.1 0) ≤ (sWo s).1.1 0 := seats_le
  have h2 : votesS ((sWo s).1.1 0) ((sWo s).2.1.1 0) (sWo s).2.1.2.1 ≤ seatsS ((sWo s).1.1 0) ((sWo s).2.1.1 0) := votes_le
  have h3 : (sWo s).1.1 0 ≤ 10 := o.C.J
  have hw : (sWo s).1.1 5 ≤ 2 := o.C.2.2.2.2.2.1
  have hx : ∀ M, RX s M → f_X10_lacks M = if seatsS ((sWo s).1.1 0) ((sWo s).2.1.1 0) = 0 then some (-1, stM M 8) else some (nI (lackN ((sWo s).1.1 5) (votesS ((sWo s).1.1 0) ((sWo s).2.1.1 0) (sWo s).2.1.2.1) (seatsS ((sWo s).1.1 0) ((sWo s).2.1.1 0) - votesS ((sWo s).1.1 0) ((sWo s).2.1.1 0) (sWo s).2.1.2.1) (seatsS ((sWo s).1.1 0) ((sWo s).2.1.1 0) - votesS ((sWo s).1.1 0) ((sWo s).2.1.1 0) (sWo s).2.1.2.1) 0), stM M 0) := by
    intro M h
    unfold f_X10_lacks
    rw [X3_seatedCount_sp h.H o.H, Option.bind_some, X3_guiltyVotes_sp h.H o.H, Option.bind_some]
    have hM : M.1 8 0 12 = nI ((sWo s).1.1 5) := h.C.2.2.1
    generalize votesS ((sWo s).1.1 0) ((sWo s).2.1.1 0) (sWo s).2.1.2.1 = g at *
    generalize seatsS ((sWo s).1.1 0) ((sWo s).2.1.1 0) = t at *
    obtain ⟨f, rfl⟩ : ∃ f, t = g + f := ⟨t - g, by omega⟩
    by_cases c : g + f = 0
    · rw [if_pos c, if_pos (by rw [c]; rfl), X10_none_e]; rfl
    · rw [if_neg c, if_neg (by rw [nI_z (by omega)]; exact c), show (0 : Int32) = nI 0 from rfl, lx_loop (by omega) hM (by omega) f 0 FU (by omega) (lt_FU (by omega)), show g + f - g = f by omega]
      rfl
  have hm : ∀ M, RM s M → f_X11_lacks M = if seatsS ((sWo s).1.1 0) ((sWo s).2.1.1 0) = 0 then some (-1, smM (mR M) 8) else some (nI (lackN ((sWo s).1.1 5) (votesS ((sWo s).1.1 0) ((sWo s).2.1.1 0) (sWo s).2.1.2.1) (seatsS ((sWo s).1.1 0) ((sWo s).2.1.1 0) - votesS ((sWo s).1.1 0) ((sWo s).2.1.1 0) (sWo s).2.1.2.1) (seatsS ((sWo s).1.1 0) ((sWo s).2.1.1 0) - votesS ((sWo s).1.1 0) ((sWo s).2.1.1 0) (sWo s).2.1.2.1) 0), mR M) := by
    intro M h
    unfold f_X11_lacks
    simp only [mR_e]
    have e1 : f_X11_votesFor 1 (mR M) = some (nI (votesS ((sWo s).1.1 0) ((sWo s).2.1.1 0) (sWo s).2.1.2.1)) := X11_votesFor_1 (h.r o).C (h.r o).H o.H
    have e2 : f_X11_votesFor (-1) (mR M) = some (nI (seatsS ((sWo s).1.1 0) ((sWo s).2.1.1 0) - votesS ((sWo s).1.1 0) ((sWo s).2.1.1 0) (sWo s).2.1.2.1)) := X11_votesFor_m (h.r o).C (h.r o).H o.H
    rw [e1, Option.bind_some, e2, Option.bind_some]
    have hM : (mR M).1 55 0 5 = nI ((sWo s).1.1 5) := (h.r o).C.2.2.1
    generalize votesS ((sWo s).1.1 0) ((sWo s).2.1.1 0) (sWo s).2.1.2.1 = g at *
    generalize seatsS ((sWo s).1.1 0) ((sWo s).2.1.1 0) = t at *
    obtain ⟨f, rfl⟩ : ∃ f, t = g + f := ⟨t - g, by omega⟩
    rw [show g + f - g = f by omega, add_nI]
    by_cases c : g + f = 0
    · rw [if_pos c, if_pos (by rw [c]; rfl), X11_refuse_e]; rfl
    · rw [if_neg c, if_neg (by rw [nI_z (by omega)]; exact c), show (0 : Int32) = nI 0 from rfl, lm_loop (by omega) hM (by omega) (by omega) f 0 FU (by omega) (lt_FU (by omega))]
  by_cases c : seatsS ((sWo s).1.1 0) ((sWo s).2.1.1 0) = 0
  · refine step_of (-1) (setSc s 0 8) o (fun M h => ⟨stM M 8, ?_, h.st o 8 XQ.rf⟩) (fun M h => ⟨smM (mR M) 8, ?_, h.st o 8 (mR_Q M)⟩)
    · rw [hx M h, if_pos c]
    · rw [hm M h, if_pos c]
  · refine step_of (nI (lackN ((sWo s).1.1 5) (votesS ((sWo s).1.1 0) ((sWo s).2.1.1 0) (sWo s).2.1.2.1) (seatsS ((sWo s).1.1 0) ((sWo s).2.1.1 0) - votesS ((sWo s).1.1 0) ((sWo s).2.1.1 0) (sWo s).2.1.2.1) (seatsS ((sWo s).1.1 0) ((sWo s).2.1.1 0) - votesS ((sWo s).1.1 0) ((sWo s).2.1.1 0) (sWo s).2.1.2.1) 0)) (setSc s 0 0) o (fun M h => ⟨stM M 0, ?_, h.st o 0 XQ.rf⟩) (fun M h => ⟨mR M, ?_, h.s0 o MQm.rf (mR_0 M)⟩)
    · rw [hx M h, if_neg c]
    · rw [hm M h, if_neg c]
-- the swing
theorem tb1023 : ∀ j, j < 10 → Nat.testBit 1023 j = true := by decide
theorem strike_bit {S i j : Nat} (hj : j < 10) : (S &&& (1023 ^^^ 2 ^ i)).testBit j = (S.testBit j && decide (j ≠ i)) := by
  rw [Nat.testBit_and, Nat.testBit_xor, tb1023 j hj, Nat.testBit_two_pow]
  by_cases e : i = j
  · subst e; simp
  · have e2 : ¬ j = i := fun z => e z.symm
    simp [e, e2]
theorem strike_back : ∀ S, S < 1024 → ∀ i, i < 10 → S.testBit i = true → (S &&& (1023 ^^^ 2 ^ i)) ||| 2 ^ i = S := by decide +kernel
theorem cntR_rm {p : Nat → Bool} {i : Nat} : ∀ (k a : Nat), a ≤ i → i < a + k → p i = true → cntR (fun j => p j && decide (j ≠ i)) a k + 1 = cntR p a k
  | 0, a, h1, h2, _ => by omega
  | k + 1, a, h1, h2, hp => by
    unfold cntR
    by_cases e : a = i
    · subst e
      have : cntR (fun j => p j && decide (j ≠ a)) (a + 1) k = cntR p (a + 1) k := cntR_congr k (a + 1) (fun j q1 q2 => by
        have : ¬ j = a := by omega
        simp [this])
      rw [this, hp]
      simp
      omega
    · have := cntR_rm (p := p) k (a + 1) (by omega) (by omega) hp
      rw [← this]
      simp [e]
      omega
theorem seats_rm {J S i : Nat} (hJ : J ≤ 10) (hi : i < J) (hb : S.testBit i = true) : seatsS J (S &&& (1023 ^^^ 2 ^ i)) + 1 = seatsS J S := by
  unfold seatsS
  rw [← cntR_rm (p := fun j => S.testBit j) (i := i) J 0 (by omega) (by omega) hb]
  congr 1
  exact cntR_congr J 0 (fun j _ q => strike_bit (by omega))
theorem votes_rm {J S i : Nat} {l : Nat → Int32} (hJ : J ≤ 10) (hi : i < J) (hb : S.testBit i = true) : votesS J (S &&& (1023 ^^^ 2 ^ i)) l + (if 0 < l i then 1 else 0) = votesS J S l := by
  unfold votesS
  have e : cntR (fun j => (S &&& (1023 ^^^ 2 ^ i)).testBit j && decide (0 < l j)) 0 J = cntR (fun j => (S.testBit j && decide (0 < l j)) && decide (j ≠ i)) 0 J := cntR_congr J 0 (fun j _ q => by
    rw [strike_bit (by omega)]
    cases S.testBit j <;> cases decide (0 < l j) <;> cases decide (j ≠ i) <;> rfl)
  rw [e]
  by_cases c : 0 < l i
  · rw [if_pos c]
    exact cntR_rm (p := fun j => S.testBit j && decide (0 < l j)) (i := i) J 0 (by omega) (by omega) (by simp [hb, c])
  · rw [if_neg c]
    exact cntR_congr J 0 (fun j _ q => by
      by_cases z : j = i
      · subst z; simp [c]
      · simp [z])
/-- whose going changes the verdict -/
def swingF (K : Co) (A : Ha) (a i : Nat) : Nat := if (A.1 0).testBit i then (if verdS K (updN A.1 0 (A.1 0 &&& (1023 ^^^ 2 ^ i)), A.2) = verdS K A then a else a ||| 2 ^ i) else a
theorem OKH.seat {J S : Nat} {A : Ha} (o : OKH J A) (h : S < 2 ^ J) : OKH J (updN A.1 0 S, A.2) := by
  refine ⟨o.1, h, fun j hj => ?_, o.2.2.2⟩
  show updN A.1 0 S j < _
  have hS : S < 1024 := Nat.lt_of_lt_of_le h (p2_le o.1)
  unfold updN
  by_cases e : j = 0
  · rw [if_pos e]; omega
  · rw [if_neg e]; exact o.2.2.1 j hj
theorem updN_back {A : Nat → Nat} {S : Nat} (x : Nat) (h : S = A 0) : updN (updN A 0 x) 0 S = A := by
  funext j
  unfold updN
  by_cases e : j = 0
  · subst e; rw [if_pos rfl, h]
  · rw [if_neg e, if_neg e]
theorem sx_loop {M : Mem} {K : Co} {A : Ha} (ok : OKC K) (rc : RepC M 0 K) (r : RepH M 0 A) (o : OKH (K.1 0) A) : ∀ (k i n a : Nat), i + k = K.1 0 → k < n →
    f_X10_swing_47 0 (nI (K.1 5)) (nI (votesS (K.1 0) (A.1 0) A.2.1)) (nI (seatsS (K.1 0) (A.1 0) - votesS (K.1 0) (A.1 0) A.2.1)) (verdS K A) M n (nI a) (nI i) = some (nI (foldJ (swingF K A) k i a), stM M 0)
  | k, i, 0, a, _, h => by omega
  | 0, i, n + 1, a, hi, _ => by
    have hJ := ok.J
    rw [f_X10_swing_47, show M.1 9 0 0 = nI (K.1 0) from rc.1 0 (by decide), if_neg (by rw [lt_nI (by omega) (by omega)]; omega), X10_answer_e]
    rfl
  | k + 1, i, n + 1, a, hi, hk => by
    have hJ := ok.J
    have hw : K.1 5 ≤ 2 := ok.2.2.2.2.2.1
    have ih := sx_loop ok rc r o k (i + 1) n
    rw [f_X10_swing_47, show M.1 9 0 0 = nI (K.1 0) from rc.1 0 (by decide), if_pos (by rw [lt_nI (by omega) (by omega)]; omega), X3_isSeated_sp (r.1 0 (by decide)) o.S (by omega), Option.bind_some, inb_nI_t (by omega) (by decide), if_pos rfl, nI_clamp (by omega), r.2.1 i (by omega)]
    rw [show foldJ (swingF K A) (k + 1) i a = foldJ (swingF K A) k (i + 1) (swingF K A a i) from rfl]
    simp only [show nI i + (1 : Int32) = nI (i + 1) from add_nI i 1]
    cases hb : (A.1 0).testBit i with
    | false =>
      rw [ifb_f, ih a (by omega) (by omega)]
      unfold swingF
      rw [hb]; rfl
    | true =>
      rw [ifb_t]
      have s1 := seats_rm (S := A.1 0) hJ (show i < K.1 0 by omega) hb
      have s2 := votes_rm (S := A.1 0) (l := A.2.1) hJ (show i < K.1 0 by omega) hb
      have s3 : votesS (K.1 0) (A.1 0) A.2.1 ≤ seatsS (K.1 0) (A.1 0) := votes_le
      have s4 : seatsS (K.1 0) (A.1 0) ≤ K.1 0 := seats_le
      have s5 : votesS (K.1 0) (A.1 0 &&& (1023 ^^^ 2 ^ i)) A.2.1 ≤ seatsS (K.1 0) (A.1 0 &&& (1023 ^^^ 2 ^ i)) := votes_le
      have ev : verdS K (updN A.1 0 (A.1 0 &&& (1023 ^^^ 2 ^ i)), A.2) = ruleN (K.1 5) (votesS (K.1 0) (A.1 0 &&& (1023 ^^^ 2 ^ i)) A.2.1) (seatsS (K.1 0) (A.1 0 &&& (1023 ^^^ 2 ^ i)) - votesS (K.1 0) (A.1 0 &&& (1023 ^^^ 2 ^ i)) A.2.1) := rfl
      have esw : swingF K A a i = if verdS K (updN A.1 0 (A.1 0 &&& (1023 ^^^ 2 ^ i)), A.2) = verdS K A then a else a ||| 2 ^ i := by
        unfold swingF
        rw [hb]; rfl
      rw [esw, ev]
      generalize verdS K A = v at *
      by_cases c : 0 < A.2.1 i
      · rw [if_pos c] at s2
        rw [if_pos c]
        unfold f_X10_swing_88
        rw [if_neg (by decide)]
        generalize votesS (K.1 0) (A.1 0 &&& (1023 ^^^ 2 ^ i)) A.2.1 = g' at *
        generalize seatsS (K.1 0) (A.1 0 &&& (1023 ^^^ 2 ^ i)) = t' at *
        generalize votesS (K.1 0) (A.1 0) A.2.1 = g at *
        generalize seatsS (K.1 0) (A.1 0) = t at *
        rw [show nI g - (1 : Int32) = nI g' from by rw [show (1 : Int32) = nI 1 from rfl, sub_nI (a := g) (b := 1) (by omega), show g - 1 = g' by omega], rule_at (K.1 5) (by omega) g' (by omega) (t - g) (by omega), Option.bind_some, show t - g = t' - g' by omega]
        by_cases z : ruleN (K.1 5) g' (t' - g') = v
        · rw [if_pos z, if_pos z, show nI i + (1 : Int32) = nI (i + 1) from add_nI i 1, show t' - g' = t - g by omega]
          dsimp only
          rw [ih a (by omega) (by omega)]
        · rw [if_neg z, if_neg z]
          dsimp only
          rw [shl_1 i (by omega), or_nI, show nI i + (1 : Int32) = nI (i + 1) from add_nI i 1, show t' - g' = t - g by omega, ih (a ||| 2 ^ i) (by omega) (by omega)]
      · rw [if_neg c] at s2
        rw [if_neg c]
        unfold f_X10_swing_88
        rw [if_pos rfl]
        generalize votesS (K.1 0) (A.1 0 &&& (1023 ^^^ 2 ^ i)) A.2.1 = g' at *
        generalize seatsS (K.1 0) (A.1 0 &&& (1023 ^^^ 2 ^ i)) = t' at *
        generalize votesS (K.1 0) (A.1 0) A.2.1 = g at *
        generalize seatsS (K.1 0) (A.1 0) = t at *
        have e9 : nI (t - g) - (1 : Int32) = nI (t' - g') := by rw [show (1 : Int32) = nI 1 from rfl, sub_nI (a := t - g) (b := 1) (by omega), show t - g - 1 = t' - g' by omega]
        rw [e9, rule_at (K.1 5) (by omega) g (by omega) (t' - g') (by omega), Option.bind_some, show ruleN (K.1 5) g (t' - g') = ruleN (K.1 5) g' (t' - g') by rw [show g = g' by omega]]
        by_cases z : ruleN (K.1 5) g' (t' - g') = v
        · rw [if_pos z, if_pos z, show nI i + (1 : Int32) = nI (i + 1) from add_nI i 1]
          dsimp only
          rw [ih a (by omega) (by omega)]
        · rw [if_neg z, if_neg z]
          dsimp only
          rw [shl_1 i (by omega), or_nI, show nI i + (1 : Int32) = nI (i + 1) from add_nI i 1, ih (a ||| 2 ^ i) (by omega) (by omega)]
theorem sm_loop {K : Co} {A : Ha} (ok : OKC K) (o : OKH (K.1 0) A) : ∀ (k i n a : Nat) (M : Mem), i + k = K.1 0 → k < n → RepMC (M.1 55 0) K → RepMH (M.1 55 0) K A →
    ∃ M', f_X11_swing_19 (verdS K A) n (nI a) (nI i) M = some (nI (foldJ (swingF K A) k i a), M') ∧ RepMH (M'.1 55 0) K A ∧ MFr M M'
  | k, i, 0, a, M, _, h, _, _ => by omega
  | 0, i, n + 1, a, M, hi, _, rc, r => by
    have hJ := ok.J
    refine ⟨M, ?_, r, MFr.rf⟩
    rw [f_X11_swing_19, rc.1 0 (by decide), if_neg (by rw [lt_nI (by omega) (by omega)]; omega)]
    rfl
  | k + 1, i, n + 1, a, M, hi, hk, rc, r => by
    have hJ := ok.J
    rw [f_X11_swing_19, rc.1 0 (by decide), if_pos (by rw [lt_nI (by omega) (by omega)]; omega)]
    rw [show foldJ (swingF K A) (k + 1) i a = foldJ (swingF K A) k (i + 1) (swingF K A a i) from rfl]
    rcases X11_strikesOne_sp (i := i) ok r (by omega) o.S with ⟨hb, e⟩ | ⟨hb, M1, e1, r1, f1⟩
    · rw [e, Option.bind_some, if_pos rfl, show nI i + (1 : Int32) = nI (i + 1) from add_nI i 1, show swingF K A a i = a by unfold swingF; rw [hb]; rfl]
      exact sm_loop ok o k (i + 1) n a M (by omega) (by omega) rc r
    · have rc1 : RepMC (M1.1 55 0) K := RepMC.fr ok f1.2.2 rc
      have hlt : A.1 0 &&& (1023 ^^^ 2 ^ i) < 2 ^ K.1 0 := Nat.lt_of_le_of_lt Nat.and_le_left o.2.1
      have o1 := o.seat hlt
      have esw : swingF K A a i = if verdS K (updN A.1 0 (A.1 0 &&& (1023 ^^^ 2 ^ i)), A.2) = verdS K A then a else a ||| 2 ^ i := by
        unfold swingF
        rw [hb]; rfl
      rw [e1, Option.bind_some, if_neg (show ¬ ((1 : Int32) = 0) by decide), X11_judged_sp ok rc1 r1 o1, Option.bind_some, esw]
      rcases X11_seatsOne_sp (i := i) ok r1 (by omega) o1.S with ⟨hb2, -⟩ | ⟨-, M2, e2, r2, f2⟩
      · have hb2 : (A.1 0 &&& (1023 ^^^ 2 ^ i)).testBit i = true := hb2
        rw [strike_bit (by omega)] at hb2
        simp at hb2
      · have r2' : RepMH (M2.1 55 0) K A := by
          have e : (updN (updN A.1 0 (A.1 0 &&& (1023 ^^^ 2 ^ i))) 0 ((A.1 0 &&& (1023 ^^^ 2 ^ i)) ||| 2 ^ i), A.2) = A := by
            rw [updN_back _ (strike_back _ o.S i (by omega) hb)]
          have r2 : RepMH (M2.1 55 0) K (updN (updN A.1 0 (A.1 0 &&& (1023 ^^^ 2 ^ i))) 0 ((A.1 0 &&& (1023 ^^^ 2 ^ i)) ||| 2 ^ i), A.2) := r2
          rw [e] at r2
          exact r2
        have rc2 : RepMC (M2.1 55 0) K := RepMC.fr ok f2.2.2 rc1
        by_cases z : verdS K (updN A.1 0 (A.1 0 &&& (1023 ^^^ 2 ^ i)), A.2) = verdS K A
        · rw [if_pos z, if_pos z, e2, Option.bind_some, show nI a ||| (0 : Int32) = nI a from by rw [show (0 : Int32) = nI 0 from rfl, or_nI, Nat.or_zero], show nI i + (1 : Int32) = nI (i + 1) from add_nI i 1]
          obtain ⟨M3, q1, q2, q3⟩ := sm_loop ok o k (i + 1) n a M2 (by omega) (by omega) rc2 r2'
          exact ⟨M3, q1, q2, (f1.tr f2).tr q3⟩
        · rw [if_neg z, if_neg z]
          dsimp only
          rw [e2, Option.bind_some, shl_1 i (by omega), or_nI, show nI i + (1 : Int32) = nI (i + 1) from add_nI i 1]
          obtain ⟨M3, q1, q2, q3⟩ := sm_loop ok o k (i + 1) n (a ||| 2 ^ i) M2 (by omega) (by omega) rc2 r2'
          exact ⟨M3, q1, q2, (f1.tr f2).tr q3⟩
theorem step_swing {s : Sy} (o : OKS s) : Step s f_X10_swing f_X11_swing := by
  have h1 : seatsS ((sWo s).1.1 0) ((sWo s).2.1.1 0) ≤ (sWo s).1.1 0 := seats_le
  have h2 : votesS ((sWo s).1.1 0) ((sWo s).2.1.1 0) (sWo s).2.1.2.1 ≤ seatsS ((sWo s).1.1 0) ((sWo s).2.1.1 0) := votes_le
  have h3 : (sWo s).1.1 0 ≤ 10 := o.C.J
  have hw : (sWo s).1.1 5 ≤ 2 := o.C.2.2.2.2.2.1
  refine step_of (nI (foldJ (swingF (sWo s).1 (sWo s).2.1) ((sWo s).1.1 0) 0 0)) (setSc (setHa s (sWo s).2.1) 0 0) o (fun M h => ⟨stM M 0, ?_, h.st o 0 XQ.rf⟩) (fun M h => ?_)
  · unfold f_X10_swing
    rw [X3_guiltyVotes_sp h.H o.H, Option.bind_some, X3_seatedCount_sp h.H o.H, Option.bind_some, sub_nI h2, show M.1 8 0 12 = nI ((sWo s).1.1 5) from h.C.2.2.1, rule_at _ (by omega) _ (by omega) _ (by omega), Option.bind_some]
    exact sx_loop o.C h.C h.H o.H ((sWo s).1.1 0) 0 FU 0 (by omega) (lt_FU (by omega))
  · obtain ⟨M1, e1, e2, e3⟩ := sm_loop (K := (sWo s).1) (A := (sWo s).2.1) o.C o.H ((sWo s).1.1 0) 0 FU 0 (mR M) (by omega) (lt_FU (by omega)) (h.r o).C (h.r o).H
    refine ⟨M1, ?_, h.hst o e3 e2⟩
    unfold f_X11_swing
    simp only [mR_e]
    rw [show f_X11_judged (mR M) = some (verdS (sWo s).1 (sWo s).2.1) from X11_judged_sp o.C (h.r o).C (h.r o).H o.H, Option.bind_some]
    exact e1
