/-! ===== calls on both: status, fractions, votes, deeds of a day ===== -/
theorem isIn_f0 {x : Int32} {n : Nat} {c : Int64} (hn : n < 2 ^ 31) (hc : c.toInt = (n : Int) - 1) (h : x < 0 ∨ ¬ x < nI n) : f_X11_isIn x.toInt64 0 c = some 0 := by
  have ho := out_toInt hn h
  apply isIn_f
  rw [hc]
  intro z
  have z1 : (0 : Int) ≤ x.toInt := z.1
  exact ho ⟨z1, by omega⟩
theorem isIn_t0 {i n : Nat} {c : Int64} (hn : n < 2 ^ 31) (hc : c.toInt = (n : Int) - 1) (h : i < n) : f_X11_isIn (nI i).toInt64 0 c = some 1 := by
  apply isIn_t
  rw [hc, nI_toInt (by omega)]
  exact ⟨by show (0 : Int) ≤ _; omega, by omega⟩
theorem big_of {x : Int32} {n : Nat} (hn : n + 1 < 2 ^ 31) (hx : x < 0 ∨ ¬ x < nI (n + 1)) (c : ¬ x < 0) : nI n < x := by
  rcases arg_cases x with q | ⟨i, h1, rfl⟩
  · exact absurd q c
  · have hx := hx.resolve_left c
    rw [lt_nI (by omega) h1]
    rw [lt_nI h1 hn] at hx
    omega
theorem OKS.ha {s : Sy} {A : Ha} (o : OKS s) (h1 : OKH ((sWo s).1.1 0) A) (h2 : (sWo s).1.1 2 = 0 ∨ A.1 4 < (sWo s).1.1 2) (h3 : A.1 1 < 2 ^ (sWo s).1.1 1) (h4 : A.1 2 ≤ 9999) (h5 : A.1 3 ≤ 9999) (h6 : A.1 5 ≤ 9999) : OKS (setHa s A) :=
  ⟨o.1, o.2.1, ⟨o.2.2.1.1, h1, h2, h3, h4, h5, h6, o.2.2.1.2.2.2.2.2.2.2⟩, o.2.2.2⟩
theorem RX.hst {s : Sy} {M M' : Mem} {A : Ha} (o : OKS s) (v : Int32) (f : HFr 0 M M') (r : RepH M' 0 A) (h : RX s M) : RX (setSc (setHa s A) 0 v) (stM M' v) ∧ onX M (stM M' v) :=
  ⟨(h.h f r o.2.2.2.1.1).q (s := setHa s A) XQ.st (stM_at _ _) o.2.2.2.1.1, f.on.tr XQ.st.on⟩
theorem RM.hst {s : Sy} {M M' : Mem} {A : Ha} (o : OKS s) (f : MFr (mR M) M') (r : RepMH (M'.1 55 0) (sWo s).1 A) (h : RM s M) : RM (setSc (setHa s A) 0 0) M' ∧ onM M M' :=
  ⟨(h.r o).h (s := setSc s 0 0) (o.sc 0) f r, (mR_Q M).on.tr f.on⟩
theorem zB : isB (0 : Int32) = true := rfl
theorem oB : isB (1 : Int32) = true := rfl
/-- the court, the hall as they stand in the class, in the reference -/
theorem RX.C {s : Sy} {M : Mem} (h : RX s M) : RepC M 0 (sWo s).1 := h.2.2.2.2.1.1
theorem RX.H {s : Sy} {M : Mem} (h : RX s M) : RepH M 0 (sWo s).2.1 := h.2.2.2.2.1.2.1
theorem RM.C {s : Sy} {M : Mem} (h : RM s M) : RepMC (M.1 55 0) (sWo s).1 := h.2.2.2.2.1.1
theorem RM.H {s : Sy} {M : Mem} (h : RM s M) : RepMH (M.1 55 0) (sWo s).1 (sWo s).2.1 := h.2.2.2.2.1.2.1
theorem OKS.C {s : Sy} (o : OKS s) : OKC (sWo s).1 := o.2.2.1.1
theorem OKS.H {s : Sy} (o : OKS s) : OKH ((sWo s).1.1 0) (sWo s).2.1 := o.2.2.1.2.1
theorem setSc_same (s : Sy) : setSc s 0 (sSc s 0) = s := by
  show (upd s.1 0 (s.1 0), s.2) = s
  rw [upd_same]
/-- the reference sets what it throws to 0, and nothing else -/
theorem th_Q (M : Mem) : MQm M (sR M 50 0 (upd (M.1 50 0) 1 (0 : Int32))) := MQm.f (by decide)
theorem RM.th {s : Sy} {M : Mem} (o : OKS s) (h : RM s M) : RM s (sR M 50 0 (upd (M.1 50 0) 1 (0 : Int32))) ∧ onM M (sR M 50 0 (upd (M.1 50 0) 1 (0 : Int32))) := by
  refine ⟨?_, (th_Q M).on⟩
  have := h.q o (th_Q M) (v := sSc s 0) (by rw [sR_at, upd_ne _ _ (by decide)]; exact h.1.1)
  rw [setSc_same] at this
  exact this
theorem step_status {s : Sy} (o : OKS s) : Step s (fun M => (f_X10_status M).map fun r => (r, M)) f_X11_status := by
  refine step_of (sSc s 0) s o (fun M h => ⟨M, ?_, h, fun _ _ _ => ⟨rfl, rfl⟩⟩) (fun M h => ⟨_, ?_, h.th o⟩)
  · unfold f_X10_status
    rw [h.1.1]; rfl
  · unfold f_X11_status
    simp only
    rw [sR_at, upd_ne _ _ (by decide), h.1.1]
theorem step_top {s : Sy} (o : OKS s) : Step s (fun M => (f_X10_top M).map fun r => (r, M)) f_X11_top := by
  refine step_of (sFr s).1 s o (fun M h => ⟨M, ?_, h, fun _ _ _ => ⟨rfl, rfl⟩⟩) (fun M h => ⟨_, ?_, h.th o⟩)
  · unfold f_X10_top
    rw [h.2.1.1]; rfl
  · unfold f_X11_top
    simp only
    rw [sR_2, h.2.1.1]
theorem step_bottom {s : Sy} (o : OKS s) : Step s (fun M => (f_X10_bottom M).map fun r => (r, M)) f_X11_bottom := by
  refine step_of (sFr s).2 s o (fun M h => ⟨M, ?_, h, fun _ _ _ => ⟨rfl, rfl⟩⟩) (fun M h => ⟨_, ?_, h.th o⟩)
  · unfold f_X10_bottom
    rw [h.2.1.2]; rfl
  · unfold f_X11_bottom
    simp only
    rw [sR_2, h.2.1.2]
theorem step_verdict {s : Sy} (o : OKS s) : Step s f_X10_verdict f_X11_verdict := by
  refine step_of (verdS (sWo s).1 (sWo s).2.1) (setSc s 0 0) o (fun M h => ⟨stM M 0, ?_, h.st o 0 XQ.rf⟩) (fun M h => ⟨mR M, ?_, h.s0 o MQm.rf (mR_0 M)⟩)
  · unfold f_X10_verdict
    have e : f_X3_ruling 0 (nI ((sWo s).1.1 5)) M = some (verdS (sWo s).1 (sWo s).2.1) := X3_ruling_sp h.H o.H o.C.2.2.2.2.2.1
    rw [show M.1 8 0 12 = nI ((sWo s).1.1 5) from h.C.2.2.1, e]
    rfl
  · unfold f_X11_verdict
    simp only [mR_e]
    rw [X11_judged_sp o.C (h.r o).C (h.r o).H o.H]
    rfl
theorem step_verdictBy {s : Sy} (o : OKS s) (x : Int32) : Step s (f_X10_verdictBy x) (f_X11_verdictBy x) := by
  rcases arg_in x (n := 3) (by decide) with ⟨i, hi, rfl⟩ | hx
  · refine step_of (ruleN i (votesS ((sWo s).1.1 0) ((sWo s).2.1.1 0) (sWo s).2.1.2.1) (seatsS ((sWo s).1.1 0) ((sWo s).2.1.1 0) - votesS ((sWo s).1.1 0) ((sWo s).2.1.1 0) (sWo s).2.1.2.1)) (setSc s 0 0) o (fun M h => ⟨stM M 0, ?_, h.st o 0 XQ.rf⟩) (fun M h => ⟨mR M, ?_, h.s0 o MQm.rf (mR_0 M)⟩)
    · unfold f_X10_verdictBy
      rw [if_neg (nI_pos (by omega)), show (2 : Int32) = nI 2 from rfl, if_neg (by rw [lt_nI (by decide) (by omega)]; omega), X3_ruling_sp h.H o.H (by omega)]
      rfl
    · unfold f_X11_verdictBy
      simp only [mR_e]
      rw [isIn_t (by rw [nI_toInt (by omega)]; exact ⟨by show (0 : Int) ≤ _; omega, by show _ ≤ (2 : Int); omega⟩), Option.bind_some, if_neg (by decide), X11_votesFor_1 (h.r o).C (h.r o).H o.H, Option.bind_some, X11_votesFor_m (h.r o).C (h.r o).H o.H, Option.bind_some]
      have h1 : seatsS ((sWo s).1.1 0) ((sWo s).2.1.1 0) ≤ (sWo s).1.1 0 := seats_le
      have h2 : votesS ((sWo s).1.1 0) ((sWo s).2.1.1 0) (sWo s).2.1.2.1 ≤ seatsS ((sWo s).1.1 0) ((sWo s).2.1.1 0) := votes_le
      have h3 : (sWo s).1.1 0 ≤ 10 := o.C.J
      show (f_X11_judge (nI i) (nI (votesS ((sWo s).1.1 0) ((sWo s).2.1.1 0) (sWo s).2.1.2.1)) (nI (seatsS ((sWo s).1.1 0) ((sWo s).2.1.1 0) - votesS ((sWo s).1.1 0) ((sWo s).2.1.1 0) (sWo s).2.1.2.1))).bind _ = _
      generalize votesS ((sWo s).1.1 0) ((sWo s).2.1.1 0) (sWo s).2.1.2.1 = g at *
      generalize seatsS ((sWo s).1.1 0) ((sWo s).2.1.1 0) = f at *
      rw [judge_at i hi g (by omega) (f - g) (by omega)]
      rfl
  · refine step_of (-1) (setSc s 0 5) o (fun M h => ⟨stM M 5, ?_, h.st o 5 XQ.rf⟩) (fun M h => ⟨smM (mR M) 5, ?_, h.st o 5 (mR_Q M)⟩)
    · unfold f_X10_verdictBy
      rcases hx with hx | hx
      · rw [if_pos hx]; rfl
      · by_cases c : x < 0
        · rw [if_pos c]; rfl
        · rw [if_neg c, if_pos (by
            rcases arg_cases x with q | ⟨i, h1, rfl⟩
            · exact absurd q c
            · show nI 2 < nI i
              rw [lt_nI (by decide) h1]
              rw [lt_nI h1 (by decide)] at hx
              omega)]
          rfl
    · unfold f_X11_verdictBy
      simp only [mR_e]
      rw [isIn_f0 (n := 3) (by decide) (by decide) hx, Option.bind_some, if_pos rfl]
      rfl
theorem step_votes {s : Sy} (o : OKS s) (x : Int32) : Step s (f_X10_votes x) (f_X11_votes x) := by
  have h2 : votesS ((sWo s).1.1 0) ((sWo s).2.1.1 0) (sWo s).2.1.2.1 ≤ seatsS ((sWo s).1.1 0) ((sWo s).2.1.1 0) := votes_le
  rcases arg_in x (n := 2) (by decide) with ⟨i, hi, rfl⟩ | hx
  · refine step_of (nI (if i = 0 then votesS ((sWo s).1.1 0) ((sWo s).2.1.1 0) (sWo s).2.1.2.1 else seatsS ((sWo s).1.1 0) ((sWo s).2.1.1 0) - votesS ((sWo s).1.1 0) ((sWo s).2.1.1 0) (sWo s).2.1.2.1)) (setSc s 0 0) o (fun M h => ⟨stM M 0, ?_, h.st o 0 XQ.rf⟩) (fun M h => ⟨mR M, ?_, h.s0 o MQm.rf (mR_0 M)⟩)
    · unfold f_X10_votes
      rw [if_neg (nI_pos (by omega)), show (1 : Int32) = nI 1 from rfl, if_neg (by rw [lt_nI (by decide) (by omega)]; omega), X3_guiltyVotes_sp h.H o.H, Option.bind_some, X3_seatedCount_sp h.H o.H]
      match i, hi with
      | 0, _ => rfl
      | 1, _ =>
        rw [if_neg (by decide), Option.bind_some, sub_nI h2]
        rfl
    · unfold f_X11_votes
      simp only [mR_e]
      rw [isIn_t (by rw [nI_toInt (by omega)]; exact ⟨by show (0 : Int) ≤ _; omega, by show _ ≤ (1 : Int); omega⟩), Option.bind_some, if_neg (by decide), X11_votesFor_1 (h.r o).C (h.r o).H o.H, X11_votesFor_m (h.r o).C (h.r o).H o.H]
      match i, hi with
      | 0, _ => rfl
      | 1, _ => rfl
  · refine step_of (-1) (setSc s 0 5) o (fun M h => ⟨stM M 5, ?_, h.st o 5 XQ.rf⟩) (fun M h => ⟨smM (mR M) 5, ?_, h.st o 5 (mR_Q M)⟩)
    · unfold f_X10_votes
      by_cases c : x < 0
      · rw [if_pos c]; rfl
      · rw [if_neg c, if_pos (by
          rcases arg_cases x with q | ⟨i, h1, rfl⟩
          · exact absurd q c
          · have hx := hx.resolve_left c
            show nI 1 < nI i
            rw [lt_nI (by decide) h1]
            rw [lt_nI h1 (by decide)] at hx
            omega)]
        rfl
    · unfold f_X11_votes
      simp only [mR_e]
      rw [isIn_f0 (n := 2) (by decide) (by decide) hx, Option.bind_some, if_pos rfl]
      rfl
theorem hall_bounds {s : Sy} (o : OKS s) : (sWo s).1.1 0 ≤ 10 ∧ (sWo s).2.1.1 0 < 1024 ∧ (sWo s).2.1.1 2 ≤ 9999 ∧ (sWo s).2.1.1 3 ≤ 9999 ∧ (sWo s).2.1.1 5 ≤ 9999 := ⟨o.C.J, o.H.S, o.2.2.1.2.2.2.2.1, o.2.2.1.2.2.2.2.2.1, o.2.2.1.2.2.2.2.2.2.1⟩
/-- the hall with other leanings, other seats -/
theorem OKS.lean {s : Sy} {l : Nat → Int32} (o : OKS s) (h : inL l) : OKS (setHa s ((sWo s).2.1.1, l, (sWo s).2.1.2.2)) :=
  o.ha (o.H.lean h) o.2.2.1.2.2.1 o.2.2.1.2.2.2.1 o.2.2.1.2.2.2.2.1 o.2.2.1.2.2.2.2.2.1 o.2.2.1.2.2.2.2.2.2.1
theorem OKS.seat {s : Sy} {S : Nat} (o : OKS s) (h : S < 2 ^ (sWo s).1.1 0) : OKS (setHa s (updN (sWo s).2.1.1 0 S, (sWo s).2.1.2)) := by
  have b := hall_bounds o
  have hS : S < 1024 := Nat.lt_of_lt_of_le h (p2_le o.C.J)
  refine o.ha ⟨o.C.J, h, fun j hj => ?_, o.H.2.2.2⟩ ?_ ?_ ?_ ?_ ?_
  · show updN (sWo s).2.1.1 0 S j < _
    unfold updN
    by_cases e : j = 0
    · rw [if_pos e]; omega
    · rw [if_neg e]; exact o.H.2.2.1 j hj
  · show _ ∨ updN (sWo s).2.1.1 0 S 4 < _
    rw [updN_ne _ _ (by decide)]; exact o.2.2.1.2.2.1
  · show updN (sWo s).2.1.1 0 S 1 < _
    rw [updN_ne _ _ (by decide)]; exact o.2.2.1.2.2.2.1
  · show updN (sWo s).2.1.1 0 S 2 ≤ _
    rw [updN_ne _ _ (by decide)]; exact b.2.2.1
  · show updN (sWo s).2.1.1 0 S 3 ≤ _
    rw [updN_ne _ _ (by decide)]; exact b.2.2.2.1
  · show updN (sWo s).2.1.1 0 S 5 ≤ _
    rw [updN_ne _ _ (by decide)]; exact b.2.2.2.2
theorem step_strike {s : Sy} (o : OKS s) (x : Int32) : Step s (f_X10_strike x) (f_X11_strike x) := by
  have b := hall_bounds o
  rcases arg_in x (n := (sWo s).1.1 0) (by omega) with ⟨i, hi, rfl⟩ | hx
  · cases hb : (sWo s).2.1.1 0 |>.testBit i with
    | false =>
      refine step_of 0 (setSc s 0 9) o (fun M h => ⟨stM M 9, ?_, h.st o 9 XQ.rf⟩) (fun M h => ⟨smM (mR M) 9, ?_, h.st o 9 (mR_Q M)⟩)
      · unfold f_X10_strike
        rw [show (0 : Int32) = nI 0 from rfl, isNo_t h o (by decide) hi, Option.bind_some, X3_isSeated_sp (h.H.1 0 (by decide)) b.2.1 (by omega), Option.bind_some, hb]
        rfl
      · unfold f_X11_strike
        simp only [mR_e]
        rw [isJur_t o.C (h.r o).C hi, Option.bind_some, if_neg (by decide)]
        rcases X11_strikesOne_sp (i := i) o.C (h.r o).H (by omega) b.2.1 with ⟨-, e⟩ | ⟨e, -⟩
        · rw [e]; rfl
        · have e : ((sWo s).2.1.1 0).testBit i = true := e
          rw [hb] at e; cases e
    | true =>
      refine step_of 1 (setSc (setHa s (updN (sWo s).2.1.1 0 ((sWo s).2.1.1 0 &&& (1023 ^^^ 2 ^ i)), (sWo s).2.1.2)) 0 0) (o.seat (Nat.lt_of_le_of_lt Nat.and_le_left o.H.2.1)) (fun M h => ?_) (fun M h => ?_)
      · obtain ⟨M1, e1, e2, e3⟩ := X3_unseat_sp h.H (show i < 10 by omega) b.2.1
        refine ⟨stM M1 0, ?_, h.hst o 0 e3 e2⟩
        unfold f_X10_strike
        rw [show f_X10_isNo (0 : Int32) (nI i) M = some 0 from isNo_t (q := 0) h o (by decide) hi, Option.bind_some, X3_isSeated_sp (h.H.1 0 (by decide)) b.2.1 (by omega), Option.bind_some, hb, e1]
        rfl
      · rcases X11_strikesOne_sp (i := i) o.C (h.r o).H (by omega) b.2.1 with ⟨e, -⟩ | ⟨-, M1, e1, e2, e3⟩
        · have e : ((sWo s).2.1.1 0).testBit i = false := e
          rw [hb] at e; cases e
        · refine ⟨M1, ?_, h.hst o e3 e2⟩
          unfold f_X11_strike
          simp only [mR_e]
          rw [isJur_t o.C (h.r o).C hi, Option.bind_some, if_neg (by decide), e1]
          rfl
  · refine step_of 0 (setSc s 0 2) o (fun M h => ⟨stM M 2, ?_, h.st o 2 XQ.rf⟩) (fun M h => ⟨smM (mR M) 2, ?_, h.st o 2 (mR_Q M)⟩)
    · unfold f_X10_strike
      rw [show f_X10_isNo (0 : Int32) x M = some 1 from isNo_f (q := 0) h (by decide) hx]
      rfl
    · unfold f_X11_strike
      simp only [mR_e]
      rw [isJur_f o.C (h.r o).C hx]
      rfl
theorem or_lt {S i J : Nat} (h : S < 2 ^ J) (hi : i < J) : S ||| 2 ^ i < 2 ^ J := Nat.or_lt_two_pow h (Nat.pow_lt_pow_right (by decide) hi)
theorem step_seat {s : Sy} (o : OKS s) (x : Int32) : Step s (f_X10_seat x) (f_X11_seat x) := by
  have b := hall_bounds o
  rcases arg_in x (n := (sWo s).1.1 0) (by omega) with ⟨i, hi, rfl⟩ | hx
  · cases hb : (sWo s).2.1.1 0 |>.testBit i with
    | true =>
      refine step_of 0 (setSc s 0 9) o (fun M h => ⟨stM M 9, ?_, h.st o 9 XQ.rf⟩) (fun M h => ⟨smM (mR M) 9, ?_, h.st o 9 (mR_Q M)⟩)
      · unfold f_X10_seat
        rw [show f_X10_isNo (0 : Int32) (nI i) M = some 0 from isNo_t (q := 0) h o (by decide) hi, Option.bind_some, X3_isSeated_sp (h.H.1 0 (by decide)) b.2.1 (by omega), Option.bind_some, hb]
        rfl
      · unfold f_X11_seat
        simp only [mR_e]
        rw [isJur_t o.C (h.r o).C hi, Option.bind_some, if_neg (by decide)]
        rcases X11_seatsOne_sp (i := i) o.C (h.r o).H (by omega) b.2.1 with ⟨-, e⟩ | ⟨e, -⟩
        · rw [e]; rfl
        · have e : ((sWo s).2.1.1 0).testBit i = false := e
          rw [hb] at e; cases e
    | false =>
      refine step_of 1 (setSc (setHa s (updN (sWo s).2.1.1 0 ((sWo s).2.1.1 0 ||| 2 ^ i), (sWo s).2.1.2)) 0 0) (o.seat (or_lt o.H.2.1 hi)) (fun M h => ?_) (fun M h => ?_)
      · obtain ⟨M1, e1, e2, e3⟩ := X3_reseat_sp h.H (show i < 10 by omega)
        refine ⟨stM M1 0, ?_, h.hst o 0 e3 e2⟩
        unfold f_X10_seat
        rw [show f_X10_isNo (0 : Int32) (nI i) M = some 0 from isNo_t (q := 0) h o (by decide) hi, Option.bind_some, X3_isSeated_sp (h.H.1 0 (by decide)) b.2.1 (by omega), Option.bind_some, hb, e1]
        rfl
      · rcases X11_seatsOne_sp (i := i) o.C (h.r o).H (by omega) b.2.1 with ⟨e, -⟩ | ⟨-, M1, e1, e2, e3⟩
        · have e : ((sWo s).2.1.1 0).testBit i = true := e
          rw [hb] at e; cases e
        · refine ⟨M1, ?_, h.hst o e3 e2⟩
          unfold f_X11_seat
          simp only [mR_e]
          rw [isJur_t o.C (h.r o).C hi, Option.bind_some, if_neg (by decide), e1]
          rfl
  · refine step_of 0 (setSc s 0 2) o (fun M h => ⟨stM M 2, ?_, h.st o 2 XQ.rf⟩) (fun M h => ⟨smM (mR M) 2, ?_, h.st o 2 (mR_Q M)⟩)
    · unfold f_X10_seat
      rw [show f_X10_isNo (0 : Int32) x M = some 1 from isNo_f (q := 0) h (by decide) hx]
      rfl
    · unfold f_X11_seat
      simp only [mR_e]
      rw [isJur_f o.C (h.r o).C hx]
      rfl
