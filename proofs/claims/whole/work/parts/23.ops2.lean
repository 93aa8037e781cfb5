/-! ===== calls on both: leanings, bribes, talk, days, evidence ===== -/
theorem isIn_rt {x : Int32} {a b : Int64} {lo hi : Int32} (ha : a.toInt = lo.toInt) (hb : b.toInt = hi.toInt) (c : lo ≤ x ∧ x ≤ hi) : f_X11_isIn x.toInt64 a b = some 1 :=
  isIn_t (by rw [ha, hb]; exact ⟨Int32.le_iff_toInt_le.mp c.1, Int32.le_iff_toInt_le.mp c.2⟩)
theorem isIn_rf {x : Int32} {a b : Int64} {lo hi : Int32} (ha : a.toInt = lo.toInt) (hb : b.toInt = hi.toInt) (c : ¬ (lo ≤ x ∧ x ≤ hi)) : f_X11_isIn x.toInt64 a b = some 0 :=
  isIn_f (by rw [ha, hb]; exact fun z => c ⟨Int32.le_iff_toInt_le.mpr z.1, Int32.le_iff_toInt_le.mpr z.2⟩)
theorem step_lean {s : Sy} (o : OKS s) (x v : Int32) : Step s (f_X10_lean x v) (f_X11_lean x v) := by
  have b := hall_bounds o
  rcases arg_in x (n := (sWo s).1.1 0) (by omega) with ⟨i, hi, rfl⟩ | hx
  · by_cases hv : inR (-99) 99 v
    · refine step_of 1 (setSc (setHa s ((sWo s).2.1.1, upd (sWo s).2.1.2.1 i v, (sWo s).2.1.2.2)) 0 0) (o.lean (inL_upd o.H.toL hv)) (fun M h => ?_) (fun M h => ?_)
      · refine ⟨stM (putL M 0 i v) 0, ?_, h.hst o 0 putL_F (putL_H h.H)⟩
        unfold f_X10_lean
        rw [show f_X10_isNo (0 : Int32) (nI i) M = some 0 from isNo_t (q := 0) h o (by decide) hi, Option.bind_some, if_pos rfl, if_neg (Int32.not_lt.mpr hv.1), if_neg (Int32.not_lt.mpr hv.2), inb_nI_t (show i < 10 by omega) (by decide), if_pos rfl, nI_clamp (by omega)]
        rfl
      · have f1 : MFr (mR M) (putM (mR M) (42 + i) v) := putM_F (by unfold hallIx; omega)
        refine ⟨putM (mR M) (42 + i) v, ?_, h.hst o f1 (putM_L o.C.J hi (h.r o).H)⟩
        unfold f_X11_lean
        simp only [mR_e]
        rw [isJur_t o.C (h.r o).C hi, Option.bind_some, if_neg (by decide), isIn_rt (lo := -99) (hi := 99) (by decide) (by decide) hv, Option.bind_some, if_neg (by decide), show (42 : Int32) + nI i = nI (42 + i) from add_nI 42 i, inb_nI_t (show 42 + i < 2375 by omega) (by decide), if_pos rfl, nI_clamp (by omega)]
        rfl
    · refine step_of 0 (setSc s 0 5) o (fun M h => ⟨stM M 5, ?_, h.st o 5 XQ.rf⟩) (fun M h => ⟨smM (mR M) 5, ?_, h.st o 5 (mR_Q M)⟩)
      · unfold f_X10_lean
        rw [show f_X10_isNo (0 : Int32) (nI i) M = some 0 from isNo_t (q := 0) h o (by decide) hi, Option.bind_some, if_pos rfl]
        by_cases c : v < -99
        · rw [if_pos c]; rfl
        · rw [if_neg c, if_pos (by
            rcases Int32.lt_or_le 99 v with q | q
            · exact q
            · exact absurd ⟨Int32.not_lt.mp c, q⟩ hv)]
          rfl
      · unfold f_X11_lean
        simp only [mR_e]
        rw [isJur_t o.C (h.r o).C hi, Option.bind_some, if_neg (by decide), isIn_rf (lo := -99) (hi := 99) (by decide) (by decide) hv]
        rfl
  · refine step_of 0 (setSc s 0 2) o (fun M h => ⟨stM M 2, ?_, h.st o 2 XQ.rf⟩) (fun M h => ⟨smM (mR M) 2, ?_, h.st o 2 (mR_Q M)⟩)
    · unfold f_X10_lean
      rw [show f_X10_isNo (0 : Int32) x M = some 1 from isNo_f (q := 0) h (by decide) hx]
      rfl
    · unfold f_X11_lean
      simp only [mR_e]
      rw [isJur_f o.C (h.r o).C hx]
      rfl
/-- the hall behind rounds -/
theorem rounds_hall {K : Co} {e : Bool} : ∀ (n : Nat) (A : Ha) (J : Nat), OKH J A → A.1 2 + n < 16777216 → OKH J (roundsS K e n A) ∧ (roundsS K e n A).1 = updN A.1 2 (A.1 2 + n) ∧ (roundsS K e n A).2.2 = A.2.2
  | 0, A, J, o, _ => ⟨o, by show A.1 = _; rw [Nat.add_zero, updN_same], rfl⟩
  | n + 1, A, J, o, h => by
    have e2 : (roundS K e A).1 2 = A.1 2 + 1 := updN_at A.1 2 (A.1 2 + 1)
    obtain ⟨g1, g2, g3⟩ := rounds_hall (e := e) n (roundS K e A) J (roundS_ok o (by omega)) (by rw [e2]; omega)
    refine ⟨g1, ?_, g3⟩
    show (roundsS K e n (roundS K e A)).1 = _
    rw [g2, e2]
    show updN (updN A.1 2 (A.1 2 + 1)) 2 (A.1 2 + 1 + n) = _
    rw [updN_2]
    congr 1
    omega
theorem OKS.rounds {s : Sy} {n : Nat} (o : OKS s) (h : (sWo s).2.1.1 2 + n ≤ 9999) {e : Bool} : OKS (setHa s (roundsS (sWo s).1 e n (sWo s).2.1)) := by
  have b := hall_bounds o
  obtain ⟨g1, g2, g3⟩ := rounds_hall (K := (sWo s).1) (e := e) n (sWo s).2.1 _ o.H (by omega)
  refine o.ha g1 ?_ ?_ ?_ ?_ ?_
  · rw [g2, updN_ne _ _ (by decide)]; exact o.2.2.1.2.2.1
  · rw [g2, updN_ne _ _ (by decide)]; exact o.2.2.1.2.2.2.1
  · rw [g2, updN_at]; exact h
  · rw [g2, updN_ne _ _ (by decide)]; exact b.2.2.2.1
  · rw [g2, updN_ne _ _ (by decide)]; exact b.2.2.2.2
theorem step_talk {s : Sy} (o : OKS s) (x : Int32) : Step s (f_X10_talk x) (f_X11_talk x) := by
  have b := hall_bounds o
  have k4 := o.C.2.2.2.2.1
  have k5 := o.C.2.2.2.2.2.1
  by_cases hr : inR 1 99 x
  · obtain ⟨n, hn, rfl⟩ : ∃ n, n < 2 ^ 31 ∧ x = nI n := by
      rcases arg_cases x with q | q
      · exact absurd (Int32.lt_of_lt_of_le q (Int32.le_trans (by decide) hr.1)) Int32.lt_irrefl
      · exact q
    have h1 : 1 ≤ n := by
      have := hr.1
      rcases Nat.lt_or_ge n 1 with q | q
      · have : n = 0 := by omega
        subst this
        exact absurd hr.1 (by decide)
      · exact q
    have h99 : n ≤ 99 := by
      have := Int32.not_lt.mpr hr.2
      rw [show (99 : Int32) = nI 99 from rfl, lt_nI (by decide) hn] at this
      omega
    by_cases hb : (sWo s).2.1.1 2 + n ≤ 9999
    · refine step_of (verdS (sWo s).1 (roundsS (sWo s).1 (decide (0 < (sWo s).1.1 4)) n (sWo s).2.1)) (setSc (setHa s (roundsS (sWo s).1 (decide (0 < (sWo s).1.1 4)) n (sWo s).2.1)) 0 0) (o.rounds hb) (fun M h => ?_) (fun M h => ?_)
      · obtain ⟨M1, e1, e2, e3⟩ := X3_talkOn_sp h.C h.H o.H k4 (show n < 1000 by omega) (by omega)
        refine ⟨stM M1 0, ?_, h.hst o 0 e3 e2⟩
        unfold f_X10_talk
        rw [if_neg (Int32.not_lt.mpr hr.1), if_neg (Int32.not_lt.mpr hr.2), show M.1 20 0 4 = nI ((sWo s).2.1.1 2) from h.H.1 2 (by decide), add_nI, if_neg (by show ¬ nI 9999 < _; rw [lt_nI (by decide) (by omega)]; omega), e1, Option.bind_some, show M1.1 8 0 12 = nI ((sWo s).1.1 5) from (h.C.fr e3).2.2.1]
        have e : f_X3_ruling 0 (nI ((sWo s).1.1 5)) M1 = some (verdS (sWo s).1 (roundsS (sWo s).1 (decide (0 < (sWo s).1.1 4)) n (sWo s).2.1)) := X3_ruling_sp e2 (rounds_hall n _ _ o.H (by omega)).1 k5
        rw [e]
        rfl
      · obtain ⟨M1, e1, e2, e3⟩ := X11_talksFor_sp o.C (h.r o).C (h.r o).H o.H (show n < 1000 by omega) (by show (sWo s).2.1.1 2 + n < _; omega)
        refine ⟨M1, ?_, h.hst o e3 e2⟩
        unfold f_X11_talk
        simp only [mR_e]
        rw [isIn_rt (lo := 1) (hi := 99) (by decide) (by decide) hr, Option.bind_some, if_neg (by decide)]
        refine (if_neg (show ¬ (9999 : Int32) < (mR M).1 55 0 7 + nI n by
          rw [show (mR M).1 55 0 7 = nI ((sWo s).2.1.1 2) from (h.r o).H.2.2.1, add_nI]
          show ¬ nI 9999 < _
          rw [lt_nI (by decide) (by omega)]; omega)).trans ?_
        rw [e1, Option.bind_some, X11_judged_sp o.C ((h.r o).C.fr o.C e3.2.2) e2 (rounds_hall n _ _ o.H (by show (sWo s).2.1.1 2 + n < _; omega)).1]
        rfl
    · refine step_of (-1) (setSc s 0 7) o (fun M h => ⟨stM M 7, ?_, h.st o 7 XQ.rf⟩) (fun M h => ⟨smM (mR M) 7, ?_, h.st o 7 (mR_Q M)⟩)
      · unfold f_X10_talk
        rw [if_neg (Int32.not_lt.mpr hr.1), if_neg (Int32.not_lt.mpr hr.2), show M.1 20 0 4 = nI ((sWo s).2.1.1 2) from h.H.1 2 (by decide), add_nI, if_pos (by show nI 9999 < _; rw [lt_nI (by decide) (by omega)]; omega)]
        rfl
      · unfold f_X11_talk
        simp only [mR_e]
        rw [isIn_rt (lo := 1) (hi := 99) (by decide) (by decide) hr, Option.bind_some, if_neg (by decide)]
        refine (if_pos (show (9999 : Int32) < (mR M).1 55 0 7 + nI n by
          rw [show (mR M).1 55 0 7 = nI ((sWo s).2.1.1 2) from (h.r o).H.2.2.1, add_nI]
          show nI 9999 < _
          rw [lt_nI (by decide) (by omega)]; omega)).trans ?_
        rfl
  · refine step_of (-1) (setSc s 0 5) o (fun M h => ⟨stM M 5, ?_, h.st o 5 XQ.rf⟩) (fun M h => ⟨smM (mR M) 5, ?_, h.st o 5 (mR_Q M)⟩)
    · unfold f_X10_talk
      by_cases c : x < 1
      · rw [if_pos c]; rfl
      · rw [if_neg c, if_pos (by
          rcases Int32.lt_or_le 99 x with q | q
          · exact q
          · exact absurd ⟨Int32.not_lt.mp c, q⟩ hr)]
        rfl
    · unfold f_X11_talk
      simp only [mR_e]
      rw [isIn_rf (lo := 1) (hi := 99) (by decide) (by decide) hr]
      rfl
theorem day_hall {K : Co} {A : Ha} (ok : OKC K) (o : OKH (K.1 0) A) (hw : K.1 2 = 0 ∨ A.1 4 < K.1 2) (hd : A.1 3 + 1 ≤ 9999) (hc : A.1 5 ≤ 9999) : OKH (K.1 0) (dayS K A) ∧ (K.1 2 = 0 ∨ (dayS K A).1 4 < K.1 2) ∧ (dayS K A).1 1 < 2 ^ K.1 1 ∧ (dayS K A).1 2 ≤ 9999 ∧ (dayS K A).1 3 ≤ 9999 ∧ (dayS K A).1 5 ≤ 9999 := by
  have hJ := ok.J
  have h2 := p2_le hJ
  have hp := Nat.two_pow_pos (K.1 0)
  have e : ∀ j, (dayS K A).1 j = if j = 2 then 0 else if j = 1 then 0 else if j = 0 then 2 ^ K.1 0 - 1 else if j = 3 then A.1 3 + 1 else if j = 4 then (if K.1 2 = 0 then A.1 4 else behS K (A.1 4) (verdS K A)) else A.1 j := fun j => rfl
  have hb : ¬ K.1 2 = 0 → behS K (A.1 4) (verdS K A) < K.1 2 := by
    intro c
    have hw := hw.resolve_left c
    have := ok.2.2.2.2.2.2.1 (A.1 4) hw
    unfold behS
    split
    · exact hw
    · split
      · exact this.1
      · exact this.2
  have k2 := ok.2.2.1
  refine ⟨⟨hJ, ?_, fun j hj => ?_, fun j hj => ?_⟩, ?_, ?_, ?_, ?_, ?_⟩
  · rw [e]; show 2 ^ K.1 0 - 1 < _; omega
  · rw [e]
    match j, hj with
    | 0, _ => show 2 ^ K.1 0 - 1 < _; omega
    | 1, _ => show 0 < _; omega
    | 2, _ => show 0 < _; omega
    | 3, _ => show A.1 3 + 1 < _; omega
    | 4, _ =>
      show (if K.1 2 = 0 then A.1 4 else behS K (A.1 4) (verdS K A)) < _
      by_cases c : K.1 2 = 0
      · rw [if_pos c]; exact o.2.2.1 4 (by decide)
      · rw [if_neg c]; have := hb c; omega
    | 5, _ => show A.1 5 < _; omega
  · show inR (-99) 99 (if j < K.1 0 then K.2 0 j else A.2.1 j)
    by_cases c : j < K.1 0
    · rw [if_pos c]; exact (ok.2.2.2.2.2.2.2.1 j c).1
    · rw [if_neg c]; exact o.2.2.2 j hj
  · by_cases c : K.1 2 = 0
    · exact Or.inl c
    · right
      rw [e]
      show (if K.1 2 = 0 then A.1 4 else behS K (A.1 4) (verdS K A)) < _
      rw [if_neg c]; exact hb c
  · rw [e]; exact Nat.two_pow_pos _
  · rw [e]; exact Nat.zero_le _
  · rw [e]; exact hd
  · rw [e]; exact hc
theorem step_endDay {s : Sy} (o : OKS s) : Step s f_X10_endDay f_X11_endDay := by
  have b := hall_bounds o
  by_cases hd : (sWo s).2.1.1 3 < 9999
  · obtain ⟨d1, d2, d3, d4, d5, d6⟩ := day_hall o.C o.H o.2.2.1.2.2.1 (show (sWo s).2.1.1 3 + 1 ≤ 9999 by omega) b.2.2.2.2
    refine step_of (verdS (sWo s).1 (sWo s).2.1) (setSc (setHa s (dayS (sWo s).1 (sWo s).2.1)) 0 0) (o.ha d1 d2 d3 d4 d5 d6) (fun M h => ?_) (fun M h => ?_)
    · obtain ⟨M1, e1, e2, e3⟩ := X3_closeDay_sp o.C h.C h.H o.H o.2.2.1.2.2.1
      refine ⟨stM M1 0, ?_, h.hst o 0 e3 e2⟩
      unfold f_X10_endDay
      rw [if_pos (show M.1 20 0 5 < (9999 : Int32) by rw [show M.1 20 0 5 = nI ((sWo s).2.1.1 3) from h.H.1 3 (by decide)]; show _ < nI 9999; rw [lt_nI (by omega) (by decide)]; exact hd), e1]
      rfl
    · obtain ⟨M1, e1, e2, e3⟩ := X11_endsDay_sp o.C (h.r o).C (h.r o).H o.H o.2.2.1.2.2.1
      refine ⟨M1, ?_, h.hst o e3 e2⟩
      unfold f_X11_endDay
      simp only [mR_e]
      refine (if_neg (show ¬ (mR M).1 55 0 6 = (9999 : Int32) by rw [show (mR M).1 55 0 6 = nI ((sWo s).2.1.1 3) from (h.r o).H.2.2.2.1]; show ¬ _ = nI 9999; rw [eq_nI (by omega) (by decide)]; omega)).trans ?_
      rw [e1]
      rfl
  · refine step_of (-1) (setSc s 0 7) o (fun M h => ⟨stM M 7, ?_, h.st o 7 XQ.rf⟩) (fun M h => ⟨smM (mR M) 7, ?_, h.st o 7 (mR_Q M)⟩)
    · unfold f_X10_endDay
      rw [if_neg (show ¬ M.1 20 0 5 < (9999 : Int32) by rw [show M.1 20 0 5 = nI ((sWo s).2.1.1 3) from h.H.1 3 (by decide)]; show ¬ _ < nI 9999; rw [lt_nI (by omega) (by decide)]; exact hd)]
      rfl
    · unfold f_X11_endDay
      simp only [mR_e]
      refine (if_pos (show (mR M).1 55 0 6 = (9999 : Int32) by rw [show (mR M).1 55 0 6 = nI ((sWo s).2.1.1 3) from (h.r o).H.2.2.2.1]; show _ = nI 9999; congr 1; omega)).trans ?_
      rfl
theorem showX_in {K : Co} {p : Nat} {A : Ha} (h : inL A.2.1) : inL (showX K p A).1 := by
  unfold showX
  refine foldJ_inv (P := fun x : (Nat → Int32) × Nat => inL x.1) _ _ _ h (fun l m _ _ hl => ?_)
  unfold showF
  split
  · exact inL_upd hl (cutS_in _)
  · exact hl
theorem step_show {s : Sy} (o : OKS s) (x : Int32) : Step s (f_X10_show x) (f_X11_show x) := by
  have b := hall_bounds o
  have k1 := o.C.2.1
  have hsh : (sWo s).2.1.1 1 < 2 ^ (sWo s).1.1 1 := o.2.2.1.2.2.2.1
  have hsh2 : (sWo s).2.1.1 1 < 1024 := Nat.lt_of_lt_of_le hsh (p2_le (by omega))
  have pe : ∀ n, n < 11 → (nI n - (1 : Int32)).toInt = (n : Int) - 1 := by decide +kernel
  rcases arg_in x (n := (sWo s).1.1 1) (by omega) with ⟨p, hp, rfl⟩ | hx
  · cases hb : (sWo s).2.1.1 1 |>.testBit p with
    | true =>
      refine step_of (-1) (setSc s 0 9) o (fun M h => ⟨stM M 9, ?_, h.st o 9 XQ.rf⟩) (fun M h => ⟨smM (mR M) 9, ?_, h.st o 9 (mR_Q M)⟩)
      · unfold f_X10_show
        rw [show f_X10_isNo (1 : Int32) (nI p) M = some 0 from isNo_t (q := 1) h o (by decide) hp, Option.bind_some, X3_wasShown_sp h.H (by omega) hsh2, hb]
        rfl
      · unfold f_X11_show
        simp only [mR_e]
        rw [show (mR M).1 55 0 1 = nI ((sWo s).1.1 1) from (h.r o).C.1 1 (by decide), isIn_t0 (n := (sWo s).1.1 1) (by omega) (by rw [t64]; exact pe _ (by omega)) hp, Option.bind_some, if_neg (by decide), show (mR M).1 55 0 11 = nI ((sWo s).2.1.1 1) from (h.r o).H.2.1, has_at hsh2 (by omega), hb]
        rfl
    | false =>
      refine step_of (nI (showX (sWo s).1 p (sWo s).2.1).2) (setSc (setHa s (showS (sWo s).1 p (sWo s).2.1)) 0 0) ?_ (fun M h => ?_) (fun M h => ?_)
      · have hor : (sWo s).2.1.1 1 ||| 2 ^ p < 2 ^ (sWo s).1.1 1 := or_lt hsh hp
        have hor2 : (sWo s).2.1.1 1 ||| 2 ^ p < 1024 := Nat.lt_of_lt_of_le hor (p2_le (by omega))
        have e : ∀ j, (showS (sWo s).1 p (sWo s).2.1).1 j = if j = 1 then (sWo s).2.1.1 1 ||| 2 ^ p else (sWo s).2.1.1 j := fun j => rfl
        refine o.ha ⟨b.1, ?_, fun j hj => ?_, showX_in o.H.toL⟩ ?_ ?_ ?_ ?_ ?_
        · exact o.H.2.1
        · rw [e]
          by_cases c : j = 1
          · rw [if_pos c]; omega
          · rw [if_neg c]; exact o.H.2.2.1 j hj
        · exact o.2.2.1.2.2.1
        · exact hor
        · exact b.2.2.1
        · exact b.2.2.2.1
        · exact b.2.2.2.2
      · obtain ⟨M1, e1, e2, e3⟩ := X3_present_sp o.C h.C h.H o.H hp
        refine ⟨stM M1 0, ?_, h.hst o 0 e3 e2⟩
        unfold f_X10_show
        rw [show f_X10_isNo (1 : Int32) (nI p) M = some 0 from isNo_t (q := 1) h o (by decide) hp, Option.bind_some, X3_wasShown_sp h.H (by omega) hsh2, hb]
        show ((f_X3_present 0 0 (nI p) M).bind _) = _
        rw [e1]
        rfl
      · obtain ⟨M1, e1, e2, e3⟩ := X11_showsOne_sp o.C (h.r o).C (h.r o).H o.H hp
        refine ⟨M1, ?_, h.hst o e3 e2⟩
        unfold f_X11_show
        simp only [mR_e]
        rw [show (mR M).1 55 0 1 = nI ((sWo s).1.1 1) from (h.r o).C.1 1 (by decide), isIn_t0 (n := (sWo s).1.1 1) (by omega) (by rw [t64]; exact pe _ (by omega)) hp, Option.bind_some, if_neg (by decide), show (mR M).1 55 0 11 = nI ((sWo s).2.1.1 1) from (h.r o).H.2.1, has_at hsh2 (by omega), hb]
        show ((f_X11_showsOne (nI p) (mR M)).bind _) = _
        rw [e1]
        rfl
  · refine step_of (-1) (setSc s 0 2) o (fun M h => ⟨stM M 2, ?_, h.st o 2 XQ.rf⟩) (fun M h => ⟨smM (mR M) 2, ?_, h.st o 2 (mR_Q M)⟩)
    · unfold f_X10_show
      rw [show f_X10_isNo (1 : Int32) x M = some 1 from isNo_f (q := 1) h (by decide) hx]
      rfl
    · unfold f_X11_show
      simp only [mR_e]
      rw [show (mR M).1 55 0 1 = nI ((sWo s).1.1 1) from (h.r o).C.1 1 (by decide), isIn_f0 (n := (sWo s).1.1 1) (by omega) (by rw [t64]; exact pe _ (by omega)) hx]
      rfl
