/-! ===== calls on both: soonest ===== -/
def soonS (K : Co) (v : Int32) : Nat → Nat → Ha → Option Nat
  | 0, _, _ => none
  | k + 1, n, A => if verdS K A = v then some n else soonS K v k (n + 1) (roundS K (decide (0 < K.1 4)) A)
def ansO (x : Option Nat) : Int32 := match x with
  | none => -1
  | some n => nI n
def ansC (x : Option Nat) : Int32 := match x with
  | none => 8
  | some _ => 0
theorem sn_loop {K : Co} {v : Int32} (ok : OKC K) : ∀ (k n fu : Nat) (M : Mem) (A : Ha), n + k = 201 → k < fu → RepC M 0 K → RepH M 4 A → OKH (K.1 0) A → A.1 2 + k < 16777216 →
    ∃ M', f_X10_soonest_30 v fu (nI n) M = some (ansO (soonS K v k n A), stM M' (ansC (soonS K v k n A))) ∧ HFr 4 M M'
  | k, n, 0, M, A, _, h, _, _, _, _ => by omega
  | 0, n, fu + 1, M, A, hn, _, rc, r, o, _ => by
    refine ⟨M, ?_, HFr.rf⟩
    rw [f_X10_soonest_30, if_pos (by
      show nI 200 < nI n
      rw [lt_nI (by decide) (by omega)]; omega)]
    rfl
  | k + 1, n, fu + 1, M, A, hn, hk, rc, r, o, hb => by
    have e3 : f_X3_ruling 4 (nI (K.1 5)) M = some (verdS K A) := X3_ruling_sp r o ok.2.2.2.2.2.1
    rw [f_X10_soonest_30, if_neg (by
      show ¬ nI 200 < nI n
      rw [lt_nI (by decide) (by omega)]; omega), show M.1 8 0 12 = nI (K.1 5) from rc.2.2.1, e3, Option.bind_some]
    by_cases c : verdS K A = v
    · refine ⟨M, ?_, HFr.rf⟩
      rw [if_pos c, show soonS K v (k + 1) n A = some n from if_pos c]
      rfl
    · obtain ⟨M1, e1, r1, f1⟩ := X3_talkOn_sp (R := 1) rc r o ok.2.2.2.2.1 (by decide) (by omega)
      have r1 : RepH M1 4 (roundS K (decide (0 < K.1 4)) A) := r1
      have e2 : (roundS K (decide (0 < K.1 4)) A).1 2 = A.1 2 + 1 := updN_at A.1 2 (A.1 2 + 1)
      obtain ⟨M2, q1, q2⟩ := sn_loop (v := v) ok k (n + 1) fu M1 _ (by omega) (by omega) (RepC.fr f1 rc) r1 (roundS_ok o (by omega)) (by rw [e2]; omega)
      refine ⟨M2, ?_, f1.tr q2⟩
      rw [if_neg c, show f_X3_talkOn 4 0 (1 : Int32) M = some M1 from e1, Option.bind_some, show nI n + (1 : Int32) = nI (n + 1) from add_nI n 1, show soonS K v (k + 1) n A = soonS K v k (n + 1) (roundS K (decide (0 < K.1 4)) A) from if_neg c]
      exact q1
theorem sm2_loop {K : Co} {v : Int32} {M0 M4 : Mem} (ok : OKC K) (kp : KeptM M0 M4) : ∀ (k n fu : Nat) (M : Mem) (A : Ha), n + k = 201 → k < fu → MFr M4 M → RepMC (M.1 55 0) K → RepMH (M.1 55 0) K A → OKH (K.1 0) A → A.1 2 + k < 16777216 →
    ∃ M', f_X11_soonest_30 v fu (nI n) M = some (ansO (soonS K v k n A), if ansC (soonS K v k n A) = 0 then M' else smM M' (ansC (soonS K v k n A))) ∧ MQm M0 M' ∧ M'.1 50 0 = M0.1 50 0
  | k, n, 0, M, A, _, h, _, _, _, _, _ => by omega
  | 0, n, fu + 1, M, A, hn, _, f, rc, r, o, _ => by
    obtain ⟨M7, e7, q7, z7⟩ := X11_gives_sp kp f
    have c : (200 : Int32) < nI n := by
      show nI 200 < nI n
      rw [lt_nI (by decide) (by omega)]; omega
    refine ⟨M7, ?_, q7, z7⟩
    rw [f_X11_soonest_30, if_pos c]
    unfold f_X11_soonest_56
    rw [e7, Option.bind_some, if_pos c]
    rfl
  | k + 1, n, fu + 1, M, A, hn, hk, f, rc, r, o, hb => by
    have c0 : ¬ (200 : Int32) < nI n := by
      show ¬ nI 200 < nI n
      rw [lt_nI (by decide) (by omega)]; omega
    rw [f_X11_soonest_30, if_neg c0, X11_judged_sp ok rc r o, Option.bind_some]
    by_cases c : verdS K A = v
    · obtain ⟨M7, e7, q7, z7⟩ := X11_gives_sp kp f
      refine ⟨M7, ?_, q7, z7⟩
      rw [if_pos c, show soonS K v (k + 1) n A = some n from if_pos c]
      unfold f_X11_soonest_56
      rw [e7, Option.bind_some, if_neg c0]
      rfl
    · obtain ⟨M1, e1, r1, f1⟩ := X11_talks_sp (b := 1) (by decide) ok rc r o (by omega)
      have r1 : RepMH (M1.1 55 0) K (roundS K (decide (0 < K.1 4)) A) := r1
      have e2 : (roundS K (decide (0 < K.1 4)) A).1 2 = A.1 2 + 1 := updN_at A.1 2 (A.1 2 + 1)
      obtain ⟨M2, q1, q2⟩ := sm2_loop (v := v) ok kp k (n + 1) fu M1 _ (by omega) (by omega) (f.tr f1) (RepMC.fr ok f1.2.2 rc) r1 (roundS_ok o (by omega)) (by rw [e2]; omega)
      refine ⟨M2, ?_, q2⟩
      rw [if_neg c, show f_X11_talks (1 : Int32) M = some M1 from e1, Option.bind_some, show nI n + (1 : Int32) = nI (n + 1) from add_nI n 1, show soonS K v (k + 1) n A = soonS K v k (n + 1) (roundS K (decide (0 < K.1 4)) A) from if_neg c]
      exact q1
theorem step_soonest {s : Sy} (o : OKS s) (x : Int32) : Step s (f_X10_soonest x) (f_X11_soonest x) := by
  have b := hall_bounds o
  by_cases z : -1 ≤ x.toInt ∧ x.toInt ≤ 1
  · refine step_of (ansO (soonS (sWo s).1 x 201 0 (sWo s).2.1)) (setSc s 0 (ansC (soonS (sWo s).1 x 201 0 (sWo s).2.1))) o (fun M h => ?_) (fun M h => ?_)
    · obtain ⟨M1, e1, r1, f1⟩ := X3_copyFrom_sp (h := 4) (i := 0) (by decide) h.H
      obtain ⟨M2, e2, f2⟩ := sn_loop (v := x) o.C 201 0 FU M1 _ (by omega) (lt_FU (by omega)) (RepC.fr f1 h.C) r1 o.H (by omega)
      have a := h.st o (ansC (soonS (sWo s).1 x 201 0 (sWo s).2.1)) (XQ.hall (by decide) (f1.tr f2))
      refine ⟨_, ?_, a⟩
      unfold f_X10_soonest
      rw [noVerd_e, if_pos z, Option.bind_some, if_pos rfl, e1, Option.bind_some]
      exact e2
    · obtain ⟨M4, e4, k4⟩ := X11_keeps_sp (mR M)
      have rc4 : RepMC (M4.1 55 0) (sWo s).1 := by
        rw [k4.2.2 55 0 (by decide)]; exact (h.r o).C
      have rh4 : RepMH (M4.1 55 0) (sWo s).1 (sWo s).2.1 := by
        rw [k4.2.2 55 0 (by decide)]; exact (h.r o).H
      obtain ⟨M7, e7, q7, z7⟩ := sm2_loop (v := x) o.C k4 201 0 FU M4 _ (by omega) (lt_FU (by omega)) MFr.rf rc4 rh4 o.H (by omega)
      have e8 : f_X11_soonest x M = some (ansO (soonS (sWo s).1 x 201 0 (sWo s).2.1), if ansC (soonS (sWo s).1 x 201 0 (sWo s).2.1) = 0 then M7 else smM M7 (ansC (soonS (sWo s).1 x 201 0 (sWo s).2.1))) := by
        unfold f_X11_soonest f_X11_isVerdict
        simp only [mR_e]
        rw [isIn_t (b := -1) (c := 1) z, Option.bind_some, if_pos oB, Option.bind_some, if_neg (by decide), e4, Option.bind_some]
        exact e7
      cases hs : soonS (sWo s).1 x 201 0 (sWo s).2.1 with
      | none =>
        rw [hs] at e8
        exact ⟨smM M7 8, e8, h.st o 8 ((mR_Q M).tr q7)⟩
      | some n =>
        rw [hs] at e8
        exact ⟨M7, e8, h.s0 o q7 (by rw [z7]; exact mR_0 M)⟩
  · refine step_no o 5 (fun M h => ?_) (fun M h => ?_)
    · unfold f_X10_soonest
      rw [noVerd_e, if_neg z]
      rfl
    · unfold f_X11_soonest f_X11_isVerdict
      simp only [mR_e]
      rw [isIn_f (b := -1) (c := 1) z]
      rfl
