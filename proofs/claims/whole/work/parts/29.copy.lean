/-! ===== calls on both: the leanings copied into a tray ===== -/
theorem small_cut0 : ∀ k, k < 199 → ∀ q, q < 4 → cutL q ((nI k - (99 : Int32)).toInt64) = (nI k - (99 : Int32)).toInt64 := by decide +kernel
theorem small_as {v : Int32} (h : inR (-99) 99 v) : ∃ k, k < 199 ∧ v = nI k - (99 : Int32) := by
  have h1 := Int32.le_iff_toInt_le.mp h.1
  have h2 := Int32.le_iff_toInt_le.mp h.2
  have e1 : (-99 : Int32).toInt = -99 := rfl
  have e2 : (99 : Int32).toInt = 99 := rfl
  rw [e1] at h1
  rw [e2] at h2
  refine ⟨(v.toInt + 99).toNat, by omega, ?_⟩
  apply Int32.toInt_inj.mp
  have q : ∀ k, k < 199 → (nI k - (99 : Int32)).toInt = (k : Int) - 99 := by decide +kernel
  rw [q _ (by omega)]
  omega
theorem small_cut {v : Int32} {q : Nat} (h : inR (-99) 99 v) (hq : q < 4) : cutL q v.toInt64 = v.toInt64 := by
  obtain ⟨k, hk, rfl⟩ := small_as h
  exact small_cut0 k hk q hq
theorem cx_loop {t J : Nat} {l : Nat → Int32} (ht : t < 4) (hJ : J ≤ 10) (hl : ∀ j, j < 10 → inR (-99) 99 (l j)) : ∀ (k i fu : Nat) (M : Mem) (T : Tr), i + k = J → k < fu → TrX M T → T.2.1 t < 4 → (∀ j, j < 10 → M.1 21 0 j = l j) →
    ∃ M', f_X10_copyLeanings_33 (nI t) (nI J) fu (nI i) M = some (nI J, stM M' 0) ∧ TrX M' (T.1, T.2.1, fun a b => if a = t ∧ i ≤ b ∧ b < J then (l b).toInt64 else T.2.2 a b) ∧ TFx M M'
  | k, i, 0, M, T, _, h, _, _, _ => by omega
  | 0, i, fu + 1, M, T, hi, _, r, _, _ => by
    refine ⟨M, ?_, ?_, TFx.rf⟩
    · rw [f_X10_copyLeanings_33, if_neg (by rw [lt_nI (by omega) (by omega)]; omega), X10_answer_e]
      rfl
    · intro a ha
      refine ⟨(r a ha).1, (r a ha).2.1, fun b hb => ?_⟩
      show _ = if a = t ∧ i ≤ b ∧ b < J then (l b).toInt64 else T.2.2 a b
      rw [if_neg (by omega)]; exact (r a ha).2.2 b hb
  | k + 1, i, fu + 1, M, T, hi, hk, r, hq, hM => by
    obtain ⟨M', e1, e2, e3⟩ := cx_loop ht hJ hl k (i + 1) fu (sL M 4 t (vp_updL (M.2 4 t) i (l i).toInt64)) (putT T t i (l i).toInt64) (by omega) (by omega) r.put hq hM
    refine ⟨M', ?_, ?_, TFx.L.tr e3⟩
    · rw [f_X10_copyLeanings_33, if_pos (by rw [lt_nI (by omega) (by omega)]; omega), inb_nI_t (show i < 10 by omega) (by decide), if_pos rfl, nI_clamp (by omega), hM i (by omega), X6_put_sp ht (by omega) hq (r t ht).2.1, Option.bind_some, small_cut (hl i (by omega)) hq, show nI i + (1 : Int32) = nI (i + 1) from add_nI i 1]
      exact e1
    · intro a ha
      refine ⟨(e2 a ha).1, (e2 a ha).2.1, fun b hb => ?_⟩
      rw [(e2 a ha).2.2 b hb]
      show (if a = t ∧ i + 1 ≤ b ∧ b < J then (l b).toInt64 else if a = t ∧ b = i then (l i).toInt64 else T.2.2 a b) = if a = t ∧ i ≤ b ∧ b < J then (l b).toInt64 else T.2.2 a b
      by_cases c : a = t ∧ i ≤ b ∧ b < J
      · rw [if_pos c]
        by_cases d : b = i
        · rw [if_neg (by omega), if_pos ⟨c.1, d⟩, d]
        · rw [if_pos (by omega)]
      · rw [if_neg c, if_neg (by omega), if_neg (by omega)]
theorem cm_loop {t J : Nat} {l : Nat → Int32} (ht : t < 4) (hJ : J ≤ 10) : ∀ (k i fu : Nat) (M : Mem) (T : Tr), i + k = J → k < fu → TrM M T → M.1 55 0 0 = nI J → (∀ j, j < J → M.1 55 0 (42 + j) = l j) →
    ∃ M', f_X11_copyLeanings_62 (nI t) fu (nI i) M = some (nI J, M') ∧ TrM M' (T.1, T.2.1, fun a b => if a = t ∧ i ≤ b ∧ b < J then (l b).toInt64 else T.2.2 a b) ∧ TFm M M'
  | k, i, 0, M, T, _, h, _, _, _ => by omega
  | 0, i, fu + 1, M, T, hi, _, r, hc, _ => by
    refine ⟨M, ?_, ?_, TFm.rf⟩
    · rw [f_X11_copyLeanings_62, hc, if_neg (by rw [lt_nI (by omega) (by omega)]; omega)]
    · intro a ha
      refine ⟨(r a ha).1, (r a ha).2.1, fun b hb => ?_⟩
      show _ = if a = t ∧ i ≤ b ∧ b < J then (l b).toInt64 else T.2.2 a b
      rw [if_neg (by omega)]; exact (r a ha).2.2 b hb
  | k + 1, i, fu + 1, M, T, hi, hk, r, hc, hM => by
    obtain ⟨M', e1, e2, e3⟩ := cm_loop ht hJ k (i + 1) fu (sL M 53 0 (vp_updL (M.2 53 0) (60 * t + i) (l i).toInt64)) (putT T t i (l i).toInt64) (by omega) (by omega) (r.put ht (by omega)) hc hM
    refine ⟨M', ?_, ?_, TFm.L.tr e3⟩
    · rw [f_X11_copyLeanings_62, hc, if_pos (by rw [lt_nI (by omega) (by omega)]; omega), show (42 : Int32) + nI i = nI (42 + i) from add_nI 42 i, inb_nI_t (show 42 + i < 2375 by omega) (by decide), if_pos rfl, show (60 : Int32) * nI t + nI i = nI (60 * t + i) from by rw [show (60 : Int32) = nI 60 from rfl, mul_nI, add_nI], inb_nI_t (show 60 * t + i < 240 by omega) (by decide), if_pos rfl, nI_clamp (by omega), nI_clamp (by omega), hM i (by omega), show nI i + (1 : Int32) = nI (i + 1) from add_nI i 1]
      exact e1
    · intro a ha
      refine ⟨(e2 a ha).1, (e2 a ha).2.1, fun b hb => ?_⟩
      rw [(e2 a ha).2.2 b hb]
      show (if a = t ∧ i + 1 ≤ b ∧ b < J then (l b).toInt64 else if a = t ∧ b = i then (l i).toInt64 else T.2.2 a b) = if a = t ∧ i ≤ b ∧ b < J then (l b).toInt64 else T.2.2 a b
      by_cases c : a = t ∧ i ≤ b ∧ b < J
      · rw [if_pos c]
        by_cases d : b = i
        · rw [if_neg (by omega), if_pos ⟨c.1, d⟩, d]
        · rw [if_pos (by omega)]
      · rw [if_neg c, if_neg (by omega), if_neg (by omega)]
theorem isTrayM_t {t : Nat} (h : t < 4) : f_X11_isTray (nI t) = some 1 := by
  unfold f_X11_isTray
  rw [isIn_t0 (n := 4) (by decide) (by decide) h]
  rfl
theorem isTrayM_f {x : Int32} (h : x < 0 ∨ ¬ x < nI 4) : f_X11_isTray x = some 0 := by
  unfold f_X11_isTray
  rw [isIn_f0 (n := 4) (by decide) (by decide) h]
  rfl
theorem step_copyLeanings {s : Sy} (o : OKS s) (x : Int32) : Step s (f_X10_copyLeanings x) (f_X11_copyLeanings x) := by
  have hJ : (sWo s).1.1 0 ≤ 10 := o.C.J
  have cx : ∀ M, RX s M → M.1 9 0 0 = nI ((sWo s).1.1 0) := fun M h => h.C.1 0 (by decide)
  have cm : ∀ M, RM s M → (mR M).1 55 0 0 = nI ((sWo s).1.1 0) := fun M h => (h.r o).C.1 0 (by decide)
  rcases arg_in x (n := 4) (by decide) with ⟨t, ht, rfl⟩ | hx
  · have ex : ∀ M, RX s M → M.1 5 0 t = (sTr s).1 t := fun M h => (h.T t ht).1
    have em : ∀ M, RM s M → (mR M).1 52 0 t = (sTr s).1 t := fun M h => ((h.r o).T t ht).1
    rcases (o.T t ht).2 with hl | ⟨n, hn, hl⟩
    · refine step_no o 3 (fun M h => ?_) (fun M h => ?_)
      · unfold f_X10_copyLeanings f_X10_wrongRow f_X10_wrongTray f_X6_isMissing
        rw [isTrayX_t ht, Option.bind_some, if_neg (by decide), inb_nI_t ht (by decide), if_pos rfl, nI_clamp (by omega), ex M h, hl]
        rfl
      · unfold f_X11_copyLeanings
        simp only [mR_e]
        rw [isTrayM_t ht, Option.bind_some, if_neg (by decide), inb_nI_t ht (by decide), if_pos rfl, nI_clamp (by omega)]
        refine (if_pos ?_).trans rfl
        rw [em M h, hl]; decide
    · have hn0 : ¬ nI n < 0 := nI_pos (by omega)
      by_cases c : n < (sWo s).1.1 0
      · refine step_no o 4 (fun M h => ?_) (fun M h => ?_)
        · unfold f_X10_copyLeanings f_X10_wrongRow f_X10_wrongTray f_X6_isMissing
          rw [isTrayX_t ht, Option.bind_some, if_neg (by decide), inb_nI_t ht (by decide), if_pos rfl, nI_clamp (by omega), ex M h, hl, if_neg hn0, Option.bind_some, if_pos rfl, Option.bind_some, if_pos rfl, cx M h, if_pos rfl, if_pos (by rw [lt_nI (by omega) (by omega)]; exact c)]
          rfl
        · unfold f_X11_copyLeanings
          simp only [mR_e]
          rw [isTrayM_t ht, Option.bind_some, if_neg (by decide), inb_nI_t ht (by decide), if_pos rfl, nI_clamp (by omega)]
          refine (if_neg ?_).trans ((if_pos rfl).trans ((if_pos ?_).trans rfl))
          · rw [em M h, hl]; exact hn0
          · rw [em M h, hl, cm M h, lt_nI (by omega) (by omega)]; exact c
      · have ot : OKS (setTr s ((sTr s).1, (sTr s).2.1, fun a b => if a = t ∧ 0 ≤ b ∧ b < (sWo s).1.1 0 then ((sWo s).2.1.2.1 b).toInt64 else (sTr s).2.2 a b)) := o.t o.T
        refine step_of (nI ((sWo s).1.1 0)) (setSc (setTr s ((sTr s).1, (sTr s).2.1, fun a b => if a = t ∧ 0 ≤ b ∧ b < (sWo s).1.1 0 then ((sWo s).2.1.2.1 b).toInt64 else (sTr s).2.2 a b)) 0 0) ot (fun M h => ?_) (fun M h => ?_)
        · obtain ⟨M1, e1, e2, e3⟩ := cx_loop (l := (sWo s).2.1.2.1) ht hJ o.H.2.2.2 ((sWo s).1.1 0) 0 FU M (sTr s) (by omega) (lt_FU (by omega)) h.T (o.T t ht).1 h.H.2.1
          have a := (h.t e3 e2).st ot 0 XQ.rf
          refine ⟨_, ?_, a.1, e3.on.tr a.2⟩
          unfold f_X10_copyLeanings f_X10_wrongRow f_X10_wrongTray f_X6_isMissing
          rw [isTrayX_t ht, Option.bind_some, if_neg (by decide), inb_nI_t ht (by decide), if_pos rfl, nI_clamp (by omega), ex M h, hl, if_neg hn0, Option.bind_some, if_pos rfl, Option.bind_some, if_pos rfl, cx M h, if_pos rfl, if_neg (by rw [lt_nI (by omega) (by omega)]; exact c), Option.bind_some, if_pos rfl]
          exact e1
        · have h0 := h.s0 o MQm.rf (mR_0 M)
          obtain ⟨M1, e1, e2, e3⟩ := cm_loop (l := (sWo s).2.1.2.1) ht hJ ((sWo s).1.1 0) 0 FU (mR M) (sTr s) (by omega) (lt_FU (by omega)) h0.1.T (cm M h) (h.r o).H.2.2.2.2.2.2.1
          have a := h0.1.t e3 e2
          refine ⟨M1, ?_, a, h0.2.tr e3.on⟩
          unfold f_X11_copyLeanings
          simp only [mR_e]
          rw [isTrayM_t ht, Option.bind_some, if_neg (by decide), inb_nI_t ht (by decide), if_pos rfl, nI_clamp (by omega)]
          refine (if_neg ?_).trans ((if_pos rfl).trans ((if_neg ?_).trans e1))
          · rw [em M h, hl]; exact hn0
          · rw [em M h, hl, cm M h, lt_nI (by omega) (by omega)]; exact c
  · refine step_no o 1 (fun M h => ?_) (fun M h => ?_)
    · unfold f_X10_copyLeanings f_X10_wrongRow f_X10_wrongTray
      rw [isTrayX_f hx]
      rfl
    · unfold f_X11_copyLeanings
      simp only [mR_e]
      rw [isTrayM_f hx]
      rfl
