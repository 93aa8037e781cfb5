/-! ===== what the reference keeps and gives back; calls on both: after ===== -/
theorem kp_loop : ∀ (k i n : Nat) (M : Mem), i + k = 198 → k < n →
    ∃ M', f_X11_keeps_2 n (nI i) M = some M' ∧ (∀ j, i ≤ j → j < 198 → M'.1 56 0 j = M.1 55 0 j) ∧ (∀ j, j < i → M'.1 56 0 j = M.1 56 0 j) ∧ M'.2 = M.2 ∧ ∀ c a, ¬ (c = 56 ∧ a = 0) → M'.1 c a = M.1 c a
  | k, i, 0, M, _, h => by omega
  | 0, i, n + 1, M, hi, _ => by
    refine ⟨M, ?_, fun j h1 h2 => by omega, fun _ _ => rfl, rfl, fun _ _ _ => rfl⟩
    rw [f_X11_keeps_2, if_neg (by
      show ¬ nI i < nI 198
      rw [lt_nI (by omega) (by decide)]; omega)]
  | k + 1, i, n + 1, M, hi, hk => by
    obtain ⟨M', e1, e2, e3, e4, e5⟩ := kp_loop k (i + 1) n (sR M 56 0 (upd (M.1 56 0) i (M.1 55 0 i))) (by omega) (by omega)
    refine ⟨M', ?_, fun j h1 h2 => ?_, fun j h1 => ?_, e4, fun c a h => ?_⟩
    · rw [f_X11_keeps_2, if_pos (by
        show nI i < nI 198
        rw [lt_nI (by omega) (by decide)]; omega), inb_nI_t (show i < 2375 by omega) (by decide), if_pos rfl, inb_nI_t (show i < 198 by omega) (by decide), if_pos rfl, nI_clamp (by omega), show nI i + (1 : Int32) = nI (i + 1) from add_nI i 1]
      exact e1
    · by_cases d : j = i
      · subst d
        rw [e3 j (by omega), sR_at, upd_at]
      · rw [e2 j (by omega) h2, sR_ne _ _ _ _ (by decide)]
    · rw [e3 j (by omega), sR_at, upd_ne _ _ (by omega)]
    · rw [e5 c a h, sR_ne _ _ _ _ h]
theorem gv2_loop : ∀ (k i n : Nat) (M : Mem), i + k = 198 → k < n →
    ∃ M', f_X11_gives_2 n (nI i) M = some M' ∧ (∀ j, i ≤ j → j < 198 → M'.1 55 0 j = M.1 56 0 j) ∧ (∀ j, (j < i ∨ 198 ≤ j) → M'.1 55 0 j = M.1 55 0 j) ∧ M'.2 = M.2 ∧ ∀ c a, ¬ (c = 55 ∧ a = 0) → M'.1 c a = M.1 c a
  | k, i, 0, M, _, h => by omega
  | 0, i, n + 1, M, hi, _ => by
    refine ⟨M, ?_, fun j h1 h2 => by omega, fun _ _ => rfl, rfl, fun _ _ _ => rfl⟩
    rw [f_X11_gives_2, if_neg (by
      show ¬ nI i < nI 198
      rw [lt_nI (by omega) (by decide)]; omega)]
  | k + 1, i, n + 1, M, hi, hk => by
    obtain ⟨M', e1, e2, e3, e4, e5⟩ := gv2_loop k (i + 1) n (sR M 55 0 (upd (M.1 55 0) i (M.1 56 0 i))) (by omega) (by omega)
    refine ⟨M', ?_, fun j h1 h2 => ?_, fun j h1 => ?_, e4, fun c a h => ?_⟩
    · rw [f_X11_gives_2, if_pos (by
        show nI i < nI 198
        rw [lt_nI (by omega) (by decide)]; omega), inb_nI_t (show i < 198 by omega) (by decide), if_pos rfl, inb_nI_t (show i < 2375 by omega) (by decide), if_pos rfl, nI_clamp (by omega), show nI i + (1 : Int32) = nI (i + 1) from add_nI i 1]
      exact e1
    · by_cases d : j = i
      · subst d
        rw [e3 j (by omega), sR_at, upd_at]
      · rw [e2 j (by omega) h2, sR_ne _ _ _ _ (by decide)]
    · rw [e3 j (by omega), sR_at, upd_ne _ _ (by omega)]
    · rw [e5 c a h, sR_ne _ _ _ _ h]
/-- what is kept: M4 is M with its world's numbers once more -/
def KeptM (M M4 : Mem) : Prop := (∀ j, j < 198 → M4.1 56 0 j = M.1 55 0 j) ∧ M4.2 = M.2 ∧ ∀ c a, ¬ (c = 56 ∧ a = 0) → M4.1 c a = M.1 c a
theorem X11_keeps_sp (M : Mem) : ∃ M4, f_X11_keeps M = some M4 ∧ KeptM M M4 := by
  obtain ⟨M', e1, e2, -, e4, e5⟩ := kp_loop 198 0 FU M (by omega) (lt_FU (by omega))
  exact ⟨M', e1, fun j h => e2 j (by omega) h, e4, e5⟩
/-- after what is only tried all stands again as it was -/
theorem X11_gives_sp {M M4 M5 : Mem} (k : KeptM M M4) (f : MFr M4 M5) : ∃ M7, f_X11_gives M5 = some M7 ∧ MQm M M7 ∧ M7.1 50 0 = M.1 50 0 := by
  obtain ⟨M', e1, e2, e3, e4, e5⟩ := gv2_loop 198 0 FU M5 (by omega) (lt_FU (by omega))
  have e50 : M'.1 50 0 = M.1 50 0 := by
    rw [e5 50 0 (by decide), f.2.1 50 0 (by decide), k.2.2 50 0 (by decide)]
  have el : M'.2 = M.2 := by rw [e4, f.1, k.2.1]
  refine ⟨M', e1, ⟨fun c i h => ⟨?_, by rw [el]⟩, fun j _ => by rw [e50], ⟨by rw [el], by rw [el]⟩, fun j _ => ?_, fun j _ => by rw [el]⟩, e50⟩
  · rw [e5 c i (by omega), f.2.1 c i (by omega), k.2.2 c i (by omega)]
  · by_cases c : j < 198
    · rw [e2 j (by omega) c, f.2.1 56 0 (by decide), k.1 j c]
    · rw [e3 j (by omega), f.2.2 j (by unfold hallIx; omega), k.2.2 55 0 (by decide)]
theorem step_after {s : Sy} (o : OKS s) (x : Int32) : Step s (f_X10_after x) (f_X11_after x) := by
  have b := hall_bounds o
  rcases arg_in x (n := 201) (by decide) with ⟨n, hn, rfl⟩ | hx
  · have n0 : ¬ nI n < 0 := nI_pos (by omega)
    have n2 : ¬ (200 : Int32) < nI n := by
      show ¬ nI 200 < nI n
      rw [lt_nI (by decide) (by omega)]; omega
    have hr := rounds_hall (K := (sWo s).1) (e := decide (0 < (sWo s).1.1 4)) n (sWo s).2.1 ((sWo s).1.1 0) o.H (by omega)
    refine step_of (verdS (sWo s).1 (roundsS (sWo s).1 (decide (0 < (sWo s).1.1 4)) n (sWo s).2.1)) (setSc s 0 0) o (fun M h => ?_) (fun M h => ?_)
    · obtain ⟨M1, e1, r1, f1⟩ := X3_copyFrom_sp (h := 4) (i := 0) (by decide) h.H
      obtain ⟨M2, e2, r2, f2⟩ := X3_talkOn_sp (RepC.fr f1 h.C) r1 o.H o.C.2.2.2.2.1 (show n < 1000 by omega) (by omega)
      have f := f1.tr f2
      refine ⟨stM M2 0, ?_, h.st o 0 (XQ.hall (by decide) f)⟩
      have e3 : f_X3_ruling 4 (nI ((sWo s).1.1 5)) M2 = some (verdS (sWo s).1 (roundsS (sWo s).1 (decide (0 < (sWo s).1.1 4)) n (sWo s).2.1)) := X3_ruling_sp r2 hr.1 o.C.2.2.2.2.2.1
      unfold f_X10_after
      rw [if_neg n0, if_neg n2, e1, Option.bind_some, e2, Option.bind_some, show M2.1 8 0 12 = nI ((sWo s).1.1 5) from (RepC.fr f h.C).2.2.1, e3]
      rfl
    · obtain ⟨M4, e4, k4⟩ := X11_keeps_sp (mR M)
      have rc4 : RepMC (M4.1 55 0) (sWo s).1 := by
        rw [k4.2.2 55 0 (by decide)]; exact (h.r o).C
      have rh4 : RepMH (M4.1 55 0) (sWo s).1 (sWo s).2.1 := by
        rw [k4.2.2 55 0 (by decide)]; exact (h.r o).H
      obtain ⟨M5, e5, r5, f5⟩ := X11_talksFor_sp o.C rc4 rh4 o.H (show n < 1000 by omega) (by omega)
      obtain ⟨M7, e7, q7, z7⟩ := X11_gives_sp k4 f5
      refine ⟨M7, ?_, h.s0 o q7 (by rw [z7]; exact mR_0 M)⟩
      unfold f_X11_after
      simp only [mR_e]
      rw [isIn_t0 (n := 201) (by decide) (by decide) hn, Option.bind_some, if_neg (by decide), e4, Option.bind_some, e5, Option.bind_some, X11_judged_sp o.C (RepMC.fr o.C f5.2.2 rc4) r5 hr.1, Option.bind_some, e7]
      rfl
  · refine step_no o 5 (fun M h => ?_) (fun M h => ?_)
    · unfold f_X10_after
      by_cases c : x < 0
      · rw [if_pos c]; rfl
      · rw [if_neg c, if_pos (show (200 : Int32) < x from big_of (n := 200) (by decide) hx c)]; rfl
    · unfold f_X11_after
      simp only [mR_e]
      rw [isIn_f0 (n := 201) (by decide) (by decide) hx]
      rfl
