/-! ===== court on both ===== -/
theorem courtR_ok {P : Nat → Int32} {n : Nat} {D' : Dr} : ∀ (m : Nat) (D : Dr) (t : Tk), OKD D → courtR P n m D t = .inr D' → OKD D'
  | 0, D, t, h, e => by
    have e : (Sum.inr D : Ft ⊕ Dr) = .inr D' := e
    rw [← Sum.inr.inj e]; exact h
  | m + 1, D, t, h, e => by
    rw [courtR] at e
    by_cases c : t.2.2.1 = 0
    · rw [if_pos c] at e
      rw [← Sum.inr.inj e]; exact h
    · rw [if_neg c] at e
      obtain ⟨a, a1, a2⟩ := bnd_inv e
      obtain ⟨t', b1, b2⟩ := bnd_inv a2
      exact courtR_ok m a.2 t' (okd_part D t a h a1) b2
theorem starts_no {M : Mem} {x : Int32} {l lim : Nat} (hl : l ≤ 900) (hm : lim ≤ 900) (h8 : M.1 50 0 8 = nI l) (hx : x < 0 ∨ ¬ x < nI (min l lim + 1)) : f_X11_starts x (nI lim) M = some (0, smM M 5) := by
  unfold f_X11_starts
  by_cases c : x < 0
  · rw [if_pos c, X11_no_e, Option.bind_some]
    exact (if_pos rfl).trans rfl
  · rw [if_neg c]
    obtain ⟨i, i1, rfl⟩ := (arg_cases x).resolve_left c
    have hx : ¬ nI i < nI (min l lim + 1) := hx.resolve_left c
    rw [lt_nI i1 (by omega)] at hx
    rw [h8]
    by_cases c2 : l < i
    · rw [if_pos (by rw [lt_nI (by omega) i1]; exact c2), X11_no_e, Option.bind_some]
      exact (if_pos rfl).trans rfl
    · rw [if_neg (by rw [lt_nI (by omega) i1]; exact c2), if_pos (by rw [lt_nI (by omega) i1]; omega), X11_no_e, Option.bind_some]
      exact (if_pos rfl).trans rfl
theorem step_court {s : Sy} (o : OKS s) (x : Int32) : Step s (f_X10_court x) (f_X11_court x) := by
  have h9 := o.1
  rcases arg_in x (n := (sTp s).1 + 1) (by omega) with ⟨n, hn, rfl⟩ | hx
  · have hn' : n ≤ (sTp s).1 := by omega
    refine step_of (crtA (courtR (sTp s).2 n (n + 1) DrO (tokS (sTp s).2 n 0))) (crtS s n (courtR (sTp s).2 n (n + 1) DrO (tokS (sTp s).2 n 0))) ?_ (fun M h => court_x o h hn') (fun M h => court_m o h hn')
    cases hu : courtR (sTp s).2 n (n + 1) DrO (tokS (sTp s).2 n 0) with
    | inl f => exact o.tx o.2.2.1 (Nat.zero_le _) okP_0
    | inr D => exact o.tx (newW_OK (courtR_ok _ _ _ okd_0 hu) o.2.2.1.2.1.2.2.2) (Nat.zero_le _) okP_0
  · refine step_no o 5 (fun M h => ?_) (fun M h => ?_)
    · unfold f_X10_court
      by_cases c : x < 0
      · rw [if_pos c]; rfl
      · obtain ⟨i, i1, rfl⟩ := (arg_cases x).resolve_left c
        have hx : ¬ nI i < nI ((sTp s).1 + 1) := hx.resolve_left c
        rw [lt_nI i1 (by omega)] at hx
        rw [if_neg c, h.P.1, if_pos (by rw [lt_nI (by omega) i1]; omega)]
        rfl
    · unfold f_X11_court
      simp only [mR_e]
      rw [show f_X11_starts x (900 : Int32) (mR M) = some (0, smM (mR M) 5) from starts_no h9 (by decide) ((h.r o).P.1) (by
        rw [show min (sTp s).1 900 + 1 = (sTp s).1 + 1 by omega]; exact hx), Option.bind_some]
      exact (if_pos rfl).trans rfl
