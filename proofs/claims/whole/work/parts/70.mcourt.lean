/-! ===== the reference reads all parts of a court ===== -/
set_option maxHeartbeats 600000 in
theorem court54 {P : Nat → Int32} {n : Nat} {inv : Dr → Prop} (B : BY P n) (i1 : ∀ D, inv D → D.1.1 4 ≤ 99) (i2 : ∀ D t a, inv D → partR P n D t = .inr a → inv a.2) : ∀ (m x fu : Nat) (M : Mem) (t : Tk) (D : Dr), x + m = n + 1 → m + 1 < fu → x ≤ t.1 → MT t → inv D → GM P n M t → DM M D.1 D.2.1 D.2.2 →
    ∃ M', f_X11_court_54 fu M = f_X11_court_197 M' ∧ McF M M' ∧ (∀ f, courtR P n m D t = .inl f → BM M' f) ∧ ∀ D', courtR P n m D t = .inr D' → M'.1 50 0 12 = 0 ∧ DM M' D'.1 D'.2.1 D'.2.2 ∧ inv D'
  | 0, x, fu, M, t, D, hx, _, ht, _, _, h, _ => by
    have := h.2.2.1.1
    omega
  | m + 1, x, 0, M, t, D, _, z, _, _, _, _, _ => by omega
  | m + 1, x, fu + 1, M, t, D, hx, hf, ht, mt, hi, h, hD => by
    have hk := h.2.2.1.2.2.1
    have es : courtR P n (m + 1) D t = if t.2.2.1 = 0 then .inr D else bnd (partR P n D t) fun a => bnd (stopR P n a.1) fun t' => courtR P n m a.2 t' := rfl
    have out : ∀ (M2 : Mem) (f : Ft), BM M2 f → f_X11_court_54 fu M2 = f_X11_court_197 M2 := by
      intro M2 f hb
      obtain ⟨fu', rfl⟩ : ∃ k, fu = k + 1 := ⟨fu - 1, by omega⟩
      rw [f_X11_court_54, hb.2.1, if_neg (pos_ne hb.1)]
    rw [f_X11_court_54, h.2.2.2, if_pos rfl, h.2.1.2.2.1]
    by_cases c : t.2.2.1 = 0
    · rw [if_pos (by rw [c]; rfl), es, if_pos c]
      refine ⟨M, rfl, McF.rf, ?_, ?_⟩
      · intro f e
        cases e
      · intro D' e
        cases e
        exact ⟨h.2.2.2, hD, hi⟩
    rw [if_neg (by rw [show (0 : Int32) = nI 0 from rfl, eq_nI (by omega) (by omega)]; exact c)]
    have tail : ∀ M1, MO P n M M1 (partR P n D t) → ∃ M', f_X11_court_184 (fun M_1 => f_X11_court_54 fu M_1) M1 = f_X11_court_197 M' ∧ McF M M' ∧ (∀ f, courtR P n (m + 1) D t = .inl f → BM M' f) ∧ ∀ D', courtR P n (m + 1) D t = .inr D' → M'.1 50 0 12 = 0 ∧ DM M' D'.1 D'.2.1 D'.2.2 ∧ inv D' := by
      intro M1 hm
      obtain ⟨f1, d⟩ := hm
      unfold f_X11_court_184
      cases e : partR P n D t with
      | inl f =>
        rw [e] at d
        have d : BM M1 f := d
        obtain ⟨r, ar⟩ := sign_t 59 M1
        have ev : courtR P n (m + 1) D t = .inl f := by rw [es, if_neg c, e]; rfl
        rw [ar, Option.bind_some, must_b d, Option.bind_some, ev]
        refine ⟨M1, out M1 f d, f1, ?_, ?_⟩
        · intro g e2
          cases e2
          exact d
        · intro D' e2
          cases e2
      | inr y =>
        rw [e] at d
        have d : GM P n M1 y.1 ∧ DM M1 y.2.1 y.2.2.1 y.2.2.2 := d
        obtain ⟨d2, d3⟩ := d
        rw [sign_m d2, Option.bind_some]
        obtain ⟨M2, a2, b2, g2⟩ := must_m (r := if y.1.2.2.1 = 3 ∧ y.1.2.2.2.2.2 = 59 then 1 else 0) B d2
        rw [a2, Option.bind_some]
        by_cases c3 : y.1.2.2.1 = 3 ∧ y.1.2.2.2.2.2 = 59
        · rw [if_pos c3, if_neg (show ¬ (1 : Int32) = 0 from by decide)] at g2
          have e2 : stopR P n y.1 = .inr (nx P n y.1) := if_pos c3
          have st := court_step mt d2.2.2.1 e e2
          obtain ⟨M', k1, k2, k3, k4⟩ := court54 B i1 i2 m (x + 1) fu M2 (nx P n y.1) y.2 (by omega) (by omega) (by omega) st.2 (i2 D t y hi e) g2 ⟨b2.N d3.1, RD.y b2 d3.2⟩
          have ev : courtR P n (m + 1) D t = courtR P n m y.2 (nx P n y.1) := by rw [es, if_neg c, e]; unfold bnd; simp only; rw [e2]
          rw [ev]
          exact ⟨M', k1, (f1.tr b2.r).tr k2, k3, k4⟩
        · rw [if_neg c3, if_pos (show (0 : Int32) = 0 from rfl)] at g2
          have e2 : stopR P n y.1 = .inl (badK y.1 2) := if_neg c3
          have ev : courtR P n (m + 1) D t = .inl (badK y.1 2) := by rw [es, if_neg c, e]; unfold bnd; simp only; rw [e2]
          rw [ev]
          refine ⟨M2, out M2 _ g2, f1.tr b2.r, ?_, ?_⟩
          · intro g e2
            cases e2
            exact g2
          · intro D' e2
            cases e2
    rw [r_Juror h.2.1 h.2.2.1, Option.bind_some]
    unfold iw
    by_cases c0 : wdS t = nI 0
    · rw [if_pos c0, if_neg (show ¬ (1 : Int32) = 0 from by decide)]
      obtain ⟨M1, a1, b1⟩ := partJ_m (lt := D.2.2) B h hD
      rw [a1, Option.bind_some]
      refine tail M1 ?_
      rw [show partR P n D t = partJ P n (D.1, D.2.1, D.2.2) t from by unfold partR; rw [if_pos c0]]
      exact b1
    rw [if_neg c0, if_pos (show (0 : Int32) = 0 from rfl)]
    rw [r_Sways h.2.1 h.2.2.1, Option.bind_some]
    unfold iw
    by_cases c5 : wdS t = nI 5
    · rw [if_pos c5, if_neg (show ¬ (1 : Int32) = 0 from by decide)]
      obtain ⟨M1, a1, b1⟩ := partS_m (lt := D.2.2) B h hD
      rw [a1, Option.bind_some]
      refine tail M1 ?_
      rw [show partR P n D t = partS P n (D.1, D.2.1, D.2.2) t from by unfold partR; rw [if_neg c0, if_pos c5]]
      exact b1
    rw [if_neg c5, if_pos (show (0 : Int32) = 0 from rfl)]
    rw [r_Proof h.2.1 h.2.2.1, Option.bind_some]
    unfold iw
    by_cases c6 : wdS t = nI 6
    · rw [if_pos c6, if_neg (show ¬ (1 : Int32) = 0 from by decide)]
      obtain ⟨M1, a1, b1⟩ := partP_m (lt := D.2.2) B h hD
      rw [a1, Option.bind_some]
      refine tail M1 ?_
      rw [show partR P n D t = partP P n (D.1, D.2.1, D.2.2) t from by unfold partR; rw [if_neg c0, if_neg c5, if_pos c6]]
      exact b1
    rw [if_neg c6, if_pos (show (0 : Int32) = 0 from rfl)]
    rw [r_Weather h.2.1 h.2.2.1, Option.bind_some]
    unfold iw
    by_cases c7 : wdS t = nI 7
    · rw [if_pos c7, if_neg (show ¬ (1 : Int32) = 0 from by decide)]
      obtain ⟨M1, a1, b1⟩ := partW_m (lt := D.2.2) B h hD
      rw [a1, Option.bind_some]
      refine tail M1 ?_
      rw [show partR P n D t = partW P n (D.1, D.2.1, D.2.2) t from by unfold partR; rw [if_neg c0, if_neg c5, if_neg c6, if_pos c7]]
      exact b1
    rw [if_neg c7, if_pos (show (0 : Int32) = 0 from rfl)]
    rw [r_Follows h.2.1 h.2.2.1, Option.bind_some]
    unfold iw
    by_cases c8 : wdS t = nI 8
    · rw [if_pos c8, if_neg (show ¬ (1 : Int32) = 0 from by decide)]
      obtain ⟨M1, a1, b1⟩ := partF_m (lt := D.2.2) B h hD
      rw [a1, Option.bind_some]
      refine tail M1 ?_
      rw [show partR P n D t = partF P n (D.1, D.2.1, D.2.2) t from by unfold partR; rw [if_neg c0, if_neg c5, if_neg c6, if_neg c7, if_pos c8]]
      exact b1
    rw [if_neg c8, if_pos (show (0 : Int32) = 0 from rfl)]
    rw [r_Crop h.2.1 h.2.2.1, Option.bind_some]
    unfold iw
    by_cases c11 : wdS t = nI 11
    · rw [if_pos c11, if_neg (show ¬ (1 : Int32) = 0 from by decide)]
      obtain ⟨M1, a1, b1⟩ := partC_m (lt := D.2.2) B mt h hD
      rw [a1, Option.bind_some]
      refine tail M1 ?_
      rw [show partR P n D t = partC P n (D.1, D.2.1, D.2.2) t from by unfold partR; rw [if_neg c0, if_neg c5, if_neg c6, if_neg c7, if_neg c8, if_pos c11]]
      exact b1
    rw [if_neg c11, if_pos (show (0 : Int32) = 0 from rfl)]
    rw [r_Hunger h.2.1 h.2.2.1, Option.bind_some]
    unfold iw
    by_cases c13 : wdS t = nI 13
    · rw [if_pos c13, if_neg (show ¬ (1 : Int32) = 0 from by decide)]
      obtain ⟨M1, a1, b1⟩ := partH_m (lt := D.2.2) B h (i1 D hi) hD
      rw [a1, Option.bind_some]
      refine tail M1 ?_
      rw [show partR P n D t = partH P n (D.1, D.2.1, D.2.2) t from by unfold partR; rw [if_neg c0, if_neg c5, if_neg c6, if_neg c7, if_neg c8, if_neg c11, if_pos c13]]
      exact b1
    rw [if_neg c13, if_pos (show (0 : Int32) = 0 from rfl)]
    rw [r_Law h.2.1 h.2.2.1, Option.bind_some]
    unfold iw
    by_cases c14 : wdS t = nI 14
    · rw [if_pos c14, if_neg (show ¬ (1 : Int32) = 0 from by decide)]
      obtain ⟨M1, a1, b1⟩ := partL_m (lt := D.2.2) B h hD
      rw [a1, Option.bind_some]
      refine tail M1 ?_
      rw [show partR P n D t = partL P n (D.1, D.2.1, D.2.2) t from by unfold partR; rw [if_neg c0, if_neg c5, if_neg c6, if_neg c7, if_neg c8, if_neg c11, if_neg c13, if_pos c14]]
      exact b1
    rw [if_neg c14, if_pos (show (0 : Int32) = 0 from rfl)]
    obtain ⟨M1, a1, b1, d1⟩ := wrong_m h.2.2.2 h.2.1 hk
    rw [a1, Option.bind_some]
    refine tail M1 ?_
    rw [show partR P n D t = .inl (badK t 2) from by unfold partR; rw [if_neg c0, if_neg c5, if_neg c6, if_neg c7, if_neg c8, if_neg c11, if_neg c13, if_neg c14]]
    exact ⟨b1.r, d1⟩
