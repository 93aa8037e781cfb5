/-! ===== steps of weeks go forward, are well told; the class's loop ===== -/
theorem sg_tok {P : Nat → Int32} {n p : Nat} (h : (tokS P n p).2.2.1 = 3) : (tokS P n p).2.2.2.2.2 = 59 ∨ (tokS P n p).2.2.2.2.2 = 60 ∨ (tokS P n p).2.2.2.2.2 = 62 ∨ (tokS P n p).2.2.2.2.2 = 61 := by
  unfold tokS at h ⊢
  generalize runP isW P (n - p) p = a at h ⊢
  unfold tokA at h ⊢
  by_cases c1 : n ≤ a
  · rw [if_pos c1] at h; exact absurd h (show ¬ (0 : Nat) = 3 from by decide)
  · rw [if_neg c1] at h ⊢
    by_cases c2 : isL (P a) = true
    · rw [if_pos c2] at h; exact absurd h (show ¬ (1 : Nat) = 3 from by decide)
    · rw [if_neg c2] at h ⊢
      by_cases c3 : isD (P a) = true
      · rw [if_pos c3] at h
        have h : (if 4 < runP isD P (n - a) a - a then 4 else 2) = 3 := h
        split at h <;> omega
      · rw [if_neg c3] at h ⊢
        have h : (if isG (P a) = true then 3 else 4) = 3 := h
        by_cases c4 : isG (P a) = true
        · show P a = 59 ∨ P a = 60 ∨ P a = 62 ∨ P a = 61
          unfold isG at c4
          rw [Bool.or_eq_true, Bool.or_eq_true, Bool.or_eq_true] at c4
          rcases c4 with ((c4 | c4) | c4) | c4
          · exact Or.inl (of_decide_eq_true c4)
          · exact Or.inr (Or.inl (of_decide_eq_true c4))
          · exact Or.inr (Or.inr (Or.inl (of_decide_eq_true c4)))
          · exact Or.inr (Or.inr (Or.inr (of_decide_eq_true c4)))
        · rw [if_neg c4] at h; exact absurd h (by decide)
theorem cmp_inv {P : Nat → Int32} {n : Nat} {t : Tk} {a : Tk × Int32} (e : cmpR P n t = .inr a) : t.2.2.1 = 3 ∧ ¬ t.2.2.2.2.2 = 59 ∧ a = (nx P n t, t.2.2.2.2.2) := by
  unfold cmpR at e
  by_cases c : t.2.2.1 = 3 ∧ ¬ t.2.2.2.2.2 = 59
  · rw [if_pos c] at e
    exact ⟨c.1, c.2, (Sum.inr.inj e).symm⟩
  · rw [if_neg c] at e; cases e
theorem cmp_in {P : Nat → Int32} {n : Nat} {t : Tk} {a : Tk × Int32} (e : cmpR P n (nx P n t) = .inr a) : a.2 = 60 ∨ a.2 = 61 ∨ a.2 = 62 := by
  obtain ⟨h1, h2, h3⟩ := cmp_inv e
  rw [h3]
  rcases sg_tok (P := P) (n := n) (p := t.2.1) h1 with q | q | q | q
  · exact absurd q h2
  · exact Or.inl q
  · exact Or.inr (Or.inr q)
  · exact Or.inr (Or.inl q)
theorem test_le {P : Nat → Int32} {n : Nat} {c : Nat → Nat} {N : Nat → Nat → Int64} {t : Tk} {a : Tk × Rs} (h : MT t) (e : testR P n c N t = .inr a) : LE t a.1 := by
  unfold testR at e
  have l1 := nx_le (P := P) (n := n) h
  by_cases c1 : wdS t = nI 26
  · rw [if_pos c1] at e
    obtain ⟨x, x1, x2⟩ := bnd_inv e
    obtain ⟨y, y1, y2⟩ := bnd_inv x2
    have := (cmp_inv x1).2.2
    have l2 : LE (nx P n t) x.1 := by rw [this]; exact nx_le l1.2
    have l3 := num_le l2.2 y1
    have e := Sum.inr.inj y2
    rw [← e]
    exact (l1.tr l2).tr l3
  · rw [if_neg c1] at e
    by_cases c2 : wdS t = nI 7
    · rw [if_pos c2] at e
      obtain ⟨x, x1, x2⟩ := bnd_inv e
      have e := Sum.inr.inj x2
      rw [← e]
      exact l1.tr (nx_le l1.2)
    · rw [if_neg c2] at e
      by_cases c3 : wdS t = nI 11
      · rw [if_pos c3] at e
        obtain ⟨x, x1, x2⟩ := bnd_inv e
        obtain ⟨y, y1, y2⟩ := bnd_inv x2
        obtain ⟨z, z1, z2⟩ := bnd_inv y2
        have l2 := l1.tr (nx_le (P := P) (n := n) l1.2)
        have := (cmp_inv y1).2.2
        have l3 : LE (nx P n (nx P n t)) y.1 := by rw [this]; exact nx_le l2.2
        have l4 := eith_le l3.2 z1
        have e := Sum.inr.inj z2
        rw [← e]
        exact (l2.tr l3).tr l4
      · rw [if_neg c3] at e; cases e
theorem rest_le {P : Nat → Int32} {n k : Nat} {c : Nat → Nat} {N : Nat → Nat → Int64} {t : Tk} {a : Tk × Rs} (h : MT t) (e : restR P n c N k t = .inr a) : LE t a.1 := by
  unfold restR at e
  have l1 := nx_le (P := P) (n := n) h
  by_cases c0 : k = 0
  · rw [if_pos c0] at e
    obtain ⟨x, x1, x2⟩ := bnd_inv e
    rw [← Sum.inr.inj x2]; exact l1
  rw [if_neg c0] at e
  by_cases c1 : k = 1 ∨ k = 8
  · rw [if_pos c1] at e
    obtain ⟨x, x1, x2⟩ := bnd_inv e
    rw [← Sum.inr.inj x2]; exact num_le h x1
  rw [if_neg c1] at e
  by_cases c3 : k = 3 ∨ k = 4
  · rw [if_pos c3] at e
    obtain ⟨x, x1, x2⟩ := bnd_inv e
    rw [← Sum.inr.inj x2]; exact l1
  rw [if_neg c3] at e
  by_cases c5 : k = 5
  · rw [if_pos c5] at e
    obtain ⟨x, x1, x2⟩ := bnd_inv e
    rw [← Sum.inr.inj x2]
    show LE t (if wdS (nx P n t) = nI 2 then nx P n (nx P n t) else nx P n t)
    split
    · exact l1.tr (nx_le l1.2)
    · exact l1
  rw [if_neg c5] at e
  by_cases c7 : k = 7
  · rw [if_pos c7] at e; exact test_le h e
  · rw [if_neg c7] at e
    rw [← Sum.inr.inj e]; exact LE.rf h
theorem in_nat {v lo hi : Int32} {a b : Nat} (ha : lo = nI a) (hb : hi = nI b) (hb2 : b < 2 ^ 31) (ha2 : a < 2 ^ 31) (h : inR lo hi v) : ∃ n, a ≤ n ∧ n ≤ b ∧ v = nI n := by
  obtain ⟨h1, h2⟩ := h
  have h1 := Int32.le_iff_toInt_le.mp h1
  have h2 := Int32.le_iff_toInt_le.mp h2
  rw [ha, nI_toInt ha2] at h1
  rw [hb, nI_toInt hb2] at h2
  refine ⟨v.toInt.toNat, by omega, by omega, ?_⟩
  apply Int32.toInt_inj.mp
  rw [nI_toInt (by omega)]
  omega
theorem rest_ok {P : Nat → Int32} {n k : Nat} {K : Co} {N : Nat → Nat → Int64} {t : Tk} {a : Tk × Rs} {Z : Zw} (h30 : Z.1.1 1 < 30) (e : restR P n K.1 N k t = .inr a) : OKs K (pushZ Z k a.2).1 (Z.1.1 1) := by
  obtain ⟨s1, -⟩ := push_S (Z := Z) (k := k) (r := a.2) h30
  obtain ⟨v0, v1, v2, v3⟩ := push_v (Z := Z) (k := k) (r := a.2)
  unfold OKs
  rw [s1, v0, v1, v2, v3]
  unfold restR at e
  by_cases c0 : k = 0
  · rw [if_pos c0] at e
    obtain ⟨x, x1, x2⟩ := bnd_inv e
    have e := Sum.inr.inj x2
    rw [← e]
    exact ⟨fun _ => ⟨x, (see_inv x1).2, rfl⟩, fun z => by omega, fun z => by omega, fun z => by omega, fun z => by omega⟩
  rw [if_neg c0] at e
  by_cases c1 : k = 1 ∨ k = 8
  · rw [if_pos c1] at e
    obtain ⟨x, x1, x2⟩ := bnd_inv e
    have e := Sum.inr.inj x2
    rw [← e]
    exact ⟨fun z => by omega, fun _ => in_nat (a := 1) (b := 99) rfl rfl (by decide) (by decide) (in_num x1), fun z => by omega, fun z => by omega, fun z => by omega⟩
  rw [if_neg c1] at e
  by_cases c3 : k = 3 ∨ k = 4
  · rw [if_pos c3] at e
    obtain ⟨x, x1, x2⟩ := bnd_inv e
    have e := Sum.inr.inj x2
    rw [← e]
    exact ⟨fun z => by omega, fun z => by omega, fun _ => ⟨x, (see_inv x1).2, rfl⟩, fun z => by omega, fun z => by omega⟩
  rw [if_neg c3] at e
  by_cases c5 : k = 5
  · rw [if_pos c5] at e
    obtain ⟨x, x1, x2⟩ := bnd_inv e
    have e := Sum.inr.inj x2
    rw [← e]
    refine ⟨fun z => by omega, fun z => by omega, fun _ => ⟨x, (see_inv x1).2, rfl⟩, fun _ => ?_, fun z => by omega⟩
    show (if wdS (nx P n t) = nI 2 then (-1 : Int32) else 1) = 1 ∨ (if wdS (nx P n t) = nI 2 then (-1 : Int32) else 1) = -1
    split
    · exact Or.inr rfl
    · exact Or.inl rfl
  rw [if_neg c5] at e
  by_cases c7 : k = 7
  · rw [if_pos c7] at e
    refine ⟨fun z => by omega, fun z => by omega, fun z => by omega, fun z => by omega, fun _ => ?_⟩
    unfold testR at e
    by_cases d1 : wdS t = nI 26
    · rw [if_pos d1] at e
      obtain ⟨x, x1, x2⟩ := bnd_inv e
      obtain ⟨y, y1, y2⟩ := bnd_inv x2
      have e := Sum.inr.inj y2
      rw [← e]
      exact ⟨Or.inl rfl, fun z => absurd z (show ¬ (0 : Int32) = 1 from by decide), fun z => absurd z (show ¬ (0 : Int32) = 2 from by decide), Or.inr (cmp_in x1)⟩
    rw [if_neg d1] at e
    by_cases d2 : wdS t = nI 7
    · rw [if_pos d2] at e
      obtain ⟨x, x1, x2⟩ := bnd_inv e
      have e := Sum.inr.inj x2
      rw [← e]
      exact ⟨Or.inr (Or.inl rfl), fun _ => ⟨x, (see_inv x1).2, rfl⟩, fun z => absurd z (show ¬ (1 : Int32) = 2 from by decide), Or.inl rfl⟩
    rw [if_neg d2] at e
    by_cases d3 : wdS t = nI 11
    · rw [if_pos d3] at e
      obtain ⟨x, x1, x2⟩ := bnd_inv e
      obtain ⟨y, y1, y2⟩ := bnd_inv x2
      obtain ⟨z, z1, z2⟩ := bnd_inv y2
      have e := Sum.inr.inj z2
      rw [← e]
      exact ⟨Or.inr (Or.inr rfl), fun z => absurd z (show ¬ (2 : Int32) = 1 from by decide), fun _ => ⟨x, (see_inv x1).2, rfl⟩, Or.inr (cmp_in y1)⟩
    · rw [if_neg d3] at e; cases e
  · rw [if_neg c7] at e
    have e := Sum.inr.inj e
    rw [← e]
    exact ⟨fun z => absurd z c0, fun z => absurd z c1, fun z => absurd z (by omega), fun z => absurd z c5, fun z => absurd z c7⟩
/-- what stepR says, taken apart -/
theorem step_inv {P : Nat → Int32} {n : Nat} {c : Nat → Nat} {N : Nat → Nat → Int64} {Z : Zw} {t : Tk} {a : Tk × Zw} (e : stepR P n c N Z t = .inr a) : ¬ stpN (wdS t) = 10 ∧ ¬ Z.1.1 1 = 30 ∧ ¬ ((stpN (wdS t) = 7 ∨ stpN (wdS t) = 8) ∧ Z.2.1 = 3) ∧ ∃ b, restR P n c N (stpN (wdS t)) (nx P n t) = .inr b ∧ a = (b.1, pushZ Z (stpN (wdS t)) b.2) := by
  unfold stepR at e
  by_cases c1 : stpN (wdS t) = 10
  · rw [if_pos c1] at e; cases e
  rw [if_neg c1] at e
  by_cases c2 : Z.1.1 1 = 30
  · rw [if_pos c2] at e; cases e
  rw [if_neg c2] at e
  by_cases c3 : (stpN (wdS t) = 7 ∨ stpN (wdS t) = 8) ∧ Z.2.1 = 3
  · rw [if_pos c3] at e; cases e
  rw [if_neg c3] at e
  obtain ⟨b, b1, b2⟩ := bnd_inv e
  exact ⟨c1, c2, c3, b, b1, (Sum.inr.inj b2).symm⟩
theorem step_ok {P : Nat → Int32} {n : Nat} {K : Co} {N : Nat → Nat → Int64} {Z : Zw} {t : Tk} {a : Tk × Zw} (o : ZOK K Z) (h : MT t) (e : stepR P n K.1 N Z t = .inr a) : LE t a.1 ∧ ZOK K a.2 := by
  obtain ⟨c1, c2, c3, b, b1, b2⟩ := step_inv e
  have hS := o.1.2.1
  have hd := o.1.2.2
  have l1 := nx_le (P := P) (n := n) h
  have hk := stp_le (t := t)
  rw [b2]
  refine ⟨l1.tr (rest_le l1.2 b1), o.push (by omega) (by omega) (fun z => ?_) (rest_ok (by omega) b1)⟩
  have := fun y => c3 ⟨z, y⟩
  omega
theorem stop_step {P : Nat → Int32} {n : Nat} {a t' : Tk} (hw : WfT n a) (e : stopR P n a = .inr t') : a.1 + 1 ≤ t'.1 ∧ MT t' := by
  obtain ⟨h1, h2⟩ := stop_inv e
  rw [h2]
  have h3 : a.1 < a.2.1 := by
    rcases hw.2.2.2.2.1 with q | q
    · rw [h1] at q; exact absurd q (by decide)
    · exact q
  exact ⟨nx_lt h3, tok_mt⟩
theorem fail_bad {M : Mem} {f : Ft} {why : Int32} (h : BX M f) : f_X5_fail why M = some (0, M) := by
  unfold f_X5_fail
  rw [h.2.1, if_neg h.1]
theorem out_x {M : Mem} {f : Ft} {n x : Nat} {fu : Nat} (h : BX M f) (hf : 0 < fu) : f_X8_readWeeks_24 (nI n) 0 4 fu (nI x) M = some M := by
  obtain ⟨fu', rfl⟩ : ∃ k, fu = k + 1 := ⟨fu - 1, by omega⟩
  rw [f_X8_readWeeks_24]
  have e : (if 0 < (M.1 34 0 1) then (f_X5_fail (2 : Int32) M).bind fun q5 => some q5.2 else some M) = some M := by
    by_cases c : 0 < M.1 34 0 1
    · rw [if_pos c, fail_bad h, Option.bind_some]
    · rw [if_neg c]
  by_cases c : nI n < nI x
  · rw [if_pos c]; exact e
  · rw [if_neg c, if_neg (by rw [h.2.1]; exact h.1)]; exact e
theorem RsX.eq {R R' : Nat → Nat → Int32} {L k : Nat} {r : Rs} (e : ∀ c, 25 ≤ c → c ≤ 28 → R' c = R c) (h : RsX R L k r) : RsX R' L k r := by
  unfold RsX at h ⊢
  rw [e 25 (by decide) (by decide), e 26 (by decide) (by decide), e 27 (by decide) (by decide), e 28 (by decide) (by decide)]
  exact h
theorem ZX.eq {M M' : Mem} {Z : Zw} (e : ∀ c i, ¬ (c = 30 ∧ i = 0) → M'.1 c i = M.1 c i) (h : ZX M Z) : ZX M' Z := by
  unfold ZX WkP at h ⊢
  rw [e 23 4 (by decide), e 34 0 (by decide), e 35 0 (by decide)]
  simp only [e 24 4 (by decide), e 25 4 (by decide), e 26 4 (by decide), e 27 4 (by decide), e 28 4 (by decide), e 29 4 (by decide)]
  exact h
set_option maxHeartbeats 1000000 in
theorem weeks_loop {P : Nat → Int32} {n : Nat} {K : Co} {N : Nat → Nat → Int64} (B : BY P n) : ∀ (m x fu : Nat) (M : Mem) (t : Tk) (Z : Zw), x + m = n + 1 → m + 1 < fu → x ≤ t.1 → MT t → ZOK K Z → GX P n M t → NX M 0 K.1 N → ZX M Z →
    ∃ M', f_X8_readWeeks_24 (nI n) 0 4 fu (nI x) M = some M' ∧ WkF M M' ∧ (∀ f, weeksR P n K.1 N m Z t = .inl f → BX M' f) ∧ ∀ Z', weeksR P n K.1 N m Z t = .inr Z' → M'.1 30 0 10 = 0 ∧ ZX M' Z' ∧ ZOK K Z' ∧ Z'.2.1 = 0
  | 0, x, fu, M, t, Z, hx, _, ht, _, _, h, _, _ => by
    have := h.2.2.1.1
    omega
  | m + 1, x, 0, M, t, Z, _, z, _, _, _, _, _, _ => by omega
  | m + 1, x, fu + 1, M, t, Z, hx, hf, ht, mt, o, h, hN, hz => by
    have := B.1
    have hw := h.2.2.1
    have hS := o.1.2.1
    have hd := o.1.2.2
    rw [f_X8_readWeeks_24, if_neg (by rw [lt_nI (by omega) (by omega)]; omega), h.2.2.2, if_pos rfl, h.2.1.2.2.1, weeksR, hz.2.2.2.1]
    have hk := hw.2.2.1
    by_cases c : t.2.2.1 = 0
    · rw [if_pos (by rw [c]; rfl), if_pos c]
      by_cases c0 : Z.2.1 = 0
      · rw [if_neg (by rw [c0]; decide), if_pos c0]
        refine ⟨M, rfl, WkF.rf, fun f e => (by cases e), fun Z' e => ?_⟩
        cases e
        exact ⟨h.2.2.2, hz, o, c0⟩
      · rw [if_pos (by rw [nI_pz (by omega)]; omega), if_neg c0]
        obtain ⟨M', a1, a2, a3⟩ := fail_x (why := 2) h.2.2.2 h.2.1 hk (by decide)
        rw [a1, Option.bind_some]
        refine ⟨M', rfl, a2.wf, fun f e => ?_, fun Z' e => by cases e⟩
        cases e
        unfold badK at a3
        rw [if_neg (by rw [c]; decide)] at a3
        exact a3
    · rw [if_neg (by rw [show (0 : Int32) = nI 0 from rfl, eq_nI (by omega) (by omega)]; exact c), if_neg c, word_sp h.2.1 hk, Option.bind_some, show nI x + (1 : Int32) = nI (x + 1) from add_nI x 1]
      by_cases c28 : wdS t = nI 28
      · rw [if_pos (show wdS t = (28 : Int32) from c28), if_pos c28]
        have hk1 : t.2.2.1 = 1 := wd_kind (by decide) c28
        by_cases c0 : Z.2.1 = 0
        · rw [if_pos c0]
          obtain ⟨M', a1, a2, a3⟩ := failw (why := 2) h (by rw [hk1]; decide) (by decide)
          have e1 : f_X8_closes 4 M = some (0, M') := by
            unfold f_X8_closes
            rw [hz.2.2.2.1, c0, if_neg (by decide)]
            exact a1
          rw [e1, Option.bind_some]
          refine ⟨M', (if_pos rfl).trans (out_x a3 (by omega)), a2.wf, fun f e => ?_, fun Z' e => by cases e⟩
          cases e
          exact a3
        · rw [if_neg c0]
          obtain ⟨M1, a1, W1, g1, z1⟩ := closes_g B o h hz c0
          rw [a1, Option.bind_some]
          obtain ⟨r2, a2, b2, d2, w2⟩ := stop_y B g1
          have e2 : (if (1 : Int32) = 0 then f_X8_readWeeks_24 (nI n) 0 4 fu (nI (x + 1)) M1 else (f_X5_needStop M1).bind fun q15 => f_X8_readWeeks_24 (nI n) 0 4 fu (nI (x + 1)) q15.2) = f_X8_readWeeks_24 (nI n) 0 4 fu (nI (x + 1)) r2.2 := by
            rw [if_neg (by decide), a2, Option.bind_some]
          simp only
          rw [e2]
          cases hs : stopR P n (nx P n t) with
          | inl f =>
            have bx := (d2 f hs).2
            refine ⟨r2.2, out_x bx (by omega), W1.tr b2.wf, fun f' e => ?_, fun Z' e => by cases e⟩
            have e : (Sum.inl f : Ft ⊕ Zw) = .inl f' := e
            cases e
            exact bx
          | inr t' =>
            have g2 := (w2 t' hs).2
            obtain ⟨p1, p2⟩ := stop_step g1.2.2.1 hs
            have l1 := nx_le (P := P) (n := n) mt
            have l0 := l1.1
            obtain ⟨M', k1, k2, k3, k4⟩ := weeks_loop (K := K) (N := N) B m (x + 1) fu r2.2 t' (closeZ Z) (by omega) (by omega) (by omega) p2 (o.close c0) g2 ((W1.tr b2.wf).N hN) (z1.eq (fun c i z => (b2.1 c i z).1))
            exact ⟨M', k1, (W1.tr b2.wf).tr k2, fun f e => k3 f e, fun Z' e => k4 Z' e⟩
      · rw [if_neg (show ¬ wdS t = (28 : Int32) from c28), if_neg c28]
        -- a step begins
        have bad : ∀ f, (if stpN (wdS t) = 10 then some (badK t 2) else if Z.1.1 1 = 30 then some (6, t.1) else if (stpN (wdS t) = 7 ∨ stpN (wdS t) = 8) ∧ Z.2.1 = 3 then some (7, t.1) else none) = some f → stepR P n K.1 N Z t = .inl f := by
          intro f e
          unfold stepR
          by_cases c1 : stpN (wdS t) = 10
          · rw [if_pos c1] at e ⊢; rw [Option.some.inj e]
          rw [if_neg c1] at e ⊢
          by_cases c2 : Z.1.1 1 = 30
          · rw [if_pos c2] at e ⊢; rw [Option.some.inj e]
          rw [if_neg c2] at e ⊢
          by_cases c3 : (stpN (wdS t) = 7 ∨ stpN (wdS t) = 8) ∧ Z.2.1 = 3
          · rw [if_pos c3] at e ⊢; rw [Option.some.inj e]
          · rw [if_neg c3] at e; cases e
        cases hu : (if stpN (wdS t) = 10 then some (badK t 2) else if Z.1.1 1 = 30 then some (6, t.1) else if (stpN (wdS t) = 7 ∨ stpN (wdS t) = 8) ∧ Z.2.1 = 3 then some (7, t.1) else none) with
        | some f =>
          obtain ⟨M', a1, a2, a3⟩ := begins_b h hz hS hd hu
          rw [a1, Option.bind_some, bad f hu]
          refine ⟨M', (if_pos rfl).trans ((if_pos rfl).trans (out_x a3 (by omega))), a2.wf, fun f' e => ?_, fun Z' e => by cases e⟩
          have e : (Sum.inl f : Ft ⊕ Zw) = .inl f' := e
          cases e
          exact a3
        | none =>
          have c1 : ¬ stpN (wdS t) = 10 := fun z => by rw [if_pos z] at hu; cases hu
          rw [if_neg c1] at hu
          have c2 : ¬ Z.1.1 1 = 30 := fun z => by rw [if_pos z] at hu; cases hu
          rw [if_neg c2] at hu
          have c3 : ¬ ((stpN (wdS t) = 7 ∨ stpN (wdS t) = 8) ∧ Z.2.1 = 3) := fun z => by rw [if_pos z] at hu; cases hu
          have hS30 : Z.1.1 1 < 30 := by omega
          have hL6 := pos_lt o (Or.inl hS30)
          obtain ⟨M1, a1, W1, g1, y8, y7, y6, y34, y35, y35', y24, yr⟩ := begins_g (L := posW Z.1 (Z.1.1 1)) B h hz rfl hL6 c1 hS30 hd c3
          have hk10 : stpN (wdS t) < 10 := by have := stp_le (t := t); omega
          obtain ⟨r2, a2, F2, d2, w2⟩ := rest_x B hL6 g1 (W1.N hN) y6 hk10 y24
          rw [a1, Option.bind_some]
          have e1 : ∀ (X : Option Mem) (Y : Option Mem), (if (1 : Int32) = 0 then X else Y) = Y := fun X Y => if_neg (by decide)
          simp only
          rw [e1, a2, Option.bind_some]
          have es : stepR P n K.1 N Z t = bnd (restR P n K.1 N (stpN (wdS t)) (nx P n t)) fun a => .inr (a.1, pushZ Z (stpN (wdS t)) a.2) := by
            unfold stepR
            rw [if_neg c1, if_neg c2, if_neg c3]
          cases hr : restR P n K.1 N (stpN (wdS t)) (nx P n t) with
          | inl f =>
            obtain ⟨x1, x2⟩ := d2 f hr
            rw [hr] at es
            have es : stepR P n K.1 N Z t = .inl f := es
            rw [if_pos x1, es]
            refine ⟨r2.2, (if_pos trivial).trans (out_x x2 (by omega)), W1.tr F2.wf, fun f' e => ?_, fun Z' e => by cases e⟩
            have e : (Sum.inl f : Ft ⊕ Zw) = .inl f' := e
            cases e
            exact x2
          | inr a =>
            obtain ⟨x1, x2, x3⟩ := w2 a hr
            rw [hr] at es
            have es : stepR P n K.1 N Z t = .inr (a.1, pushZ Z (stpN (wdS t)) a.2) := es
            rw [if_neg (by rw [x1]; decide), e1, es]
            obtain ⟨lz, oz⟩ := step_ok o mt es
            have z2 : ZX r2.2 (pushZ Z (stpN (wdS t)) a.2) := by
              have n2 : ∀ c i, ¬ (c = 30 ∧ i = 0) → ¬ (25 ≤ c ∧ c ≤ 28 ∧ i = 4) → r2.2.1 c i = M1.1 c i := fun c i u v => (F2.1 c i u v).1
              refine ZX.push o hS30 hz (fun b h1 h2 j hj => ?_) ?_ ?_ ?_ ?_ (fun j hj => ?_) (fun z => ?_) ?_ x3
              · by_cases q : 25 ≤ b ∧ b ≤ 28
                · rw [F2.2.1 b q.1 q.2 j hj, yr b h1 h2 j hj]
                · rw [n2 b 4 (by omega) (by omega), yr b h1 h2 j hj]
              · rw [n2 23 4 (by decide) (by decide)]; exact y8
              · rw [n2 23 4 (by decide) (by decide)]; exact y7
              · rw [n2 23 4 (by decide) (by decide)]; exact y6
              · rw [n2 34 0 (by decide) (by decide)]; exact y34
              · rw [n2 35 0 (by decide) (by decide)]; exact y35 j hj
              · rw [n2 35 0 (by decide) (by decide)]; exact y35' z
              · rw [n2 24 4 (by decide) (by decide)]; exact y24
            obtain ⟨r3, a3, b3, d3, w3⟩ := stop_y B x2
            rw [a3, Option.bind_some]
            have WW := (W1.tr F2.wf).tr b3.wf
            cases hs : stopR P n a.1 with
            | inl f =>
              have bx := (d3 f hs).2
              refine ⟨r3.2, out_x bx (by omega), WW, fun f' e => ?_, fun Z' e => ?_⟩
              · have e : (bnd (stopR P n a.1) fun t' => weeksR P n K.1 N m (pushZ Z (stpN (wdS t)) a.2) t') = .inl f' := e
                rw [hs] at e
                have e : (Sum.inl f : Ft ⊕ Zw) = .inl f' := e
                cases e
                exact bx
              · have e : (bnd (stopR P n a.1) fun t' => weeksR P n K.1 N m (pushZ Z (stpN (wdS t)) a.2) t') = .inr Z' := e
                rw [hs] at e
                cases e
            | inr t' =>
              have g3 := (w3 t' hs).2
              obtain ⟨p1, p2⟩ := stop_step x2.2.2.1 hs
              have l0 : t.1 ≤ a.1.1 := lz.1
              obtain ⟨M', k1, k2, k3, k4⟩ := weeks_loop (K := K) (N := N) B m (x + 1) fu r3.2 t' (pushZ Z (stpN (wdS t)) a.2) (by omega) (by omega) (by omega) p2 oz g3 (WW.N hN) (z2.eq (fun c i z => (b3.1 c i z).1))
              refine ⟨M', k1, WW.tr k2, fun f e => k3 f ?_, fun Z' e => k4 Z' ?_⟩
              · have e : (bnd (stopR P n a.1) fun t' => weeksR P n K.1 N m (pushZ Z (stpN (wdS t)) a.2) t') = .inl f := e
                rw [hs] at e; exact e
              · have e : (bnd (stopR P n a.1) fun t' => weeksR P n K.1 N m (pushZ Z (stpN (wdS t)) a.2) t') = .inr Z' := e
                rw [hs] at e; exact e
theorem begin_x {P : Nat → Int32} {n : Nat} {M : Mem} (B : BY P n) (hP : ∀ j, j < n → M.1 31 0 j = P j) (hr : ∀ i, i < 30 → M.2 32 0 i = resW i) : ∃ M', f_X5_begin (nI n) M = some M' ∧ (∀ c i, ¬ (c = 30 ∧ i = 0) → M'.1 c i = M.1 c i ∧ M'.2 c i = M.2 c i) ∧ (∀ j, j < 3 → M'.1 30 0 j = M.1 30 0 j) ∧ GX P n M' (tokS P n 0) := by
  have := B.1
  obtain ⟨M6, e6, f6, g3, g4, g10, g012⟩ : ∃ M6, f_X5_begin (nI n) M = ((f_X5_advance M6).bind fun M5 => some M5) ∧ (∀ c i, ¬ (c = 30 ∧ i = 0) → M6.1 c i = M.1 c i ∧ M6.2 c i = M.2 c i) ∧ M6.1 30 0 3 = nI n ∧ M6.1 30 0 4 = nI 0 ∧ M6.1 30 0 10 = 0 ∧ ∀ j, j < 3 → M6.1 30 0 j = M.1 30 0 j := by
    refine ⟨_, rfl, fun c i h => ⟨?_, rfl⟩, ?_, ?_, ?_, fun j hj => ?_⟩
    · rw [sR_ne _ _ _ _ h, sR_ne _ _ _ _ h, sR_ne _ _ _ _ h, sR_ne _ _ _ _ h]
    · rw [sR_at, upd_ne _ _ (by decide), sR_at, upd_ne _ _ (by decide), sR_at, upd_ne _ _ (by decide), sR_at, upd_at]
    · rw [sR_at, upd_ne _ _ (by decide), sR_at, upd_ne _ _ (by decide), sR_at, upd_at]; rfl
    · rw [sR_at, upd_ne _ _ (by decide), sR_at, upd_at]
    · rw [sR_at, upd_ne _ _ (by omega), sR_at, upd_ne _ _ (by omega), sR_at, upd_ne _ _ (by omega), sR_at, upd_ne _ _ (by omega)]
  have T6 : TapX M6 P n := ⟨g3, fun j hj => by rw [(f6 31 0 (by omega)).1]; exact hP j hj, fun i hi => by rw [(f6 32 0 (by omega)).2]; exact hr i hi⟩
  obtain ⟨M7, a7, b7, F7⟩ := advance_sp (p := 0) B.1 (by omega) T6 g4
  rw [e6, a7, Option.bind_some]
  refine ⟨M7, rfl, fun c i z => ⟨?_, ?_⟩, fun j hj => ?_, F7.T T6, b7, tokS_wf (Nat.zero_le _) B.2, by rw [F7.2 10 (by omega)]; exact g10⟩
  · rw [(F7.1 c i z).1, (f6 c i z).1]
  · rw [(F7.1 c i z).2, (f6 c i z).2]
  · rw [F7.2 j (by omega), g012 j hj]
set_option maxHeartbeats 600000 in
theorem readWeeks_x {P : Nat → Int32} {n : Nat} {K : Co} {N : Nat → Nat → Int64} {M : Mem} (B : BY P n) (hP : ∀ j, j < n → M.1 31 0 j = P j) (hr : ∀ i, i < 30 → M.2 32 0 i = resW i) (hN : NX M 0 K.1 N) :
    ∃ M', f_X8_readWeeks (nI n) 0 4 M = some M' ∧ WkF M M' ∧ (∀ f, weeksR P n K.1 N (n + 1) zw0 (tokS P n 0) = .inl f → BX M' f) ∧ ∀ Z', weeksR P n K.1 N (n + 1) zw0 (tokS P n 0) = .inr Z' → M'.1 30 0 10 = 0 ∧ ZX M' Z' ∧ ZOK K Z' ∧ Z'.2.1 = 0 := by
  have := B.1
  unfold f_X8_readWeeks f_X7_clear
  rw [Option.bind_some]
  obtain ⟨M3, e3, f3, v8, v7, v6, v34, l3⟩ : ∃ M3 : Mem, sR (sR (sR (sR (sR M 23 4 (upd (M.1 23 4) 6 0)) 23 4 (upd ((sR M 23 4 (upd (M.1 23 4) 6 0)).1 23 4) 7 0)) 23 4 (upd ((sR (sR M 23 4 (upd (M.1 23 4) 6 0)) 23 4 (upd ((sR M 23 4 (upd (M.1 23 4) 6 0)).1 23 4) 7 0)).1 23 4) 8 0)) 23 4 (upd ((sR (sR (sR M 23 4 (upd (M.1 23 4) 6 0)) 23 4 (upd ((sR M 23 4 (upd (M.1 23 4) 6 0)).1 23 4) 7 0)) 23 4 (upd ((sR (sR M 23 4 (upd (M.1 23 4) 6 0)) 23 4 (upd ((sR M 23 4 (upd (M.1 23 4) 6 0)).1 23 4) 7 0)).1 23 4) 8 0)).1 23 4) 8 1)) 34 0 (upd ((sR (sR (sR (sR M 23 4 (upd (M.1 23 4) 6 0)) 23 4 (upd ((sR M 23 4 (upd (M.1 23 4) 6 0)).1 23 4) 7 0)) 23 4 (upd ((sR (sR M 23 4 (upd (M.1 23 4) 6 0)) 23 4 (upd ((sR M 23 4 (upd (M.1 23 4) 6 0)).1 23 4) 7 0)).1 23 4) 8 0)) 23 4 (upd ((sR (sR (sR M 23 4 (upd (M.1 23 4) 6 0)) 23 4 (upd ((sR M 23 4 (upd (M.1 23 4) 6 0)).1 23 4) 7 0)) 23 4 (upd ((sR (sR M 23 4 (upd (M.1 23 4) 6 0)) 23 4 (upd ((sR M 23 4 (upd (M.1 23 4) 6 0)).1 23 4) 7 0)).1 23 4) 8 0)).1 23 4) 8 1)).1 34 0) 1 0) = M3 ∧
      (∀ c i, ¬ (c = 23 ∧ i = 4) → ¬ (c = 34 ∧ i = 0) → M3.1 c i = M.1 c i) ∧ M3.1 23 4 8 = 1 ∧ M3.1 23 4 7 = 0 ∧ M3.1 23 4 6 = 0 ∧ M3.1 34 0 1 = 0 ∧ M3.2 = M.2 := by
    refine ⟨_, rfl, fun c i z1 z2 => ?_, ?_, ?_, ?_, ?_, rfl⟩
    · rw [sR_ne _ _ _ _ z2, sR_ne _ _ _ _ z1, sR_ne _ _ _ _ z1, sR_ne _ _ _ _ z1, sR_ne _ _ _ _ z1]
    · rw [sR_ne _ _ _ _ (by decide), sR_at, upd_at]
    · rw [sR_ne _ _ _ _ (by decide), sR_at, upd_ne _ _ (by decide), sR_at, upd_ne _ _ (by decide), sR_at, upd_at]
    · rw [sR_ne _ _ _ _ (by decide), sR_at, upd_ne _ _ (by decide), sR_at, upd_ne _ _ (by decide), sR_at, upd_ne _ _ (by decide), sR_at, upd_at]
    · rw [sR_at, upd_at]
  simp only
  rw [e3]
  obtain ⟨M4, e4, f4, j4, g4⟩ := begin_x (M := M3) B (fun j hj => by rw [f3 31 0 (by decide) (by decide)]; exact hP j hj) (fun i hi => by rw [l3]; exact hr i hi)
  rw [e4, Option.bind_some]
  have z4 : ZX M4 zw0 := by
    refine ⟨?_, ?_, ?_, ?_, fun j hj => absurd hj (Nat.not_lt_zero _), fun s hs => absurd hs (Nat.not_lt_zero _)⟩
    · rw [(f4 23 4 (by decide)).1]; exact v8
    · rw [(f4 23 4 (by decide)).1]; exact v7
    · rw [(f4 23 4 (by decide)).1]; exact v6
    · rw [(f4 34 0 (by decide)).1]; exact v34
  have W4 : WkF M M4 := ⟨fun c i h1 h2 h3 => ⟨by rw [(f4 c i h1).1, f3 c i (by omega) (by omega)], by rw [(f4 c i h1).2, l3]⟩, fun j hj => by rw [j4 j hj, f3 30 0 (by decide) (by decide)]⟩
  obtain ⟨M', k1, k2, k3, k4⟩ := weeks_loop (K := K) (N := N) B (n + 1) 0 FU M4 (tokS P n 0) zw0 (by omega) (lt_FU (by omega)) (Nat.zero_le _) tok_mt zok_0 g4 (W4.N hN) z4
  exact ⟨M', k1, W4.tr k2, k3, k4⟩
