/-! ===== the class reads a court, whole ===== -/
set_option maxHeartbeats 600000 in
theorem wrapB {P : Nat → Int32} {n : Nat} {M : Mem} {F : Option (Int32 × Mem)} {o : Po} (h : ∃ r, F = some r ∧ CO P n M r o) : ∃ r, (F.bind fun q => if isB q.1 = true then some (q.1, q.2) else none) = some r ∧ CO P n M r o := by
  obtain ⟨r, a, b, d⟩ := h
  rw [a, Option.bind_some]
  have : isB r.1 = true := by
    match o, d with
    | .inl f, d => rw [d.1]; decide
    | .inr x, d => rw [d.1]; decide
  rw [if_pos this]
  exact ⟨_, rfl, b, d⟩
set_option maxHeartbeats 600000 in
theorem readPart_x {P : Nat → Int32} {n : Nat} {M : Mem} {K : Co} {N : Nat → Nat → Int64} {lt : Bool} {t : Tk} (B : BY P n) (mt : MT t) (h : GX P n M t) (h4 : K.1 4 ≤ 99) (hD : DX M K N lt) : ∃ r, f_X2_readPart 4 M = some r ∧ CO P n M r (partR P n (K, N, lt) t) := by
  have bad : ∃ r, ((f_X5_fail (2 : Int32) M).bind fun q => if isB q.1 = true then some (q.1, q.2) else none) = some r ∧ CO P n M r (.inl (badK t 2)) := by
    obtain ⟨M', a, b, d⟩ := fail_b (why := 2) h.2.2.2 h.2.1 h.2.2.1.2.2.1 (by decide)
    exact ⟨_, a, b.w, rfl, d⟩
  unfold f_X2_readPart
  rw [word_sp h.2.1 h.2.2.1.2.2.1, Option.bind_some]
  by_cases c0 : wdS t = nI 0
  · rw [if_pos (show wdS t = (0 : Int32) from c0)]
    rw [show partR P n (K, N, lt) t = partJ P n (K, N, lt) t from by unfold partR; rw [if_pos c0]]
    exact partJ_x B h (wd_kind (by decide) c0) hD
  rw [if_neg (show ¬ wdS t = (0 : Int32) from c0)]
  by_cases c1 : wdS t = nI 1
  · rw [if_pos (show wdS t = (1 : Int32) from c1)]
    rw [show partR P n (K, N, lt) t = .inl (badK t 2) from by unfold partR; rw [if_neg (show ¬ wdS t = nI 0 from fun z => absurd (c1.symm.trans z) (by decide)), if_neg (show ¬ wdS t = nI 5 from fun z => absurd (c1.symm.trans z) (by decide)), if_neg (show ¬ wdS t = nI 6 from fun z => absurd (c1.symm.trans z) (by decide)), if_neg (show ¬ wdS t = nI 7 from fun z => absurd (c1.symm.trans z) (by decide)), if_neg (show ¬ wdS t = nI 8 from fun z => absurd (c1.symm.trans z) (by decide)), if_neg (show ¬ wdS t = nI 11 from fun z => absurd (c1.symm.trans z) (by decide)), if_neg (show ¬ wdS t = nI 13 from fun z => absurd (c1.symm.trans z) (by decide)), if_neg (show ¬ wdS t = nI 14 from fun z => absurd (c1.symm.trans z) (by decide))]]
    exact bad
  rw [if_neg (show ¬ wdS t = (1 : Int32) from c1)]
  by_cases c2 : wdS t = nI 2
  · rw [if_pos (show wdS t = (2 : Int32) from c2)]
    rw [show partR P n (K, N, lt) t = .inl (badK t 2) from by unfold partR; rw [if_neg (show ¬ wdS t = nI 0 from fun z => absurd (c2.symm.trans z) (by decide)), if_neg (show ¬ wdS t = nI 5 from fun z => absurd (c2.symm.trans z) (by decide)), if_neg (show ¬ wdS t = nI 6 from fun z => absurd (c2.symm.trans z) (by decide)), if_neg (show ¬ wdS t = nI 7 from fun z => absurd (c2.symm.trans z) (by decide)), if_neg (show ¬ wdS t = nI 8 from fun z => absurd (c2.symm.trans z) (by decide)), if_neg (show ¬ wdS t = nI 11 from fun z => absurd (c2.symm.trans z) (by decide)), if_neg (show ¬ wdS t = nI 13 from fun z => absurd (c2.symm.trans z) (by decide)), if_neg (show ¬ wdS t = nI 14 from fun z => absurd (c2.symm.trans z) (by decide))]]
    exact bad
  rw [if_neg (show ¬ wdS t = (2 : Int32) from c2)]
  by_cases c3 : wdS t = nI 3
  · rw [if_pos (show wdS t = (3 : Int32) from c3)]
    rw [show partR P n (K, N, lt) t = .inl (badK t 2) from by unfold partR; rw [if_neg (show ¬ wdS t = nI 0 from fun z => absurd (c3.symm.trans z) (by decide)), if_neg (show ¬ wdS t = nI 5 from fun z => absurd (c3.symm.trans z) (by decide)), if_neg (show ¬ wdS t = nI 6 from fun z => absurd (c3.symm.trans z) (by decide)), if_neg (show ¬ wdS t = nI 7 from fun z => absurd (c3.symm.trans z) (by decide)), if_neg (show ¬ wdS t = nI 8 from fun z => absurd (c3.symm.trans z) (by decide)), if_neg (show ¬ wdS t = nI 11 from fun z => absurd (c3.symm.trans z) (by decide)), if_neg (show ¬ wdS t = nI 13 from fun z => absurd (c3.symm.trans z) (by decide)), if_neg (show ¬ wdS t = nI 14 from fun z => absurd (c3.symm.trans z) (by decide))]]
    exact bad
  rw [if_neg (show ¬ wdS t = (3 : Int32) from c3)]
  by_cases c4 : wdS t = nI 4
  · rw [if_pos (show wdS t = (4 : Int32) from c4)]
    rw [show partR P n (K, N, lt) t = .inl (badK t 2) from by unfold partR; rw [if_neg (show ¬ wdS t = nI 0 from fun z => absurd (c4.symm.trans z) (by decide)), if_neg (show ¬ wdS t = nI 5 from fun z => absurd (c4.symm.trans z) (by decide)), if_neg (show ¬ wdS t = nI 6 from fun z => absurd (c4.symm.trans z) (by decide)), if_neg (show ¬ wdS t = nI 7 from fun z => absurd (c4.symm.trans z) (by decide)), if_neg (show ¬ wdS t = nI 8 from fun z => absurd (c4.symm.trans z) (by decide)), if_neg (show ¬ wdS t = nI 11 from fun z => absurd (c4.symm.trans z) (by decide)), if_neg (show ¬ wdS t = nI 13 from fun z => absurd (c4.symm.trans z) (by decide)), if_neg (show ¬ wdS t = nI 14 from fun z => absurd (c4.symm.trans z) (by decide))]]
    exact bad
  rw [if_neg (show ¬ wdS t = (4 : Int32) from c4)]
  by_cases c5 : wdS t = nI 5
  · rw [if_pos (show wdS t = (5 : Int32) from c5)]
    rw [show partR P n (K, N, lt) t = partS P n (K, N, lt) t from by unfold partR; rw [if_neg c0, if_pos c5]]
    exact wrapB (partS_x B h hD)
  rw [if_neg (show ¬ wdS t = (5 : Int32) from c5)]
  by_cases c6 : wdS t = nI 6
  · rw [if_pos (show wdS t = (6 : Int32) from c6)]
    rw [show partR P n (K, N, lt) t = partP P n (K, N, lt) t from by unfold partR; rw [if_neg c0, if_neg c5, if_pos c6]]
    exact partP_x B h (wd_kind (by decide) c6) hD
  rw [if_neg (show ¬ wdS t = (6 : Int32) from c6)]
  by_cases c7 : wdS t = nI 7
  · rw [if_pos (show wdS t = (7 : Int32) from c7)]
    rw [show partR P n (K, N, lt) t = partW P n (K, N, lt) t from by unfold partR; rw [if_neg c0, if_neg c5, if_neg c6, if_pos c7]]
    exact partW_x B h (wd_kind (by decide) c7) hD
  rw [if_neg (show ¬ wdS t = (7 : Int32) from c7)]
  by_cases c8 : wdS t = nI 8
  · rw [if_pos (show wdS t = (8 : Int32) from c8)]
    rw [show partR P n (K, N, lt) t = partF P n (K, N, lt) t from by unfold partR; rw [if_neg c0, if_neg c5, if_neg c6, if_neg c7, if_pos c8]]
    exact wrapB (partF_x B h hD)
  rw [if_neg (show ¬ wdS t = (8 : Int32) from c8)]
  by_cases c9 : wdS t = nI 9
  · rw [if_pos (show wdS t = (9 : Int32) from c9)]
    rw [show partR P n (K, N, lt) t = .inl (badK t 2) from by unfold partR; rw [if_neg (show ¬ wdS t = nI 0 from fun z => absurd (c9.symm.trans z) (by decide)), if_neg (show ¬ wdS t = nI 5 from fun z => absurd (c9.symm.trans z) (by decide)), if_neg (show ¬ wdS t = nI 6 from fun z => absurd (c9.symm.trans z) (by decide)), if_neg (show ¬ wdS t = nI 7 from fun z => absurd (c9.symm.trans z) (by decide)), if_neg (show ¬ wdS t = nI 8 from fun z => absurd (c9.symm.trans z) (by decide)), if_neg (show ¬ wdS t = nI 11 from fun z => absurd (c9.symm.trans z) (by decide)), if_neg (show ¬ wdS t = nI 13 from fun z => absurd (c9.symm.trans z) (by decide)), if_neg (show ¬ wdS t = nI 14 from fun z => absurd (c9.symm.trans z) (by decide))]]
    exact bad
  rw [if_neg (show ¬ wdS t = (9 : Int32) from c9)]
  by_cases c10 : wdS t = nI 10
  · rw [if_pos (show wdS t = (10 : Int32) from c10)]
    rw [show partR P n (K, N, lt) t = .inl (badK t 2) from by unfold partR; rw [if_neg (show ¬ wdS t = nI 0 from fun z => absurd (c10.symm.trans z) (by decide)), if_neg (show ¬ wdS t = nI 5 from fun z => absurd (c10.symm.trans z) (by decide)), if_neg (show ¬ wdS t = nI 6 from fun z => absurd (c10.symm.trans z) (by decide)), if_neg (show ¬ wdS t = nI 7 from fun z => absurd (c10.symm.trans z) (by decide)), if_neg (show ¬ wdS t = nI 8 from fun z => absurd (c10.symm.trans z) (by decide)), if_neg (show ¬ wdS t = nI 11 from fun z => absurd (c10.symm.trans z) (by decide)), if_neg (show ¬ wdS t = nI 13 from fun z => absurd (c10.symm.trans z) (by decide)), if_neg (show ¬ wdS t = nI 14 from fun z => absurd (c10.symm.trans z) (by decide))]]
    exact bad
  rw [if_neg (show ¬ wdS t = (10 : Int32) from c10)]
  by_cases c11 : wdS t = nI 11
  · rw [if_pos (show wdS t = (11 : Int32) from c11)]
    rw [show partR P n (K, N, lt) t = partC P n (K, N, lt) t from by unfold partR; rw [if_neg c0, if_neg c5, if_neg c6, if_neg c7, if_neg c8, if_pos c11]]
    exact partC_x B mt h (wd_kind (by decide) c11) hD
  rw [if_neg (show ¬ wdS t = (11 : Int32) from c11)]
  by_cases c12 : wdS t = nI 12
  · rw [if_pos (show wdS t = (12 : Int32) from c12)]
    rw [show partR P n (K, N, lt) t = .inl (badK t 2) from by unfold partR; rw [if_neg (show ¬ wdS t = nI 0 from fun z => absurd (c12.symm.trans z) (by decide)), if_neg (show ¬ wdS t = nI 5 from fun z => absurd (c12.symm.trans z) (by decide)), if_neg (show ¬ wdS t = nI 6 from fun z => absurd (c12.symm.trans z) (by decide)), if_neg (show ¬ wdS t = nI 7 from fun z => absurd (c12.symm.trans z) (by decide)), if_neg (show ¬ wdS t = nI 8 from fun z => absurd (c12.symm.trans z) (by decide)), if_neg (show ¬ wdS t = nI 11 from fun z => absurd (c12.symm.trans z) (by decide)), if_neg (show ¬ wdS t = nI 13 from fun z => absurd (c12.symm.trans z) (by decide)), if_neg (show ¬ wdS t = nI 14 from fun z => absurd (c12.symm.trans z) (by decide))]]
    exact bad
  rw [if_neg (show ¬ wdS t = (12 : Int32) from c12)]
  by_cases c13 : wdS t = nI 13
  · rw [if_pos (show wdS t = (13 : Int32) from c13)]
    rw [show partR P n (K, N, lt) t = partH P n (K, N, lt) t from by unfold partR; rw [if_neg c0, if_neg c5, if_neg c6, if_neg c7, if_neg c8, if_neg c11, if_pos c13]]
    exact wrapB (partH_x B h (wd_kind (by decide) c13) h4 hD)
  rw [if_neg (show ¬ wdS t = (13 : Int32) from c13)]
  by_cases c14 : wdS t = nI 14
  · rw [if_pos (show wdS t = (14 : Int32) from c14)]
    rw [show partR P n (K, N, lt) t = partL P n (K, N, lt) t from by unfold partR; rw [if_neg c0, if_neg c5, if_neg c6, if_neg c7, if_neg c8, if_neg c11, if_neg c13, if_pos c14]]
    exact wrapB (partL_x B h (wd_kind (by decide) c14) hD)
  rw [if_neg (show ¬ wdS t = (14 : Int32) from c14)]
  rw [show partR P n (K, N, lt) t = .inl (badK t 2) from by unfold partR; rw [if_neg c0, if_neg c5, if_neg c6, if_neg c7, if_neg c8, if_neg c11, if_neg c13, if_neg c14]]
  exact bad
set_option maxHeartbeats 600000 in
theorem grow_le {P : Nat → Int32} {n q : Nat} {c : Nat → Nat} {N : Nat → Nat → Int64} : ∀ (m : Nat) (t : Tk) (f : Nat → Nat → Int32) (a : Tk × (Nat → Nat → Int32)), MT t → growR P n c N q m t f = .inr a → LE t a.1
  | 0, t, f, a, h, e => by
    have e : (Sum.inr (t, f) : Ft ⊕ (Tk × (Nat → Nat → Int32))) = .inr a := e
    cases e
    exact LE.rf h
  | m + 1, t, f, a, h, e => by
    have e : (if wdS t = nI 12 then bnd (seeR c N 2 (nx P n t)) fun w => bnd (eithR P n 99 (nx P n (nx P n t))) fun v => growR P n c N q m v.1 (set2 f 5 (6 * q + w) v.2) else .inr (t, f)) = .inr a := e
    by_cases c0 : wdS t = nI 12
    · rw [if_pos c0] at e
      obtain ⟨w, e1, e⟩ := bnd_inv e
      obtain ⟨v, e2, e⟩ := bnd_inv e
      have l1 : LE t (nx P n t) := nx_le h
      have l2 : LE (nx P n t) (nx P n (nx P n t)) := nx_le tok_mt
      have l3 := eith_le tok_mt e2
      exact ((l1.tr l2).tr l3).tr (grow_le m _ _ _ l3.2 e)
    · rw [if_neg c0] at e
      cases e
      exact LE.rf h
set_option maxHeartbeats 600000 in
theorem part_le {P : Nat → Int32} {n : Nat} {D : Dr} {t : Tk} {a : Tk × Dr} (h : MT t) (e : partR P n D t = .inr a) : LE t a.1 := by
  have l1 : LE t (nx P n t) := nx_le h
  have l2 : LE (nx P n t) (nx P n (nx P n t)) := nx_le tok_mt
  have l3 : LE (nx P n (nx P n t)) (nx P n (nx P n (nx P n t))) := nx_le tok_mt
  unfold partR at e
  by_cases c0 : wdS t = nI 0
  · rw [if_pos c0] at e
    obtain ⟨x, e1, e⟩ := bnd_inv e
    obtain ⟨y, e2, e⟩ := bnd_inv e
    cases e
    have m1 := new_le h e1
    exact m1.tr (jur_le m1.2 e2)
  rw [if_neg c0] at e
  by_cases c1 : wdS t = nI 5
  · rw [if_pos c1] at e
    obtain ⟨x, e1, e⟩ := bnd_inv e
    obtain ⟨y, e2, e⟩ := bnd_inv e
    by_cases c : x = y
    · rw [if_pos c] at e; cases e
    · rw [if_neg c] at e
      obtain ⟨v, e3, e⟩ := bnd_inv e
      cases e
      exact ((l1.tr l2).tr l3).tr (num_le tok_mt e3)
  rw [if_neg c1] at e
  by_cases c2 : wdS t = nI 6
  · rw [if_pos c2] at e
    obtain ⟨x, e1, e⟩ := bnd_inv e
    obtain ⟨y, e2, e⟩ := bnd_inv e
    cases e
    have m1 := new_le h e1
    exact m1.tr (eith_le m1.2 e2)
  rw [if_neg c2] at e
  by_cases c3 : wdS t = nI 7
  · rw [if_pos c3] at e
    obtain ⟨x, e1, e⟩ := bnd_inv e
    cases e
    exact new_le h e1
  rw [if_neg c3] at e
  by_cases c4 : wdS t = nI 8
  · rw [if_pos c4] at e
    obtain ⟨x, e1, e⟩ := bnd_inv e
    obtain ⟨t3, e2, e⟩ := bnd_inv e
    obtain ⟨y, e3, e⟩ := bnd_inv e
    obtain ⟨t5, e4, e⟩ := bnd_inv e
    obtain ⟨z, e5, e⟩ := bnd_inv e
    cases e
    have w1 := (wd_inv e2).2
    have w2 := (wd_inv e4).2
    have m3 : LE (nx P n (nx P n t)) t3 := by rw [w1]; exact l3
    have m4 : LE t3 (nx P n t3) := nx_le m3.2
    have m5 : LE (nx P n t3) t5 := by rw [w2]; exact nx_le tok_mt
    exact ((((l1.tr l2).tr m3).tr m4).tr m5).tr (nx_le m5.2)
  rw [if_neg c4] at e
  by_cases c5 : wdS t = nI 11
  · rw [if_pos c5] at e
    obtain ⟨x, e1, e⟩ := bnd_inv e
    obtain ⟨y, e2, e⟩ := bnd_inv e
    cases e
    have m1 := new_le h e1
    exact m1.tr (grow_le _ _ _ _ m1.2 e2)
  rw [if_neg c5] at e
  by_cases c6 : wdS t = nI 13
  · rw [if_pos c6] at e
    unfold partH at e
    by_cases c : ¬ D.1.1 4 = 0
    · rw [if_pos c] at e; cases e
    · rw [if_neg c] at e
      obtain ⟨v, e3, e⟩ := bnd_inv e
      cases e
      exact l1.tr (num_le tok_mt e3)
  rw [if_neg c6] at e
  by_cases c7 : wdS t = nI 14
  · rw [if_pos c7] at e
    unfold partL at e
    by_cases d0 : D.2.2 = true
    · rw [if_pos d0] at e; cases e
    rw [if_neg d0] at e
    by_cases d1 : wdS (nx P n t) = nI 15
    · rw [if_pos d1] at e; cases e; exact l1.tr l2
    rw [if_neg d1] at e
    by_cases d2 : wdS (nx P n t) = nI 16
    · rw [if_pos d2] at e; cases e; exact l1.tr l2
    rw [if_neg d2] at e
    by_cases d3 : wdS (nx P n t) = nI 17
    · rw [if_pos d3] at e; cases e; exact l1.tr l2
    rw [if_neg d3] at e
    cases e
  rw [if_neg c7] at e
  cases e
set_option maxHeartbeats 600000 in
theorem court_step {P : Nat → Int32} {n : Nat} {D : Dr} {t t' : Tk} {a : Tk × Dr} (h : MT t) (ha : WfT n a.1) (e1 : partR P n D t = .inr a) (e2 : stopR P n a.1 = .inr t') : t.1 + 1 ≤ t'.1 ∧ MT t' := by
  have l := part_le h e1
  obtain ⟨k, e⟩ := stop_inv e2
  have hl : a.1.1 < a.1.2.1 := ha.2.2.2.2.1.resolve_left (by omega)
  have := nx_lt (P := P) (n := n) hl
  rw [e]
  exact ⟨by have := l.1; omega, tok_mt⟩
set_option maxHeartbeats 600000 in
theorem court_loop {P : Nat → Int32} {n : Nat} {inv : Dr → Prop} (B : BY P n) (i1 : ∀ D, inv D → D.1.1 4 ≤ 99) (i2 : ∀ D t a, inv D → partR P n D t = .inr a → inv a.2) : ∀ (m x fu : Nat) (M : Mem) (t : Tk) (D : Dr), x + m = n + 1 → m + 1 < fu → x ≤ t.1 → MT t → inv D → GX P n M t → DX M D.1 D.2.1 D.2.2 →
    ∃ M', f_X2_readCourt_17 (nI n) 4 fu (nI x) M = some M' ∧ CtF M M' ∧ match courtR P n m D t with | .inl f => BX M' f | .inr D' => M'.1 30 0 10 = 0 ∧ DX M' D'.1 D'.2.1 D'.2.2 ∧ inv D'
  | 0, x, fu, M, t, D, hx, _, ht, _, _, h, _ => by
    have := h.2.2.1.1
    omega
  | m + 1, x, 0, M, t, D, _, z, _, _, _, _, _ => by omega
  | m + 1, x, fu + 1, M, t, D, hx, hf, ht, mt, hi, h, hD => by
    have := B.1
    have hw := h.2.2.1
    have es : courtR P n (m + 1) D t = if t.2.2.1 = 0 then .inr D else bnd (partR P n D t) fun a => bnd (stopR P n a.1) fun t' => courtR P n m a.2 t' := rfl
    have out : ∀ (M2 : Mem) (f : Ft), BX M2 f → f_X2_readCourt_17 (nI n) 4 fu (nI (x + 1)) M2 = some M2 := by
      intro M2 f hb
      obtain ⟨fu', rfl⟩ : ∃ k, fu = k + 1 := ⟨fu - 1, by omega⟩
      rw [f_X2_readCourt_17]
      by_cases c : nI n < nI (x + 1)
      · rw [if_pos c]
      · rw [if_neg c, if_neg (by rw [hb.2.1]; exact hb.1)]
    rw [f_X2_readCourt_17, if_neg (by rw [lt_nI (by omega) (by omega)]; omega), h.2.2.2, if_pos rfl, h.2.1.2.2.1, es]
    by_cases c : t.2.2.1 = 0
    · rw [if_pos (by rw [c]; rfl), if_pos c]
      exact ⟨M, rfl, CtF.rf, h.2.2.2, hD, hi⟩
    · have hk := hw.2.2.1
      rw [if_neg (by rw [show (0 : Int32) = nI 0 from rfl, eq_nI (by omega) (by omega)]; exact c), if_neg c]
      obtain ⟨r, a, b, d⟩ := readPart_x (lt := D.2.2) B mt h (i1 D hi) hD
      rw [a, Option.bind_some]
      cases e : partR P n D t with
      | inl f =>
        rw [show partR P n (D.1, D.2.1, D.2.2) t = .inl f from e] at d
        rw [if_pos d.1, show nI x + (1 : Int32) = nI (x + 1) from add_nI x 1, out r.2 f d.2]
        exact ⟨_, rfl, b, d.2⟩
      | inr y =>
        rw [show partR P n (D.1, D.2.1, D.2.2) t = .inr y from e] at d
        obtain ⟨d1, d2, d3⟩ := d
        rw [if_neg (by rw [d1]; decide)]
        obtain ⟨r2, a2, b2, g⟩ := stop_x B d2
        rw [a2, Option.bind_some, show nI x + (1 : Int32) = nI (x + 1) from add_nI x 1]
        cases e2 : stopR P n y.1 with
        | inl f =>
          rw [e2] at g
          rw [out r2.2 f g.2]
          refine ⟨_, rfl, b.tr b2.w, ?_⟩
          rw [show (bnd (.inr y) fun a => bnd (stopR P n a.1) fun t' => courtR P n m a.2 t') = .inl f from by unfold bnd; simp only; rw [e2]]
          exact g.2
        | inr t' =>
          rw [e2] at g
          have st := court_step mt d2.2.2.1 e e2
          obtain ⟨M', k1, k2, k3⟩ := court_loop B i1 i2 m (x + 1) fu r2.2 t' y.2 (by omega) (by omega) (by omega) st.2 (i2 D t y hi e) g.2 ⟨b2.N d3.1, DR.k b2.k d3.2⟩
          refine ⟨M', k1, (b.tr b2.w).tr k2, ?_⟩
          rw [show (bnd (.inr y) fun a => bnd (stopR P n a.1) fun t' => courtR P n m a.2 t') = courtR P n m y.2 t' from by unfold bnd; simp only; rw [e2]]
          exact k3
set_option maxHeartbeats 600000 in
theorem z70 : ∀ (m i fu : Nat) (M : Mem), i + m = 24 → m < fu → ∃ M', f_X1_clear_70 4 fu (nI i) M = some (sR (sR M' 8 4 (upd (M'.1 8 4) 11 (0 : Int32))) 8 4 (upd ((sR M' 8 4 (upd (M'.1 8 4) 11 (0 : Int32))).1 8 4) 12 (0 : Int32))) ∧ (∀ j, i ≤ j → j < 24 → M'.1 19 4 j = 0) ∧ (∀ j, j < i → M'.1 19 4 j = M.1 19 4 j) ∧ (∀ a b, ¬ (a = 19 ∧ b = 4) → M'.1 a b = M.1 a b) ∧ M'.2 = M.2
  | m, i, 0, M, _, z => by omega
  | 0, i, fu + 1, M, hi, _ => by
    refine ⟨M, ?_, fun j h1 h2 => by omega, fun _ _ => rfl, fun _ _ _ => rfl, rfl⟩
    rw [f_X1_clear_70, if_neg (show ¬ nI i < (24 : Int32) from by show ¬ nI i < nI 24; rw [lt_nI (by omega) (by omega)]; omega)] <;> rfl
  | m + 1, i, fu + 1, M, hi, hf => by
    obtain ⟨M', a1, a2, a3, a4, a5⟩ := z70 m (i + 1) fu (sR M 19 4 (upd (M.1 19 4) i 0)) (by omega) (by omega)
    refine ⟨M', ?_, fun j h1 h2 => ?_, fun j h1 => ?_, fun a b h1 => ?_, a5⟩
    · rw [f_X1_clear_70, if_pos (show nI i < (24 : Int32) from by show nI i < nI 24; rw [lt_nI (by omega) (by omega)]; omega), inb_nI_t (show i < 24 by omega) (by decide), if_pos rfl, nI_clamp (by omega), show nI i + (1 : Int32) = nI (i + 1) from add_nI i 1]
      exact a1
    · by_cases e : j = i
      · rw [e, a3 i (by omega), sR_at, upd_at]
      · exact a2 j (by omega) h2
    · rw [a3 j (by omega), sR_at, upd_ne _ _ (by omega)]
    · rw [a4 a b h1, sR_ne _ _ _ _ h1]
set_option maxHeartbeats 600000 in
theorem z46 : ∀ (m i fu : Nat) (M : Mem), i + m = 10 → m < fu → ∃ M', f_X1_clear_46 4 fu (nI i) M = f_X1_clear_70 4 FU (nI 0) M' ∧ (∀ j, i ≤ j → j < 10 → M'.1 15 4 j = 0) ∧ (∀ j, j < i → M'.1 15 4 j = M.1 15 4 j) ∧ (∀ a b, ¬ (a = 15 ∧ b = 4) → M'.1 a b = M.1 a b) ∧ M'.2 = M.2
  | m, i, 0, M, _, z => by omega
  | 0, i, fu + 1, M, hi, _ => by
    refine ⟨M, ?_, fun j h1 h2 => by omega, fun _ _ => rfl, fun _ _ _ => rfl, rfl⟩
    rw [f_X1_clear_46, if_neg (show ¬ nI i < (10 : Int32) from by show ¬ nI i < nI 10; rw [lt_nI (by omega) (by omega)]; omega)] <;> rfl
  | m + 1, i, fu + 1, M, hi, hf => by
    obtain ⟨M', a1, a2, a3, a4, a5⟩ := z46 m (i + 1) fu (sR M 15 4 (upd (M.1 15 4) i 0)) (by omega) (by omega)
    refine ⟨M', ?_, fun j h1 h2 => ?_, fun j h1 => ?_, fun a b h1 => ?_, a5⟩
    · rw [f_X1_clear_46, if_pos (show nI i < (10 : Int32) from by show nI i < nI 10; rw [lt_nI (by omega) (by omega)]; omega), inb_nI_t (show i < 10 by omega) (by decide), if_pos rfl, nI_clamp (by omega), show nI i + (1 : Int32) = nI (i + 1) from add_nI i 1]
      exact a1
    · by_cases e : j = i
      · rw [e, a3 i (by omega), sR_at, upd_at]
      · exact a2 j (by omega) h2
    · rw [a3 j (by omega), sR_at, upd_ne _ _ (by omega)]
    · rw [a4 a b h1, sR_ne _ _ _ _ h1]
set_option maxHeartbeats 600000 in
theorem z22 : ∀ (m i fu : Nat) (M : Mem), i + m = 100 → m < fu → ∃ M', f_X1_clear_22 4 fu (nI i) M = f_X1_clear_46 4 FU (nI 0) M' ∧ (∀ j, i ≤ j → j < 100 → M'.1 14 4 j = 0) ∧ (∀ j, j < i → M'.1 14 4 j = M.1 14 4 j) ∧ (∀ a b, ¬ (a = 14 ∧ b = 4) → M'.1 a b = M.1 a b) ∧ M'.2 = M.2
  | m, i, 0, M, _, z => by omega
  | 0, i, fu + 1, M, hi, _ => by
    refine ⟨M, ?_, fun j h1 h2 => by omega, fun _ _ => rfl, fun _ _ _ => rfl, rfl⟩
    rw [f_X1_clear_22, if_neg (show ¬ nI i < (100 : Int32) from by show ¬ nI i < nI 100; rw [lt_nI (by omega) (by omega)]; omega)] <;> rfl
  | m + 1, i, fu + 1, M, hi, hf => by
    obtain ⟨M', a1, a2, a3, a4, a5⟩ := z22 m (i + 1) fu (sR M 14 4 (upd (M.1 14 4) i 0)) (by omega) (by omega)
    refine ⟨M', ?_, fun j h1 h2 => ?_, fun j h1 => ?_, fun a b h1 => ?_, a5⟩
    · rw [f_X1_clear_22, if_pos (show nI i < (100 : Int32) from by show nI i < nI 100; rw [lt_nI (by omega) (by omega)]; omega), inb_nI_t (show i < 100 by omega) (by decide), if_pos rfl, nI_clamp (by omega), show nI i + (1 : Int32) = nI (i + 1) from add_nI i 1]
      exact a1
    · by_cases e : j = i
      · rw [e, a3 i (by omega), sR_at, upd_at]
      · exact a2 j (by omega) h2
    · rw [a3 j (by omega), sR_at, upd_ne _ _ (by omega)]
    · rw [a4 a b h1, sR_ne _ _ _ _ h1]
set_option maxHeartbeats 600000 in
theorem z2 : ∀ (m i fu : Nat) (M : Mem), i + m = 4 → m < fu → ∃ M', f_X1_clear_2 4 fu (nI i) M = f_X1_clear_22 4 FU (nI 0) M' ∧ (∀ j, i ≤ j → j < 4 → M'.1 9 4 j = 0) ∧ (∀ j, j < i → M'.1 9 4 j = M.1 9 4 j) ∧ (∀ a b, ¬ (a = 9 ∧ b = 4) → M'.1 a b = M.1 a b) ∧ M'.2 = M.2
  | m, i, 0, M, _, z => by omega
  | 0, i, fu + 1, M, hi, _ => by
    refine ⟨M, ?_, fun j h1 h2 => by omega, fun _ _ => rfl, fun _ _ _ => rfl, rfl⟩
    rw [f_X1_clear_2, if_neg (show ¬ nI i < (4 : Int32) from by show ¬ nI i < nI 4; rw [lt_nI (by omega) (by omega)]; omega)] <;> rfl
  | m + 1, i, fu + 1, M, hi, hf => by
    obtain ⟨M', a1, a2, a3, a4, a5⟩ := z2 m (i + 1) fu (sR M 9 4 (upd (M.1 9 4) i 0)) (by omega) (by omega)
    refine ⟨M', ?_, fun j h1 h2 => ?_, fun j h1 => ?_, fun a b h1 => ?_, a5⟩
    · rw [f_X1_clear_2, if_pos (show nI i < (4 : Int32) from by show nI i < nI 4; rw [lt_nI (by omega) (by omega)]; omega), inb_nI_t (show i < 4 by omega) (by decide), if_pos rfl, nI_clamp (by omega), show nI i + (1 : Int32) = nI (i + 1) from add_nI i 1]
      exact a1
    · by_cases e : j = i
      · rw [e, a3 i (by omega), sR_at, upd_at]
      · exact a2 j (by omega) h2
    · rw [a3 j (by omega), sR_at, upd_ne _ _ (by omega)]
    · rw [a4 a b h1, sR_ne _ _ _ _ h1]
set_option maxHeartbeats 600000 in
theorem clear_x (M : Mem) : ∃ M', f_X1_clear 4 M = some M' ∧ (∀ j, j < 4 → M'.1 9 4 j = 0) ∧ (∀ j, j < 100 → M'.1 14 4 j = 0) ∧ (∀ j, j < 10 → M'.1 15 4 j = 0) ∧ (∀ j, j < 24 → M'.1 19 4 j = 0) ∧ M'.1 8 4 11 = 0 ∧ M'.1 8 4 12 = 0 ∧ CtF M M' := by
  obtain ⟨M1, a1, b1, -, d1, e1⟩ := z2 4 0 FU M (by omega) (lt_FU (by omega))
  obtain ⟨M2, a2, b2, -, d2, e2⟩ := z22 100 0 FU M1 (by omega) (lt_FU (by omega))
  obtain ⟨M3, a3, b3, -, d3, e3⟩ := z46 10 0 FU M2 (by omega) (lt_FU (by omega))
  obtain ⟨M4, a4, b4, -, d4, e4⟩ := z70 24 0 FU M3 (by omega) (lt_FU (by omega))
  refine ⟨_, (show f_X1_clear 4 M = _ from a1.trans (a2.trans (a3.trans a4))), fun j hj => ?_, fun j hj => ?_, fun j hj => ?_, fun j hj => ?_, ?_, ?_, ?_⟩
  · rw [sR_ne _ _ _ _ (by omega), sR_ne _ _ _ _ (by omega), d4 9 4 (by omega), d3 9 4 (by omega), d2 9 4 (by omega)]; exact b1 j (by omega) hj
  · rw [sR_ne _ _ _ _ (by omega), sR_ne _ _ _ _ (by omega), d4 14 4 (by omega), d3 14 4 (by omega)]; exact b2 j (by omega) hj
  · rw [sR_ne _ _ _ _ (by omega), sR_ne _ _ _ _ (by omega), d4 15 4 (by omega)]; exact b3 j (by omega) hj
  · rw [sR_ne _ _ _ _ (by omega), sR_ne _ _ _ _ (by omega)]; exact b4 j (by omega) hj
  · rw [sR_at, upd_ne _ _ (by decide), sR_at, upd_at]
  · rw [sR_at, upd_at]
  · refine CtF.tr (M1 := M4) ⟨fun c i h1 h2 h3 => ⟨?_, by rw [e4, e3, e2, e1]⟩, fun j hj => ?_⟩ ((CtF.R (by omega)).tr (CtF.R (by omega)))
    · rw [d4 c i (by omega), d3 c i (by omega), d2 c i (by omega), d1 c i (by omega)]
    · rw [d4 30 0 (by omega), d3 30 0 (by omega), d2 30 0 (by omega), d1 30 0 (by omega)]
def DrO : Dr := ((fun _ => 0, fun _ _ => 0), fun _ _ => 0, false)
set_option maxHeartbeats 600000 in
theorem readCourt_x {P : Nat → Int32} {n : Nat} {inv : Dr → Prop} {M : Mem} (B : BY P n) (i0 : inv DrO) (i1 : ∀ D, inv D → D.1.1 4 ≤ 99) (i2 : ∀ D t a, inv D → partR P n D t = .inr a → inv a.2) (hP : ∀ j, j < n → M.1 31 0 j = P j) (hr : ∀ i, i < 30 → M.2 32 0 i = resW i) :
    ∃ M', f_X2_readCourt (nI n) 4 M = some M' ∧ ((∀ c i, ¬ (c = 30 ∧ i = 0) → ¬ (i = 4 ∧ 8 ≤ c ∧ c ≤ 19) → ¬ c = 33 → M'.1 c i = M.1 c i ∧ M'.2 c i = M.2 c i) ∧ ∀ j, j < 3 → M'.1 30 0 j = M.1 30 0 j) ∧ match courtR P n (n + 1) DrO (tokS P n 0) with | .inl f => BX M' f | .inr D' => M'.1 30 0 10 = 0 ∧ DX M' D'.1 D'.2.1 D'.2.2 ∧ inv D' := by
  have := B.1
  obtain ⟨M1, a1, b9, b14, b15, b19, b11, b12, W1⟩ := clear_x M
  unfold f_X2_readCourt
  rw [a1, Option.bind_some]
  simp only
  have W2 : CtF M1 (sR M1 33 0 (upd (M1.1 33 0) 0 (0 : Int32))) := ⟨fun c i h1 h2 h3 => ⟨sR_ne _ _ _ _ (fun z => h3 z.1), rfl⟩, fun j hj => by rw [sR_ne _ _ _ _ (by omega)]⟩
  have e33 : (sR M1 33 0 (upd (M1.1 33 0) 0 (0 : Int32))).1 33 0 0 = 0 := by rw [sR_at, upd_at]
  have er : ∀ c, 8 ≤ c → c ≤ 19 → (sR M1 33 0 (upd (M1.1 33 0) 0 (0 : Int32))).1 c 4 = M1.1 c 4 := fun c _ _ => sR_ne _ _ _ _ (by omega)
  have hD2 : DX (sR M1 33 0 (upd (M1.1 33 0) 0 (0 : Int32))) DrO.1 DrO.2.1 DrO.2.2 := by
    refine ⟨fun q hq => ⟨?_, Nat.zero_le _, fun i hi => absurd hi (Nat.not_lt_zero _)⟩, ?_, ?_, ?_, fun j hj => absurd hj (Nat.not_lt_zero _), fun a b ha hb => ?_, fun b hb => ⟨0, ?_, by omega, fun a ha => ?_⟩, fun p hp => absurd hp (Nat.not_lt_zero _), fun w hw => absurd hw (Nat.not_lt_zero _), fun c w hc hw => ?_⟩
    · rw [er 9 (by decide) (by decide), b9 q hq]; rfl
    · rw [er 8 (by decide) (by decide), b11]; rfl
    · rw [er 8 (by decide) (by decide), b12]; rfl
    · rw [e33]; rfl
    · rw [er 14 (by decide) (by decide), b14 _ (by omega)]; rfl
    · rw [er 15 (by decide) (by decide), b15 _ (by omega)]; rfl
    · show Nat.testBit 0 a = decide (¬ (0 : Int32) = 0)
      rw [Nat.zero_testBit]
      decide
    · rw [er 19 (by decide) (by decide), b19 _ (by omega)]; rfl
  have W := W1.tr W2
  generalize sR M1 33 0 (upd (M1.1 33 0) 0 (0 : Int32)) = M2 at W hD2 ⊢
  have hP2 : ∀ j, j < n → M2.1 31 0 j = P j := fun j hj => by rw [(W.1 31 0 (by omega) (by omega) (by omega)).1]; exact hP j hj
  have hr2 : ∀ i, i < 30 → M2.2 32 0 i = resW i := fun i hi => by rw [(W.1 32 0 (by omega) (by omega) (by omega)).2]; exact hr i hi
  obtain ⟨M6, e6, f6, g3, g4, g10, g012⟩ : ∃ M6, f_X5_begin (nI n) M2 = ((f_X5_advance M6).bind fun M5 => some M5) ∧ (∀ c i, ¬ (c = 30 ∧ i = 0) → M6.1 c i = M2.1 c i ∧ M6.2 c i = M2.2 c i) ∧ M6.1 30 0 3 = nI n ∧ M6.1 30 0 4 = nI 0 ∧ M6.1 30 0 10 = 0 ∧ ∀ j, j < 3 → M6.1 30 0 j = M2.1 30 0 j := by
    refine ⟨_, rfl, fun c i h => ⟨?_, rfl⟩, ?_, ?_, ?_, fun j hj => ?_⟩
    · rw [sR_ne _ _ _ _ h, sR_ne _ _ _ _ h, sR_ne _ _ _ _ h, sR_ne _ _ _ _ h]
    · rw [sR_at, upd_ne _ _ (by decide), sR_at, upd_ne _ _ (by decide), sR_at, upd_ne _ _ (by decide), sR_at, upd_at]
    · rw [sR_at, upd_ne _ _ (by decide), sR_at, upd_ne _ _ (by decide), sR_at, upd_at]; rfl
    · rw [sR_at, upd_ne _ _ (by decide), sR_at, upd_at]
    · rw [sR_at, upd_ne _ _ (by omega), sR_at, upd_ne _ _ (by omega), sR_at, upd_ne _ _ (by omega), sR_at, upd_ne _ _ (by omega)]
  have T6 : TapX M6 P n := ⟨g3, fun j hj => by rw [(f6 31 0 (by omega)).1]; exact hP2 j hj, fun i hi => by rw [(f6 32 0 (by omega)).2]; exact hr2 i hi⟩
  obtain ⟨M7, a7, b7, F7⟩ := advance_sp (p := 0) B.1 (by omega) T6 g4
  rw [e6, a7, Option.bind_some, Option.bind_some]
  have G7 : GX P n M7 (tokS P n 0) := ⟨F7.T T6, b7, tokS_wf (Nat.zero_le _) B.2, by rw [F7.2 10 (by omega)]; exact g10⟩
  have D7 : DX M7 DrO.1 DrO.2.1 DrO.2.2 := by
    have k6 : KFr M2 M6 := ⟨fun c h1 h2 _ => (f6 c 4 (by omega)).1, (f6 33 0 (by omega)).1⟩
    exact ⟨F7.x.N (CtF.N0 (f6 9 4 (by omega)).1 (f6 10 4 (by omega)).2 hD2.1), DR.k (k6.tr F7.x.k) hD2.2⟩
  obtain ⟨M', k1, k2, k3⟩ := court_loop B i1 i2 (n + 1) 0 FU M7 (tokS P n 0) DrO (by omega) (lt_FU (by omega)) (Nat.zero_le _) tok_mt i0 G7 D7
  refine ⟨M', k1, ⟨fun c i h1 h2 h3 => ⟨?_, ?_⟩, fun j hj => ?_⟩, k3⟩
  · rw [(k2.1 c i h1 h2 h3).1, (F7.1 c i h1).1, (f6 c i h1).1, (W.1 c i h1 h2 h3).1]
  · rw [(k2.1 c i h1 h2 h3).2, (F7.1 c i h1).2, (f6 c i h1).2, (W.1 c i h1 h2 h3).2]
  · rw [k2.2 j (by omega), F7.2 j (by omega), g012 j hj, W.2 j (by omega)]
