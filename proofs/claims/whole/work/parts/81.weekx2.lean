/-! ===== the class reads the rest of a step ===== -/
theorem test84_x {P : Nat → Int32} {n L : Nat} {M : Mem} {t : Tk} {x4 : Int32} {R : Tk → Ft ⊕ (Tk × Int32)} {F : Mem → Option (Int32 × Mem)} (B : BY P n) (hL : L < 60) (h : GX P n M t) (hF : ∀ M t, GX P n M t → Rd P n M (F M) (R t) (fun a => a.1) (fun a => a.2)) :
    ∃ r, ((f_X5_needCompares M).bind fun q5 => if q5.1 = 0 then some ((0 : Int32), q5.2) else (if inb (nI L) 60 = true then ((F (sR q5.2 27 4 (upd (q5.2.1 27 4) (nI L).toNatClampNeg (q5.2.1 30 0 9)))).bind fun q => if inb (nI L) 60 = true then (if isB q.1 = true then some (q.1, sR q.2 28 4 (upd (q.2.1 28 4) (nI L).toNatClampNeg (q.2.1 30 0 9))) else none) else none) else none)) = some r ∧ RwW L M r.2 ∧
      (∀ f, (bnd (cmpR P n t) fun a => bnd (R a.1) fun b => (.inr (a.2, b) : Ft ⊕ (Int32 × Tk × Int32))) = .inl f → r.1 = 0 ∧ BX r.2 f) ∧ ∀ x, (bnd (cmpR P n t) fun a => bnd (R a.1) fun b => (.inr (a.2, b) : Ft ⊕ (Int32 × Tk × Int32))) = .inr x → r.1 = 1 ∧ GX P n r.2 x.2.1 ∧ r.2.1 27 4 L = x.1 ∧ r.2.1 28 4 L = x.2.2 ∧ ∀ c, 25 ≤ c → c ≤ 26 → r.2.1 c 4 = M.1 c 4 := by
  refine chn (OXv.y (cmp_x B h)) (fun M' f eo fx bx => ?_) (fun q a eo x g => ?_)
  · rw [eo]
    exact ⟨fx.rw_, fun f' e => by cases e; exact ⟨rfl, bx⟩, fun x e => by cases e⟩
  obtain ⟨g1, g2⟩ := g
  rw [inb_nI_t hL (by decide), if_pos rfl, nI_clamp (by omega), eo]
  have F2 : RwW L M (sR q.2 27 4 (upd (q.2.1 27 4) L (q.2.1 30 0 9))) := x.rw_.tr (RwW.W (by omega))
  obtain ⟨r, e3, F3, b3, w3⟩ := fin28 hL (hF _ _ (g1.W (c := 27) (L := L) (v := q.2.1 30 0 9) (by decide)))
  rw [inb_nI_t hL (by decide), nI_clamp (by omega)] at e3
  refine ⟨r, e3, F2.tr F3, fun f ef => ?_, fun y ey => ?_⟩
  · cases hb : R a.1 with
    | inl f' =>
      rw [show (bnd (.inr a) fun a => bnd (R a.1) fun b => (.inr (a.2, b) : Ft ⊕ (Int32 × Tk × Int32))) = .inl f' from by simp only [bnd, hb]] at ef
      cases ef
      exact b3 f hb
    | inr b =>
      rw [show (bnd (.inr a) fun a => bnd (R a.1) fun b => (.inr (a.2, b) : Ft ⊕ (Int32 × Tk × Int32))) = .inr (a.2, b) from by simp only [bnd, hb]] at ef
      cases ef
  · cases hb : R a.1 with
    | inl f' =>
      rw [show (bnd (.inr a) fun a => bnd (R a.1) fun b => (.inr (a.2, b) : Ft ⊕ (Int32 × Tk × Int32))) = .inl f' from by simp only [bnd, hb]] at ey
      cases ey
    | inr b =>
      rw [show (bnd (.inr a) fun a => bnd (R a.1) fun b => (.inr (a.2, b) : Ft ⊕ (Int32 × Tk × Int32))) = .inr (a.2, b) from by simp only [bnd, hb]] at ey
      cases ey
      obtain ⟨w1, w2, w4, w5⟩ := w3 b hb
      refine ⟨w1, w2, ?_, w4, fun c h1 h2 => ?_⟩
      · rw [w5 27 (by decide) (by decide), sR_at, upd_at]; exact g2
      · rw [w5 c h1 (by omega), sR_ne _ _ _ _ (by omega), (x.1 c 4 (by omega)).1]
theorem test_x {P : Nat → Int32} {n L : Nat} {M : Mem} {t : Tk} {c : Nat → Nat} {N : Nat → Nat → Int64} (B : BY P n) (hL : L < 60) (h : GX P n M t) (hN : NX M 0 c N) : ∃ r, f_X8_readTest 0 4 (nI L) M = some r ∧ RwW L M r.2 ∧ (∀ f, testR P n c N t = .inl f → r.1 = 0 ∧ BX r.2 f) ∧ ∀ a, testR P n c N t = .inr a → r.1 = 1 ∧ GX P n r.2 a.1 ∧ RsX (fun b => r.2.1 b 4) L 7 a.2 := by
  have hw : f_X5_word M = some (wdS t) := word_sp h.2.1 h.2.2.1.2.2.1
  -- what comes behind the word
  obtain ⟨M4, e4, f4, g4⟩ := adv_x B (h.W (c := 25) (L := L) (v := wdS t) (by decide))
  have F4 : RwW L M M4 := (RwW.W (by omega)).tr f4.x.rw_
  have v4 : M4.1 25 4 L = wdS t := by rw [(f4.1 25 4 (by decide)).1, sR_at, upd_at]
  have N4 : NX M4 0 c N := F4.wf.N hN
  have e33 : f_X8_readTest_33 0 4 (nI L) (wdS t) M = if wdS t = 26 then f_X8_readTest_84 4 (nI L) (wdS t) M4 else if wdS t = 7 then f_X8_readTest_66 4 (nI L) (wdS t) 0 2 M4 else f_X8_readTest_66 4 (nI L) (wdS t) 0 3 M4 := by
    unfold f_X8_readTest_33
    rw [inb_nI_t hL (by decide), if_pos rfl, nI_clamp (by omega)]
    simp only
    rw [e4, Option.bind_some]
  unfold f_X8_readTest testR
  rw [hw, Option.bind_some, e33]
  by_cases c26 : wdS t = nI 26
  · rw [if_pos (show wdS t = (26 : Int32) from c26), if_pos (show wdS t = (26 : Int32) from c26), if_pos c26]
    unfold f_X8_readTest_84
    rw [if_neg (by rw [c26]; decide)]
    simp only [show (wdS t = (26 : Int32)) = True from eq_true c26, if_true]
    obtain ⟨r, a1, a2, a3, a4⟩ := test84_x (x4 := 26) B hL g4 (fun M t h => rd_num (lo := 0) (hi := 10) B h)
    refine ⟨r, a1, F4.tr a2, fun f ef => ?_, fun a ea => ?_⟩
    · refine a3 f ?_
      cases h1 : cmpR P n (nx P n t) with
      | inl f' => rw [h1] at ef; cases ef; rfl
      | inr x =>
        rw [h1] at ef
        cases h2 : numR P n 0 10 x.1 with
        | inl f' => simp only [bnd, h2] at ef ⊢; cases ef; rfl
        | inr y => simp only [bnd, h2] at ef; cases ef
    · cases h1 : cmpR P n (nx P n t) with
      | inl f' => rw [h1] at ea; cases ea
      | inr x =>
        rw [h1] at ea
        cases h2 : numR P n 0 10 x.1 with
        | inl f' => simp only [bnd, h2] at ea; cases ea
        | inr y =>
          simp only [bnd, h2] at ea
          cases ea
          obtain ⟨w1, w2, w3, w4, w5⟩ := a4 (x.2, y) (by simp only [h1, bnd, h2])
          refine ⟨w1, w2, fun z => absurd rfl z, fun z => absurd z (by decide), fun _ => ⟨fun _ => ⟨?_, w4, w3⟩, fun z => absurd z (show ¬ (0 : Int32) = 1 from by decide), fun z => absurd z (show ¬ (0 : Int32) = 2 from by decide)⟩⟩
          show r.2.1 25 4 L = _
          rw [w5 25 (by decide) (by decide), v4]; exact c26
  · rw [if_neg (show ¬ wdS t = (26 : Int32) from c26), if_neg c26]
    by_cases c7 : wdS t = nI 7
    · rw [if_pos (show wdS t = (7 : Int32) from c7), if_neg (show ¬ wdS t = (26 : Int32) from c26), if_pos (show wdS t = (7 : Int32) from c7), if_pos c7]
      unfold f_X8_readTest_66
      refine chn (known_y (k := 0) (q := 2) B g4 N4 (by decide)) (fun M' f eo fx bx => ?_) (fun q i eo x g => ?_)
      · rw [eo]
        exact ⟨F4.tr fx.rw_, fun f' e => by cases e; exact ⟨rfl, bx⟩, fun x e => by cases e⟩
      obtain ⟨g1, g2, g3⟩ := g
      rw [inb_nI_t hL (by decide), if_pos rfl, nI_clamp (by omega), eo]
      unfold f_X8_readTest_84
      rw [if_pos (show wdS t = (7 : Int32) from c7)]
      refine ⟨_, rfl, (F4.tr x.rw_).tr (RwW.W (by omega)), fun f e => (by cases e), fun a e => ?_⟩
      cases e
      refine ⟨rfl, g1.W (by decide), fun z => absurd rfl z, fun z => absurd z (by decide), fun _ => ⟨fun z => absurd z (show ¬ (1 : Int32) = 0 from by decide), fun _ => ⟨?_, ?_⟩, fun z => absurd z (show ¬ (1 : Int32) = 2 from by decide)⟩⟩
      · show (sR q.2 26 4 _).1 25 4 L = _
        rw [sR_ne _ _ _ _ (by decide), (x.1 25 4 (by decide)).1, v4]; exact c7
      · show (sR q.2 26 4 _).1 26 4 L = _
        rw [sR_at, upd_at]; exact g2
    · rw [if_neg (show ¬ wdS t = (7 : Int32) from c7), if_neg (show ¬ wdS t = (26 : Int32) from c26), if_neg (show ¬ wdS t = (7 : Int32) from c7), if_neg c7]
      by_cases c11 : wdS t = nI 11
      · rw [if_pos (show wdS t = (11 : Int32) from c11), if_pos c11]
        unfold f_X8_readTest_66
        refine chn (known_y (k := 0) (q := 3) B g4 N4 (by decide)) (fun M' f eo fx bx => ?_) (fun q i eo x g => ?_)
        · rw [eo]
          exact ⟨F4.tr fx.rw_, fun f' e => by cases e; exact ⟨rfl, bx⟩, fun x e => by cases e⟩
        obtain ⟨g1, g2, g3⟩ := g
        rw [inb_nI_t hL (by decide), if_pos rfl, nI_clamp (by omega), eo]
        have F5 : RwW L M (sR q.2 26 4 (upd (q.2.1 26 4) L (q.2.1 30 0 9))) := (F4.tr x.rw_).tr (RwW.W (by omega))
        unfold f_X8_readTest_84
        simp only [show (wdS t = (7 : Int32)) = False from eq_false c7, show (wdS t = (26 : Int32)) = False from eq_false c26, if_false]
        obtain ⟨r, a1, a2, a3, a4⟩ := test84_x (x4 := 11) B hL (g1.W (c := 26) (L := L) (v := q.2.1 30 0 9) (by decide)) (fun M t h => rd_eith (hi := 9999) B h)
        refine ⟨r, a1, F5.tr a2, fun f ef => ?_, fun a ea => ?_⟩
        · refine a3 f ?_
          cases h1 : cmpR P n (nx P n (nx P n t)) with
          | inl f' => simp only [bnd, h1] at ef ⊢; cases ef; rfl
          | inr x =>
            cases h2 : eithR P n 9999 x.1 with
            | inl f' => simp only [bnd, h1, h2] at ef ⊢; cases ef; rfl
            | inr y => simp only [bnd, h1, h2] at ef; cases ef
        · cases h1 : cmpR P n (nx P n (nx P n t)) with
          | inl f' => simp only [bnd, h1] at ea; cases ea
          | inr x' =>
            cases h2 : eithR P n 9999 x'.1 with
            | inl f' => simp only [bnd, h1, h2] at ea; cases ea
            | inr y =>
              simp only [bnd, h1, h2] at ea
              cases ea
              obtain ⟨w1, w2, w3, w4, w5⟩ := a4 (x'.2, y) (by simp only [h1, bnd, h2])
              refine ⟨w1, w2, fun z => absurd rfl z, fun z => absurd z (by decide), fun _ => ⟨fun z => absurd z (show ¬ (2 : Int32) = 0 from by decide), fun z => absurd z (show ¬ (2 : Int32) = 1 from by decide), fun _ => ⟨?_, ?_, w4, w3⟩⟩⟩
              · show r.2.1 25 4 L = _
                rw [w5 25 (by decide) (by decide), sR_ne _ _ _ _ (by decide), (x.1 25 4 (by decide)).1, v4]; exact c11
              · show r.2.1 26 4 L = _
                rw [w5 26 (by decide) (by decide), sR_at, upd_at]; exact g2
      · rw [if_neg (show ¬ wdS t = (11 : Int32) from c11), if_neg c11]
        obtain ⟨M', a1, a2, a3⟩ := fail_b (why := 2) h.2.2.2 h.2.1 h.2.2.1.2.2.1 (by decide)
        rw [a1]
        exact ⟨_, rfl, a2.rw_, fun f e => by cases e; exact ⟨rfl, a3⟩, fun a e => by cases e⟩
theorem rest_x {P : Nat → Int32} {n L k : Nat} {M : Mem} {t : Tk} {c : Nat → Nat} {N : Nat → Nat → Int64} (B : BY P n) (hL : L < 60) (h : GX P n M t) (hN : NX M 0 c N) (h6 : M.1 23 4 6 = nI (L + 1)) (hk : k < 10) (h24 : M.1 24 4 L = nI (codeW k)) : ∃ r, f_X8_readRest 0 4 M = some r ∧ RwW L M r.2 ∧ (∀ f, restR P n c N k t = .inl f → r.1 = 0 ∧ BX r.2 f) ∧ ∀ a, restR P n c N k t = .inr a → r.1 = 1 ∧ GX P n r.2 a.1 ∧ RsX (fun b => r.2.1 b 4) L k a.2 := by
  unfold f_X8_readRest
  simp only
  rw [h6, show nI (L + 1) - (1 : Int32) = nI L from sub_nI (a := L + 1) (b := 1) (by omega), inb_nI_t hL (by decide), if_pos rfl, nI_clamp (by omega), h24]
  have kno : ∀ q v, q < 4 → nI q = v → ¬ codeW k = 23 → codeW k < 30 → ∃ r, ((f_X5_needKnown 0 v M).bind fun q => f_X8_readRest_126 4 (nI L) q.1 q.2) = some r ∧ RwW L M r.2 ∧ (∀ f, seeR c N q t = .inl f → r.1 = 0 ∧ BX r.2 f) ∧ ∀ i, seeR c N q t = .inr i → r.1 = 1 ∧ GX P n r.2 (nx P n t) ∧ r.2.1 25 4 L = nI i := fun q v hq ev h1 h2 => by
    rw [← ev]
    exact c126 hL (rd_known B h hN hq) (by rw [h24, show (23 : Int32) = nI 23 from rfl, eq_nI (by omega) (by decide)]; exact h1)
  have num : ¬ codeW k = 23 → codeW k < 30 → ∃ r, ((f_X5_needNumber 1 99 M).bind fun q => f_X8_readRest_126 4 (nI L) q.1 q.2) = some r ∧ RwW L M r.2 ∧ (∀ f, numR P n 1 99 t = .inl f → r.1 = 0 ∧ BX r.2 f) ∧ ∀ i, numR P n 1 99 t = .inr i → r.1 = 1 ∧ GX P n r.2 i.1 ∧ r.2.1 25 4 L = i.2 := fun h1 h2 =>
    c126 hL (rd_num B h) (by rw [h24, show (23 : Int32) = nI 23 from rfl, eq_nI (by omega) (by decide)]; exact h1)
  have one : ¬ codeW k = 23 → codeW k < 30 → ∃ r, f_X8_readRest_126 4 (nI L) 1 M = some r ∧ RwW L M r.2 ∧ r.1 = 1 ∧ GX P n r.2 t := fun h1 h2 =>
    c126_1 hL h (by rw [h24, show (23 : Int32) = nI 23 from rfl, eq_nI (by omega) (by decide)]; exact h1)
  have sk : ∀ (q : Nat) (r : Int32 × Mem), (k = 0 ∨ k = 3 ∨ k = 4) → RwW L M r.2 → (∀ f, seeR c N q t = .inl f → r.1 = 0 ∧ BX r.2 f) → (∀ i, seeR c N q t = .inr i → r.1 = 1 ∧ GX P n r.2 (nx P n t) ∧ r.2.1 25 4 L = nI i) → RwW L M r.2 ∧ (∀ f, (bnd (seeR c N q t) fun i => (.inr (nx P n t, nI i, 0, 0, 0) : Ft ⊕ (Tk × Rs))) = .inl f → r.1 = 0 ∧ BX r.2 f) ∧ ∀ a, (bnd (seeR c N q t) fun i => (.inr (nx P n t, nI i, 0, 0, 0) : Ft ⊕ (Tk × Rs))) = .inr a → r.1 = 1 ∧ GX P n r.2 a.1 ∧ RsX (fun b => r.2.1 b 4) L k a.2 := by
    intro q r hk' a2 a3 a4
    refine ⟨a2, fun f ef => ?_, fun a ea => ?_⟩
    · cases h1 : seeR c N q t with
      | inl f' => simp only [bnd, h1] at ef; cases ef; exact a3 f h1
      | inr i => simp only [bnd, h1] at ef; cases ef
    · cases h1 : seeR c N q t with
      | inl f' => simp only [bnd, h1] at ea; cases ea
      | inr i =>
        simp only [bnd, h1] at ea
        cases ea
        obtain ⟨w1, w2, w3⟩ := a4 i h1
        exact ⟨w1, w2, fun _ _ _ _ => w3, fun z => absurd z (by omega), fun z => absurd z (by omega)⟩
  have nk : ∀ (r : Int32 × Mem), (k = 1 ∨ k = 8) → RwW L M r.2 → (∀ f, numR P n 1 99 t = .inl f → r.1 = 0 ∧ BX r.2 f) → (∀ i, numR P n 1 99 t = .inr i → r.1 = 1 ∧ GX P n r.2 i.1 ∧ r.2.1 25 4 L = i.2) → RwW L M r.2 ∧ (∀ f, (bnd (numR P n 1 99 t) fun a => (.inr (a.1, a.2, 0, 0, 0) : Ft ⊕ (Tk × Rs))) = .inl f → r.1 = 0 ∧ BX r.2 f) ∧ ∀ a, (bnd (numR P n 1 99 t) fun a => (.inr (a.1, a.2, 0, 0, 0) : Ft ⊕ (Tk × Rs))) = .inr a → r.1 = 1 ∧ GX P n r.2 a.1 ∧ RsX (fun b => r.2.1 b 4) L k a.2 := by
    intro r hk' a2 a3 a4
    refine ⟨a2, fun f ef => ?_, fun a ea => ?_⟩
    · cases h1 : numR P n 1 99 t with
      | inl f' => simp only [bnd, h1] at ef; cases ef; exact a3 f h1
      | inr i => simp only [bnd, h1] at ef; cases ef
    · cases h1 : numR P n 1 99 t with
      | inl f' => simp only [bnd, h1] at ea; cases ea
      | inr i =>
        simp only [bnd, h1] at ea
        cases ea
        obtain ⟨w1, w2, w3⟩ := a4 i h1
        exact ⟨w1, w2, fun _ _ _ _ => w3, fun z => absurd z (by omega), fun z => absurd z (by omega)⟩
  have ok : ∀ (r : Int32 × Mem), (k = 2 ∨ k = 6 ∨ k = 9) → RwW L M r.2 → r.1 = 1 → GX P n r.2 t → RwW L M r.2 ∧ (∀ f, (.inr (t, 0, 0, 0, 0) : Ft ⊕ (Tk × Rs)) = .inl f → r.1 = 0 ∧ BX r.2 f) ∧ ∀ a, (.inr (t, 0, 0, 0, 0) : Ft ⊕ (Tk × Rs)) = .inr a → r.1 = 1 ∧ GX P n r.2 a.1 ∧ RsX (fun b => r.2.1 b 4) L k a.2 := by
    intro r hk' a2 w1 w2
    refine ⟨a2, fun f ef => (by cases ef), fun a ea => ?_⟩
    cases ea
    exact ⟨w1, w2, fun _ z1 z2 z3 => by omega, fun z => absurd z (by omega), fun z => absurd z (by omega)⟩
  match k, hk with
  | 0, _ =>
    rw [if_pos (by decide)]
    obtain ⟨r, a1, a2, a3, a4⟩ := kno 1 1 (by decide) rfl (by decide) (by decide)
    exact ⟨r, a1, sk 1 r (by decide) a2 a3 a4⟩
  | 1, _ =>
    rw [if_neg (by decide), if_pos (by decide)]
    obtain ⟨r, a1, a2, a3, a4⟩ := num (by decide) (by decide)
    exact ⟨r, a1, nk r (by decide) a2 a3 a4⟩
  | 2, _ =>
    rw [if_neg (by decide), if_neg (by decide), if_pos (by decide)]
    obtain ⟨r, a1, a2, a3, a4⟩ := one (by decide) (by decide)
    exact ⟨r, a1, ok r (by decide) a2 a3 a4⟩
  | 3, _ =>
    rw [if_neg (by decide), if_neg (by decide), if_neg (by decide), if_pos (by decide)]
    obtain ⟨r, a1, a2, a3, a4⟩ := kno 0 0 (by decide) rfl (by decide) (by decide)
    exact ⟨r, a1, sk 0 r (by decide) a2 a3 a4⟩
  | 4, _ =>
    rw [if_neg (by decide), if_neg (by decide), if_neg (by decide), if_neg (by decide), if_pos (by decide)]
    obtain ⟨r, a1, a2, a3, a4⟩ := kno 0 0 (by decide) rfl (by decide) (by decide)
    exact ⟨r, a1, sk 0 r (by decide) a2 a3 a4⟩
  | 5, _ =>
    rw [if_neg (by decide), if_neg (by decide), if_neg (by decide), if_neg (by decide), if_neg (by decide), if_pos (by decide)]
    obtain ⟨r, a1, a2, a3, a4⟩ := c126_5 B hL (rd_known (q := 0) B h hN (by decide)) h24
    refine ⟨r, a1, a2, fun f ef => ?_, fun a ea => ?_⟩
    · have ef : (bnd (seeR c N 0 t) fun i => (.inr (if wdS (nx P n t) = nI 2 then nx P n (nx P n t) else nx P n t, nI i, (if wdS (nx P n t) = nI 2 then -1 else 1), 0, 0) : Ft ⊕ (Tk × Rs))) = .inl f := ef
      cases h1 : seeR c N 0 t with
      | inl f' => simp only [bnd, h1] at ef; cases ef; exact a3 f h1
      | inr i => simp only [bnd, h1] at ef; cases ef
    · have ea : (bnd (seeR c N 0 t) fun i => (.inr (if wdS (nx P n t) = nI 2 then nx P n (nx P n t) else nx P n t, nI i, (if wdS (nx P n t) = nI 2 then -1 else 1), 0, 0) : Ft ⊕ (Tk × Rs))) = .inr a := ea
      cases h1 : seeR c N 0 t with
      | inl f' => simp only [bnd, h1] at ea; cases ea
      | inr i =>
        simp only [bnd, h1] at ea
        cases ea
        obtain ⟨w1, w2, w3, w4⟩ := a4 i h1
        exact ⟨w1, w2, fun _ _ _ _ => w3, fun _ => w4, fun z => absurd z (by decide)⟩
  | 6, _ =>
    rw [if_neg (by decide), if_neg (by decide), if_neg (by decide), if_neg (by decide), if_neg (by decide), if_neg (by decide), if_pos (by decide)]
    obtain ⟨r, a1, a2, a3, a4⟩ := one (by decide) (by decide)
    exact ⟨r, a1, ok r (by decide) a2 a3 a4⟩
  | 7, _ =>
    rw [if_neg (by decide), if_neg (by decide), if_neg (by decide), if_neg (by decide), if_neg (by decide), if_neg (by decide), if_neg (by decide), if_pos (by decide)]
    obtain ⟨r, a1, a2, a3, a4⟩ := test_x B hL h hN
    rw [a1, Option.bind_some]
    cases h1 : testR P n c N t with
    | inl f =>
      obtain ⟨y1, y2⟩ := a3 f h1
      rw [if_pos (by rw [y1]; exact isB_0)]
      refine ⟨_, rfl, a2, fun f' ef => ?_, fun a ea => ?_⟩
      · have ef : testR P n c N t = .inl f' := ef
        exact a3 f' ef
      · have ea : testR P n c N t = .inr a := ea
        exact a4 a ea
    | inr a =>
      rw [if_pos (by rw [(a4 a h1).1]; exact isB_1)]
      refine ⟨_, rfl, a2, fun f' ef => ?_, fun a ea => ?_⟩
      · have ef : testR P n c N t = .inl f' := ef
        exact a3 f' ef
      · have ea : testR P n c N t = .inr a := ea
        exact a4 a ea
  | 8, _ =>
    rw [if_neg (by decide), if_neg (by decide), if_neg (by decide), if_neg (by decide), if_neg (by decide), if_neg (by decide), if_neg (by decide), if_neg (by decide), if_neg (by decide), if_pos (by decide)]
    obtain ⟨r, a1, a2, a3, a4⟩ := num (by decide) (by decide)
    exact ⟨r, a1, nk r (by decide) a2 a3 a4⟩
  | 9, _ =>
    rw [if_neg (by decide), if_neg (by decide), if_neg (by decide), if_neg (by decide), if_neg (by decide), if_neg (by decide), if_neg (by decide), if_neg (by decide), if_neg (by decide), if_neg (by decide)]
    obtain ⟨r, a1, a2, a3, a4⟩ := one (by decide) (by decide)
    exact ⟨r, a1, ok r (by decide) a2 a3 a4⟩
