/-! ===== the reference reads a test, the rest of a step ===== -/
theorem tst_all : ∀ j, j < 30 → tstV (nI j) = (if j = 26 then 0 else if j = 7 then 1 else if j = 11 then 2 else -1) := by decide +kernel
theorem tst_v {t : Tk} : tstV (wdS t) = (if wdS t = nI 26 then 0 else if wdS t = nI 7 then 1 else if wdS t = nI 11 then 2 else -1) := rfl
theorem test_m {P : Nat → Int32} {n w : Nat} {M : Mem} {c : Nat → Nat} {N : Nat → Nat → Int64} {t : Tk} (B : BY P n) (h : GM P n M t) (hN : NXm M 0 c N) (hw0 : 2100 ≤ w) (hw : w + 8 < 2375) : ∃ M', f_X11_readTest (nI w) M = some M' ∧ QFr w M M' ∧ (∀ f, testR P n c N t = .inl f → BM M' f) ∧ ∀ a, testR P n c N t = .inr a → GM P n M' a.1 ∧ RsM (M'.1 55 0) w 7 a.2 := by
  unfold f_X11_readTest
  rw [r_testWord h.2.1 h.2.2.1, Option.bind_some, tst_v]
  have a6 : nI w + (6 : Int32) = nI (w + 6) := add_w w 6
  have a1 : nI w + (1 : Int32) = nI (w + 1) := add_w w 1
  have i6 : inb (nI (w + 6)) 2375 = true := inb_nI_t (show w + 6 < 2375 by omega) (by decide)
  have i1 : inb (nI (w + 1)) 2375 = true := inb_nI_t (show w + 1 < 2375 by omega) (by decide)
  have k6 : (nI (w + 6)).toNatClampNeg = w + 6 := nI_clamp (by omega)
  have k1 : (nI (w + 1)).toNatClampNeg = w + 1 := nI_clamp (by omega)
  -- the word is taken
  have good : ∀ x2 : Int32, ∃ M4, (∀ X, f_X11_readTest_15 (nI w) x2 1 M = X → (if 0 < x2 then (f_X11_readTold 0 (x2 + 1) M4).bind fun q17 => f_X11_readTest_48 (nI w) x2 (sR q17.2 55 0 (upd (q17.2.1 55 0) (w + 1) q17.1)) else f_X11_readTest_48 (nI w) x2 M4) = X) ∧ QFr w M M4 ∧ GM P n M4 (nx P n t) ∧ M4.1 55 0 (w + 6) = x2 := by
    intro x2
    obtain ⟨M2, e2, y2, d2⟩ := must_m (r := 1) B h
    rw [if_neg (show ¬ (1 : Int32) = 0 from by decide)] at d2
    refine ⟨sR M2 55 0 (upd (M2.1 55 0) (w + 6) x2), fun X e => ?_, y2.q.tr (QFr.W (by omega)), d2.C, by rw [sR_at, upd_at]⟩
    unfold f_X11_readTest_15 at e
    rw [e2, Option.bind_some, a6, i6, if_pos rfl, k6] at e
    simp only [a1, i1, k1, if_true] at e
    exact e
  unfold testR
  by_cases c26 : wdS t = nI 26
  · rw [if_pos c26, if_pos c26, if_neg (show ¬ (0 : Int32) < 0 from by decide)]
    obtain ⟨M4, e4, F4, g4, v6⟩ := good 0
    have e4 := e4 _ rfl
    rw [if_neg (show ¬ (0 : Int32) < 0 from by decide)] at e4
    obtain ⟨M', b1, b2, b3, b4⟩ := t48_m (x2 := 0) (R := numR P n 0 10) B g4 hw (Or.inl ⟨rfl, fun _ => rfl⟩) (fun z => sg_tok (P := P) (n := n) (p := t.2.1) z)
    rw [← e4]
    refine ⟨M', b1, F4.tr b2, fun f ef => ?_, fun a ea => ?_⟩
    · refine b3 f ?_
      cases h1 : cmpR P n (nx P n t) with
      | inl f' => simp only [bnd, h1] at ef ⊢; cases ef; rfl
      | inr x =>
        cases h2 : numR P n 0 10 x.1 with
        | inl f' => simp only [bnd, h1, h2] at ef ⊢; cases ef; rfl
        | inr y => simp only [bnd, h1, h2] at ef; cases ef
    · cases h1 : cmpR P n (nx P n t) with
      | inl f' => simp only [bnd, h1] at ea; cases ea
      | inr x =>
        cases h2 : numR P n 0 10 x.1 with
        | inl f' => simp only [bnd, h1, h2] at ea; cases ea
        | inr y =>
          simp only [bnd, h1, h2] at ea
          cases ea
          obtain ⟨w1, w2, w3, w4⟩ := b4 (x.2, y) (by simp only [bnd, h1, h2])
          refine ⟨w1, fun z => absurd rfl z, fun z => absurd z (by decide), fun _ => ⟨?_, fun _ => ⟨w3, w2⟩, fun z => absurd z (show ¬ (0 : Int32) = 1 from by decide), fun z => absurd z (show ¬ (0 : Int32) = 2 from by decide)⟩⟩
          rw [w4 (w + 6) (by omega) (by omega)]; exact v6
  rw [if_neg c26, if_neg c26]
  by_cases c7 : wdS t = nI 7
  · rw [if_pos c7, if_pos c7, if_neg (show ¬ (1 : Int32) < 0 from by decide)]
    obtain ⟨M4, e4, F4, g4, v6⟩ := good 1
    have e4 := e4 _ rfl
    rw [if_pos (show (0 : Int32) < 1 from by decide)] at e4
    rw [← e4]
    obtain ⟨q, e, y, b, z⟩ := rm_told (q := 2) B g4 (F4.N hw0 hN) (by decide)
    rw [show f_X11_readTold (0 : Int32) ((1 : Int32) + 1) M4 = some q from e, Option.bind_some]
    have F5 : QFr w M (sR q.2 55 0 (upd (q.2.1 55 0) (w + 1) q.1)) := (F4.tr y.q).tr (QFr.W (by omega))
    have out : f_X11_readTest_48 (nI w) 1 (sR q.2 55 0 (upd (q.2.1 55 0) (w + 1) q.1)) = some (sR q.2 55 0 (upd (q.2.1 55 0) (w + 1) q.1)) := by
      unfold f_X11_readTest_48
      by_cases cb : 0 < (sR q.2 55 0 (upd (q.2.1 55 0) (w + 1) q.1)).1 50 0 12
      · rw [if_pos cb]
      · rw [if_neg cb, if_pos rfl]
    rw [out]
    refine ⟨_, rfl, F5, fun f ef => ?_, fun a ea => ?_⟩
    · cases h1 : seeR c N 2 (nx P n t) with
      | inl f' => simp only [bnd, h1] at ef; cases ef; exact (b f h1).C
      | inr i => simp only [bnd, h1] at ef; cases ef
    · cases h1 : seeR c N 2 (nx P n t) with
      | inl f' => simp only [bnd, h1] at ea; cases ea
      | inr i =>
        simp only [bnd, h1] at ea
        cases ea
        obtain ⟨z1, z2⟩ := z i h1
        refine ⟨z1.C, fun z => absurd rfl z, fun z => absurd z (by decide), fun _ => ⟨?_, fun z => absurd z (show ¬ (1 : Int32) = 0 from by decide), fun _ => ?_, fun z => absurd z (show ¬ (1 : Int32) = 2 from by decide)⟩⟩
        · rw [sR_at, upd_ne _ _ (by omega), (y.1 55 0 (by decide)).1]; exact v6
        · rw [sR_at, upd_at]; exact z2
  rw [if_neg c7, if_neg c7]
  by_cases c11 : wdS t = nI 11
  · rw [if_pos c11, if_pos c11, if_neg (show ¬ (2 : Int32) < 0 from by decide)]
    obtain ⟨M4, e4, F4, g4, v6⟩ := good 2
    have e4 := e4 _ rfl
    rw [if_pos (show (0 : Int32) < 2 from by decide)] at e4
    rw [← e4]
    obtain ⟨q, e, y, b, z⟩ := rm_told (q := 3) B g4 (F4.N hw0 hN) (by decide)
    rw [show f_X11_readTold (0 : Int32) ((2 : Int32) + 1) M4 = some q from e, Option.bind_some]
    have F5 : QFr w M (sR q.2 55 0 (upd (q.2.1 55 0) (w + 1) q.1)) := (F4.tr y.q).tr (QFr.W (by omega))
    cases h0 : seeR c N 3 (nx P n t) with
    | inl f =>
      have bm := (b f h0).C (g := upd (q.2.1 55 0) (w + 1) q.1)
      refine ⟨sR q.2 55 0 (upd (q.2.1 55 0) (w + 1) q.1), ?_, F5, fun f' ef => ?_, fun a ea => ?_⟩
      · unfold f_X11_readTest_48
        rw [if_pos (by rw [bm.2.1]; exact bm.1)]
      · simp only [bnd] at ef; cases ef; exact bm
      · simp only [bnd] at ea; cases ea
    | inr i =>
      obtain ⟨z1, z2⟩ := z i h0
      have g5 := z1.C (f := upd (q.2.1 55 0) (w + 1) q.1)
      have v51 : (sR q.2 55 0 (upd (q.2.1 55 0) (w + 1) q.1)).1 55 0 (w + 1) = nI i := by rw [sR_at, upd_at]; exact z2
      have v56 : (sR q.2 55 0 (upd (q.2.1 55 0) (w + 1) q.1)).1 55 0 (w + 6) = 2 := by rw [sR_at, upd_ne _ _ (by omega), (y.1 55 0 (by decide)).1]; exact v6
      obtain ⟨M', b1, b2, b3, b4⟩ := t48_m (x2 := 2) (R := eithR P n 9999) B g5 hw (Or.inr ⟨rfl, fun _ => rfl⟩) (fun z => sg_tok (P := P) (n := n) (p := (nx P n t).2.1) z)
      refine ⟨M', b1, F5.tr b2, fun f ef => ?_, fun a ea => ?_⟩
      · refine b3 f ?_
        cases h1 : cmpR P n (nx P n (nx P n t)) with
        | inl f' => simp only [bnd, h1] at ef ⊢; cases ef; rfl
        | inr x =>
          cases h2 : eithR P n 9999 x.1 with
          | inl f' => simp only [bnd, h1, h2] at ef ⊢; cases ef; rfl
          | inr y => simp only [bnd, h1, h2] at ef; cases ef
      · cases h1 : cmpR P n (nx P n (nx P n t)) with
        | inl f' => simp only [bnd, h1] at ea; cases ea
        | inr x =>
          cases h2 : eithR P n 9999 x.1 with
          | inl f' => simp only [bnd, h1, h2] at ea; cases ea
          | inr y =>
            simp only [bnd, h1, h2] at ea
            cases ea
            obtain ⟨w1, w2, w3, w4⟩ := b4 (x.2, y) (by simp only [bnd, h1, h2])
            refine ⟨w1, fun z => absurd rfl z, fun z => absurd z (by decide), fun _ => ⟨?_, fun z => absurd z (show ¬ (2 : Int32) = 0 from by decide), fun z => absurd z (show ¬ (2 : Int32) = 1 from by decide), fun _ => ⟨?_, w3, w2⟩⟩⟩
            · rw [w4 (w + 6) (by omega) (by omega)]; exact v56
            · rw [w4 (w + 1) (by omega) (by omega)]; exact v51
  rw [if_neg c11, if_neg c11, if_pos (show (-1 : Int32) < 0 from by decide)]
  obtain ⟨M2, e2, y2, d2⟩ := must_m (r := 0) B h
  rw [if_pos (show (0 : Int32) = 0 from rfl)] at d2
  unfold f_X11_readTest_15
  rw [e2, Option.bind_some, a6, i6, if_pos rfl, k6, if_neg (show ¬ (0 : Int32) < -1 from by decide)]
  have bm := d2.C (g := upd (M2.1 55 0) (w + 6) (-1))
  unfold f_X11_readTest_48
  rw [if_pos (by rw [bm.2.1]; exact bm.1)]
  refine ⟨_, rfl, y2.q.tr (QFr.W (by omega)), fun f ef => ?_, fun a ea => by cases ea⟩
  cases ef
  exact bm
theorem mrest_m {P : Nat → Int32} {n w k : Nat} {M : Mem} {c : Nat → Nat} {N : Nat → Nat → Int64} {t : Tk} (B : BY P n) (h : GM P n M t) (hN : NXm M 0 c N) (hw0 : 2100 ≤ w) (hw : w + 8 < 2375) (hk : k < 10) (hc : M.1 55 0 w = nI k) : ∃ M', f_X11_readRest (nI w) M = some M' ∧ QFr w M M' ∧ (∀ f, restR P n c N k t = .inl f → BM M' f) ∧ ∀ a, restR P n c N k t = .inr a → GM P n M' a.1 ∧ RsM (M'.1 55 0) w k a.2 := by
  unfold f_X11_readRest
  rw [inb_nI_t (show w < 2375 by omega) (by decide), if_pos rfl, nI_clamp (by omega), hc, show nI w + (1 : Int32) = nI (w + 1) from add_w w 1]
  simp only
  have sk : ∀ (q : Nat) (M' : Mem), (k = 0 ∨ k = 3 ∨ k = 4) → QFr w M M' → (∀ f, seeR c N q t = .inl f → BM M' f) → (∀ i, seeR c N q t = .inr i → GM P n M' (nx P n t) ∧ M'.1 55 0 (w + 1) = nI i) → QFr w M M' ∧ (∀ f, (bnd (seeR c N q t) fun i => (.inr (nx P n t, nI i, 0, 0, 0) : Ft ⊕ (Tk × Rs))) = .inl f → BM M' f) ∧ ∀ a, (bnd (seeR c N q t) fun i => (.inr (nx P n t, nI i, 0, 0, 0) : Ft ⊕ (Tk × Rs))) = .inr a → GM P n M' a.1 ∧ RsM (M'.1 55 0) w k a.2 := by
    intro q M' hk' a2 a3 a4
    refine ⟨a2, fun f ef => ?_, fun a ea => ?_⟩
    · cases h1 : seeR c N q t with
      | inl f' => simp only [bnd, h1] at ef; cases ef; exact a3 f h1
      | inr i => simp only [bnd, h1] at ef; cases ef
    · cases h1 : seeR c N q t with
      | inl f' => simp only [bnd, h1] at ea; cases ea
      | inr i =>
        simp only [bnd, h1] at ea
        cases ea
        obtain ⟨w2, w3⟩ := a4 i h1
        exact ⟨w2, fun _ _ _ _ => w3, fun z => absurd z (by omega), fun z => absurd z (by omega)⟩
  have nk : (k = 1 ∨ k = 8) → ∃ M', ((f_X11_count 1 99 M).bind fun q => if inb (nI (w + 1)) 2375 = true then some (sR q.2 55 0 (upd (q.2.1 55 0) (nI (w + 1)).toNatClampNeg q.1)) else none) = some M' ∧ QFr w M M' ∧ (∀ f, (bnd (numR P n 1 99 t) fun a => (.inr (a.1, a.2, 0, 0, 0) : Ft ⊕ (Tk × Rs))) = .inl f → BM M' f) ∧ ∀ a, (bnd (numR P n 1 99 t) fun a => (.inr (a.1, a.2, 0, 0, 0) : Ft ⊕ (Tk × Rs))) = .inr a → GM P n M' a.1 ∧ RsM (M'.1 55 0) w k a.2 := by
    intro hk'
    obtain ⟨M', b1, a2, a3, a4⟩ := lay1 (w := w) (p := w + 1) (by omega) hw (rm_num (lo := 1) (hi := 99) B h)
    refine ⟨M', b1, a2, fun f ef => ?_, fun a ea => ?_⟩
    · cases h1 : numR P n 1 99 t with
      | inl f' => simp only [bnd, h1] at ef; cases ef; exact a3 f h1
      | inr i => simp only [bnd, h1] at ef; cases ef
    · cases h1 : numR P n 1 99 t with
      | inl f' => simp only [bnd, h1] at ea; cases ea
      | inr i =>
        simp only [bnd, h1] at ea
        cases ea
        obtain ⟨w2, w3, -⟩ := a4 i h1
        exact ⟨w2, fun _ _ _ _ => w3, fun z => absurd z (by omega), fun z => absurd z (by omega)⟩
  have ok : (k = 2 ∨ k = 6 ∨ k = 9) → ∃ M', some M = some M' ∧ QFr w M M' ∧ (∀ f, (.inr (t, 0, 0, 0, 0) : Ft ⊕ (Tk × Rs)) = .inl f → BM M' f) ∧ ∀ a, (.inr (t, 0, 0, 0, 0) : Ft ⊕ (Tk × Rs)) = .inr a → GM P n M' a.1 ∧ RsM (M'.1 55 0) w k a.2 := by
    intro hk'
    refine ⟨M, rfl, QFr.rf, fun f ef => (by cases ef), fun a ea => ?_⟩
    cases ea
    exact ⟨h, fun _ z1 z2 z3 => by omega, fun z => absurd z (by omega), fun z => absurd z (by omega)⟩
  match k, hk with
  | 0, _ =>
    rw [if_pos (by decide)]
    obtain ⟨M', b1, a2, a3, a4⟩ := lay1 (w := w) (p := w + 1) (by omega) hw (rm_told (q := 1) B h hN (by decide))
    exact ⟨M', b1, sk 1 M' (by decide) a2 a3 (fun i e => ⟨(a4 i e).1, (a4 i e).2.1⟩)⟩
  | 1, _ =>
    rw [if_neg (by decide), if_pos (by decide)]
    exact nk (by decide)
  | 2, _ =>
    rw [if_neg (by decide), if_neg (by decide), if_neg (by decide), if_neg (by decide), if_neg (by decide), if_neg (by decide), if_neg (by decide)]
    exact ok (by decide)
  | 3, _ =>
    rw [if_neg (by decide), if_neg (by decide), if_neg (by decide), if_neg (by decide), if_pos (by decide)]
    obtain ⟨M', b1, a2, a3, a4⟩ := r86_n (k := 3) B h hN hw (by decide)
    exact ⟨M', b1, sk 0 M' (by decide) a2 a3 a4⟩
  | 4, _ =>
    rw [if_neg (by decide), if_neg (by decide), if_neg (by decide), if_neg (by decide), if_neg (by decide), if_pos (by decide)]
    obtain ⟨M', b1, a2, a3, a4⟩ := r86_n (k := 4) B h hN hw (by decide)
    exact ⟨M', b1, sk 0 M' (by decide) a2 a3 a4⟩
  | 5, _ =>
    rw [if_neg (by decide), if_neg (by decide), if_neg (by decide), if_neg (by decide), if_neg (by decide), if_neg (by decide), if_pos (by decide)]
    obtain ⟨M', b1, a2, a3, a4⟩ := r86_5 B h hN hw
    refine ⟨M', b1, a2, fun f ef => ?_, fun a ea => ?_⟩
    · have ef : (bnd (seeR c N 0 t) fun i => (.inr (if wdS (nx P n t) = nI 2 then nx P n (nx P n t) else nx P n t, nI i, (if wdS (nx P n t) = nI 2 then -1 else 1), 0, 0) : Ft ⊕ (Tk × Rs))) = .inl f := ef
      cases h1 : seeR c N 0 t with
      | inl f' => simp only [bnd, h1] at ef; cases ef; exact a3 f h1
      | inr i => simp only [bnd, h1] at ef; cases ef
    · have ea : (bnd (seeR c N 0 t) fun i => (.inr (if wdS (nx P n t) = nI 2 then nx P n (nx P n t) else nx P n t, nI i, (if wdS (nx P n t) = nI 2 then -1 else 1), 0, 0) : Ft ⊕ (Tk × Rs))) = .inr a := ea
      cases h1 : seeR c N 0 t with
      | inl f' => simp only [bnd, h1] at ea; cases ea
      | inr i =>
        simp only [bnd, h1] at ea
        cases ea
        obtain ⟨w2, w3, w4⟩ := a4 i h1
        exact ⟨w2, fun _ _ _ _ => w3, fun _ => w4, fun z => absurd z (by decide)⟩
  | 6, _ =>
    rw [if_neg (by decide), if_neg (by decide), if_neg (by decide), if_neg (by decide), if_neg (by decide), if_neg (by decide), if_neg (by decide)]
    exact ok (by decide)
  | 7, _ =>
    rw [if_neg (by decide), if_neg (by decide), if_neg (by decide), if_pos (by decide)]
    obtain ⟨M', b1, a2, a3, a4⟩ := test_m B h hN hw0 hw
    rw [b1, Option.bind_some]
    exact ⟨M', rfl, a2, fun f ef => a3 f ef, fun a ea => a4 a ea⟩
  | 8, _ =>
    rw [if_neg (by decide), if_neg (by decide), if_pos (by decide)]
    exact nk (by decide)
  | 9, _ =>
    rw [if_neg (by decide), if_neg (by decide), if_neg (by decide), if_neg (by decide), if_neg (by decide), if_neg (by decide), if_neg (by decide)]
    exact ok (by decide)
