/-! ===== the reference reads the rest of a step of weeks ===== -/
def QFr (w : Nat) (M M' : Mem) : Prop := (∀ c i, ¬ (c = 50 ∧ i = 0) → ¬ (c = 55 ∧ i = 0) → M'.1 c i = M.1 c i) ∧ (∀ c i, ¬ (c = 50 ∧ i = 0) → M'.2 c i = M.2 c i) ∧ (∀ j, ¬ (12 ≤ j ∧ j ≤ 18) → M'.1 50 0 j = M.1 50 0 j) ∧ (∀ j, ¬ j = 19 → M'.2 50 0 j = M.2 50 0 j) ∧ ∀ j, ¬ (j = w + 1 ∨ j = w + 2 ∨ j = w + 6 ∨ j = w + 7) → M'.1 55 0 j = M.1 55 0 j
theorem QFr.rf {w : Nat} {M : Mem} : QFr w M M := ⟨fun _ _ _ _ => rfl, fun _ _ _ => rfl, fun _ _ => rfl, fun _ _ => rfl, fun _ _ => rfl⟩
theorem QFr.tr {w : Nat} {M M1 M2 : Mem} (a : QFr w M M1) (b : QFr w M1 M2) : QFr w M M2 := ⟨fun c i h1 h2 => (b.1 c i h1 h2).trans (a.1 c i h1 h2), fun c i h => (b.2.1 c i h).trans (a.2.1 c i h), fun j h => (b.2.2.1 j h).trans (a.2.2.1 j h), fun j h => (b.2.2.2.1 j h).trans (a.2.2.2.1 j h), fun j h => (b.2.2.2.2 j h).trans (a.2.2.2.2 j h)⟩
theorem YFr.q {w : Nat} {M M' : Mem} (a : YFr M M') : QFr w M M' := ⟨fun c i h _ => (a.1 c i h).1, fun c i h => (a.1 c i h).2, a.2.1, a.2.2, fun j _ => by rw [(a.1 55 0 (by decide)).1]⟩
theorem QFr.W {w p : Nat} {M : Mem} {v : Int32} (hp : p = w + 1 ∨ p = w + 2 ∨ p = w + 6 ∨ p = w + 7) : QFr w M (sR M 55 0 (upd (M.1 55 0) p v)) := ⟨fun c i _ h => sR_ne _ _ _ _ h, fun _ _ _ => rfl, fun j _ => by rw [sR_ne _ _ _ _ (by decide)], fun _ _ => rfl, fun j h => by rw [sR_at, upd_ne _ _ (by omega)]⟩
theorem QFr.N {w : Nat} {M M' : Mem} {c : Nat → Nat} {N : Nat → Nat → Int64} (hw : 2100 ≤ w) (f : QFr w M M') (h : NXm M 0 c N) : NXm M' 0 c N := fun q hq => ⟨by rw [f.2.2.2.2 _ (by omega)]; exact (h q hq).1, (h q hq).2.1, fun i hi => by rw [f.2.1 57 0 (by decide)]; exact (h q hq).2.2 i hi⟩
def RsM (c : Nat → Int32) (w k : Nat) (r : Rs) : Prop := (k ≠ 7 → k ≠ 2 → k ≠ 6 → k ≠ 9 → c (w + 1) = r.1) ∧ (k = 5 → c (w + 2) = r.2.1) ∧ (k = 7 → c (w + 6) = r.2.2.1 ∧ (r.2.2.1 = 0 → c (w + 2) = r.2.1 ∧ c (w + 7) = r.2.2.2) ∧ (r.2.2.1 = 1 → c (w + 1) = r.1) ∧ (r.2.2.1 = 2 → c (w + 1) = r.1 ∧ c (w + 2) = r.2.1 ∧ c (w + 7) = r.2.2.2))
theorem RsM.eq {c c' : Nat → Int32} {w k : Nat} {r : Rs} (e1 : c' (w + 1) = c (w + 1)) (e2 : c' (w + 2) = c (w + 2)) (e6 : c' (w + 6) = c (w + 6)) (e7 : c' (w + 7) = c (w + 7)) (h : RsM c w k r) : RsM c' w k r := by
  unfold RsM at h ⊢
  rw [e1, e2, e6, e7]
  exact h
/-- what a reader of one value says -/
def Rm (P : Nat → Int32) (n : Nat) (M : Mem) {α : Type} (F : Option (Int32 × Mem)) (o : Ft ⊕ α) (g : α → Tk) (v : α → Int32) : Prop := ∃ r, F = some r ∧ YFr M r.2 ∧ (∀ f, o = .inl f → BM r.2 f) ∧ ∀ i, o = .inr i → GM P n r.2 (g i) ∧ r.1 = v i
theorem rm_num {P : Nat → Int32} {n : Nat} {lo hi : Int32} {M : Mem} {t : Tk} (B : BY P n) (h : GM P n M t) : Rm P n M (f_X11_count lo hi M) (numR P n lo hi t) (fun a => a.1) (fun a => a.2) := OMv.y (count_m B h)
theorem rm_eith {P : Nat → Int32} {n : Nat} {hi : Int32} {M : Mem} {t : Tk} (B : BY P n) (h : GM P n M t) : Rm P n M (f_X11_signed hi M) (eithR P n hi t) (fun a => a.1) (fun a => a.2) := OMv.y (signed_m B h)
theorem rm_told {P : Nat → Int32} {n q : Nat} {M : Mem} {c : Nat → Nat} {N : Nat → Nat → Int64} {t : Tk} (B : BY P n) (h : GM P n M t) (hN : NXm M 0 c N) (hq : q < 4) : Rm P n M (f_X11_readTold 0 (nI q) M) (seeR c N q t) (fun _ => nx P n t) (fun i => nI i) := by
  obtain ⟨r, a, y, b, w⟩ := rtold_y (x := 0) B h hN (by decide) hq
  exact ⟨r, a, y, b, fun i e => ⟨(w i e).1, (w i e).2.1⟩⟩
/-- one value laid -/
theorem lay1 {P : Nat → Int32} {n w p : Nat} {M : Mem} {α : Type} {F : Option (Int32 × Mem)} {o : Ft ⊕ α} {g : α → Tk} {v : α → Int32} (hp : p = w + 1 ∨ p = w + 2 ∨ p = w + 6 ∨ p = w + 7) (hw : w + 8 < 2375) (hF : Rm P n M F o g v) : ∃ M', (F.bind fun q => if inb (nI p) 2375 = true then some (sR q.2 55 0 (upd (q.2.1 55 0) (nI p).toNatClampNeg q.1)) else none) = some M' ∧ QFr w M M' ∧ (∀ f, o = .inl f → BM M' f) ∧ ∀ i, o = .inr i → GM P n M' (g i) ∧ M'.1 55 0 p = v i ∧ ∀ j, ¬ j = p → M'.1 55 0 j = M.1 55 0 j := by
  obtain ⟨q, e, y, b, z⟩ := hF
  rw [e, Option.bind_some, inb_nI_t (show p < 2375 by omega) (by decide), if_pos rfl, nI_clamp (by omega)]
  refine ⟨_, rfl, y.q.tr (QFr.W hp), fun f ef => (b f ef).C, fun i ei => ?_⟩
  obtain ⟨z1, z2⟩ := z i ei
  refine ⟨z1.C, ?_, fun j hj => ?_⟩
  · rw [sR_at, upd_at]; exact z2
  · rw [sR_at, upd_ne _ _ hj, (y.1 55 0 (by decide)).1]
theorem add_w (w a : Nat) : nI w + nI a = nI (w + a) := add_nI w a
theorem neg1_lt : (-1 : Int32) < 0 := by decide
theorem one_nlt : ¬ (1 : Int32) < 0 := by decide
theorem r86_n {P : Nat → Int32} {n w k : Nat} {M : Mem} {c : Nat → Nat} {N : Nat → Nat → Int64} {t : Tk} (B : BY P n) (h : GM P n M t) (hN : NXm M 0 c N) (hw : w + 8 < 2375) (hk : k = 3 ∨ k = 4) : ∃ M', f_X11_readRest_86 (nI w) (nI k) M = some M' ∧ QFr w M M' ∧ (∀ f, seeR c N 0 t = .inl f → BM M' f) ∧ ∀ i, seeR c N 0 t = .inr i → GM P n M' (nx P n t) ∧ M'.1 55 0 (w + 1) = nI i := by
  obtain ⟨q, e, y, b, z⟩ := rm_told (q := 0) B h hN (by decide)
  unfold f_X11_readRest_86
  rw [show f_X11_readTold (0 : Int32) (0 : Int32) M = some q from e, Option.bind_some, show nI w + (1 : Int32) = nI (w + 1) from add_w w 1, show nI w + (2 : Int32) = nI (w + 2) from add_w w 2, inb_nI_t (show w + 1 < 2375 by omega) (by decide), if_pos rfl, nI_clamp (by omega)]
  simp only
  rw [if_neg (by show ¬ nI k = nI 5; rw [eq_nI (by omega) (by decide)]; omega), inb_nI_t (show w + 2 < 2375 by omega) (by decide), if_pos rfl, if_pos rfl, nI_clamp (by omega)]
  rw [if_neg (by rw [sR_at, upd_at]; exact one_nlt)]
  refine ⟨_, rfl, (y.q.tr (QFr.W (by omega))).tr (QFr.W (by omega)), fun f ef => (b f ef).C.C, fun i ei => ?_⟩
  obtain ⟨z1, z2⟩ := z i ei
  refine ⟨z1.C.C, ?_⟩
  rw [sR_at, upd_ne _ _ (by omega), sR_at, upd_at]; exact z2
theorem r86_5 {P : Nat → Int32} {n w : Nat} {M : Mem} {c : Nat → Nat} {N : Nat → Nat → Int64} {t : Tk} (B : BY P n) (h : GM P n M t) (hN : NXm M 0 c N) (hw : w + 8 < 2375) : ∃ M', f_X11_readRest_86 (nI w) (nI 5) M = some M' ∧ QFr w M M' ∧ (∀ f, seeR c N 0 t = .inl f → BM M' f) ∧ ∀ i, seeR c N 0 t = .inr i → GM P n M' (if wdS (nx P n t) = nI 2 then nx P n (nx P n t) else nx P n t) ∧ M'.1 55 0 (w + 1) = nI i ∧ M'.1 55 0 (w + 2) = (if wdS (nx P n t) = nI 2 then -1 else 1) := by
  obtain ⟨q, e, y, b, z⟩ := rm_told (q := 0) B h hN (by decide)
  unfold f_X11_readRest_86
  rw [show f_X11_readTold (0 : Int32) (0 : Int32) M = some q from e, Option.bind_some, show nI w + (1 : Int32) = nI (w + 1) from add_w w 1, show nI w + (2 : Int32) = nI (w + 2) from add_w w 2, inb_nI_t (show w + 1 < 2375 by omega) (by decide), if_pos rfl, nI_clamp (by omega), inb_nI_t (show w + 2 < 2375 by omega) (by decide), nI_clamp (by omega)]
  simp only
  rw [if_pos (by decide)]
  have F1 : QFr w M (sR q.2 55 0 (upd (q.2.1 55 0) (w + 1) q.1)) := y.q.tr (QFr.W (by omega))
  have e1 : (sR q.2 55 0 (upd (q.2.1 55 0) (w + 1) q.1)).1 55 0 (w + 1) = q.1 := by rw [sR_at, upd_at]
  have e12 : (sR q.2 55 0 (upd (q.2.1 55 0) (w + 1) q.1)).1 50 0 12 = q.2.1 50 0 12 := by rw [sR_ne _ _ _ _ (by decide)]
  cases hs : seeR c N 0 t with
  | inl f =>
    have bm := (b f hs).C (g := upd (q.2.1 55 0) (w + 1) q.1)
    rw [e12, if_neg (by rw [(b f hs).2.1]; exact pos_ne (b f hs).1), if_pos trivial, if_pos trivial, if_neg (by rw [sR_at, upd_at]; exact one_nlt)]
    refine ⟨_, rfl, F1.tr (QFr.W (by omega)), fun f' ef => ?_, fun i ei => by cases ei⟩
    cases ef
    exact bm.C
  | inr i =>
    obtain ⟨z1, z2⟩ := z i hs
    have g1 := z1.C (f := upd (q.2.1 55 0) (w + 1) q.1)
    rw [e12, if_pos z1.2.2.2, r_Less g1.2.1 g1.2.2.1, Option.bind_some]
    unfold iw
    by_cases cl : wdS (nx P n t) = nI 2
    · rw [if_pos cl, if_neg (show ¬ (1 : Int32) = 0 from by decide), if_pos trivial, if_pos trivial, if_pos (by rw [sR_at, upd_at]; exact neg1_lt)]
      obtain ⟨M9, e9, f9, g9⟩ := nx_m B (g1.C (f := upd ((sR q.2 55 0 (upd (q.2.1 55 0) (w + 1) q.1)).1 55 0) (w + 2) (-1)))
      rw [e9, Option.bind_some]
      refine ⟨_, rfl, (F1.tr (QFr.W (by omega))).tr f9.y.q, fun f' ef => (by cases ef), fun i' ei => ?_⟩
      cases ei
      rw [if_pos cl, if_pos cl]
      refine ⟨g9, ?_, ?_⟩
      · rw [(f9.1 55 0 (by decide)).1, sR_at, upd_ne _ _ (by omega), e1]; exact z2
      · rw [(f9.1 55 0 (by decide)).1, sR_at, upd_at]
    · rw [if_neg cl, if_pos (show (0 : Int32) = 0 from rfl), if_pos trivial, if_pos trivial, if_neg (by rw [sR_at, upd_at]; exact one_nlt)]
      refine ⟨_, rfl, F1.tr (QFr.W (by omega)), fun f' ef => (by cases ef), fun i' ei => ?_⟩
      cases ei
      rw [if_neg cl, if_neg cl]
      refine ⟨g1.C, ?_, ?_⟩
      · rw [sR_at, upd_ne _ _ (by omega), e1]; exact z2
      · rw [sR_at, upd_at]
theorem sgn_iff {t : Tk} (hs : t.2.2.1 = 3 → t.2.2.2.2.2 = 59 ∨ t.2.2.2.2.2 = 60 ∨ t.2.2.2.2.2 = 62 ∨ t.2.2.2.2.2 = 61) : (t.2.2.1 = 3 ∧ ¬ t.2.2.2.2.2 = 59) ↔ ((t.2.2.1 = 3 ∧ t.2.2.2.2.2 = 60) ∨ (t.2.2.1 = 3 ∧ t.2.2.2.2.2 = 62) ∨ (t.2.2.1 = 3 ∧ t.2.2.2.2.2 = 61)) := by
  constructor
  · intro ⟨h1, h2⟩
    rcases hs h1 with q | q | q | q
    · exact absurd q h2
    · exact Or.inl ⟨h1, q⟩
    · exact Or.inr (Or.inl ⟨h1, q⟩)
    · exact Or.inr (Or.inr ⟨h1, q⟩)
  · rintro (⟨h1, q⟩ | ⟨h1, q⟩ | ⟨h1, q⟩) <;> exact ⟨h1, by rw [q]; decide⟩
theorem t85_flag {P : Nat → Int32} {n w : Nat} {M : Mem} {t : Tk} {x2 v : Int32} (h : GM P n M t) (hw : w + 8 < 2375) (hs : t.2.2.1 = 3 → t.2.2.2.2.2 = 59 ∨ t.2.2.2.2.2 = 60 ∨ t.2.2.2.2.2 = 62 ∨ t.2.2.2.2.2 = 61) : f_X11_readTest_85 (nI w) x2 (nI (w + 7)) v M = f_X11_readTest_119 (nI w) x2 (if t.2.2.1 = 3 ∧ ¬ t.2.2.2.2.2 = 59 then 1 else 0) (sR M 55 0 (upd (M.1 55 0) (w + 7) v)) := by
  unfold f_X11_readTest_85 f_X11_readTest_114
  rw [inb_nI_t (show w + 7 < 2375 by omega) (by decide), if_pos rfl, nI_clamp (by omega)]
  simp only
  have g := h.C (f := upd (M.1 55 0) (w + 7) v)
  rw [sign_m g, Option.bind_some, sign_m g, Option.bind_some, sign_m g, Option.bind_some]
  have iff := sgn_iff hs
  by_cases c1 : t.2.2.1 = 3 ∧ t.2.2.2.2.2 = 60
  · rw [if_pos c1, if_neg (by decide), if_pos (iff.mpr (Or.inl c1))]
  · rw [if_neg c1, if_pos rfl]
    by_cases c2 : t.2.2.1 = 3 ∧ t.2.2.2.2.2 = 62
    · rw [if_pos c2, if_neg (by decide), if_pos (iff.mpr (Or.inr (Or.inl c2)))]
    · rw [if_neg c2, if_pos rfl]
      by_cases c3 : t.2.2.1 = 3 ∧ t.2.2.2.2.2 = 61
      · rw [if_pos c3, if_neg (by decide), if_pos (iff.mpr (Or.inr (Or.inr c3)))]
      · rw [if_neg c3, if_pos rfl, if_neg (fun z => by
          rcases iff.mp z with q | q | q
          · exact c1 q
          · exact c2 q
          · exact c3 q)]
theorem t48_m {P : Nat → Int32} {n w x2 : Nat} {M : Mem} {t : Tk} {R : Tk → Ft ⊕ (Tk × Int32)} (B : BY P n) (h : GM P n M t) (hw : w + 8 < 2375) (hx : x2 = 0 ∧ (∀ t, R t = numR P n 0 10 t) ∨ x2 = 2 ∧ (∀ t, R t = eithR P n 9999 t)) (hs : t.2.2.1 = 3 → t.2.2.2.2.2 = 59 ∨ t.2.2.2.2.2 = 60 ∨ t.2.2.2.2.2 = 62 ∨ t.2.2.2.2.2 = 61) :
    ∃ M', f_X11_readTest_48 (nI w) (nI x2) M = some M' ∧ QFr w M M' ∧ (∀ f, (bnd (cmpR P n t) fun a => bnd (R a.1) fun b => (.inr (a.2, b) : Ft ⊕ (Int32 × Tk × Int32))) = .inl f → BM M' f) ∧ ∀ x, (bnd (cmpR P n t) fun a => bnd (R a.1) fun b => (.inr (a.2, b) : Ft ⊕ (Int32 × Tk × Int32))) = .inr x → GM P n M' x.2.1 ∧ M'.1 55 0 (w + 7) = x.1 ∧ M'.1 55 0 (w + 2) = x.2.2 ∧ ∀ j, ¬ j = w + 2 → ¬ j = w + 7 → M'.1 55 0 j = M.1 55 0 j := by
  unfold f_X11_readTest_48
  rw [h.2.2.2, if_neg (show ¬ (0 : Int32) < 0 from by decide), if_neg (by show ¬ nI x2 = nI 1; rw [eq_nI (by omega) (by decide)]; omega), h.2.1.2.2.1, show nI w + (7 : Int32) = nI (w + 7) from add_w w 7]
  have hk := h.2.2.1.2.2.1
  -- the number laid at w + 7
  have e85 : ∃ v, (if nI t.2.2.1 = (3 : Int32) then f_X11_readTest_85 (nI w) (nI x2) (nI (w + 7)) (M.1 50 0 17) M else f_X11_readTest_85 (nI w) (nI x2) (nI (w + 7)) 0 M) = f_X11_readTest_119 (nI w) (nI x2) (if t.2.2.1 = 3 ∧ ¬ t.2.2.2.2.2 = 59 then 1 else 0) (sR M 55 0 (upd (M.1 55 0) (w + 7) v)) ∧ (t.2.2.1 = 3 → v = t.2.2.2.2.2) := by
    by_cases c : t.2.2.1 = 3
    · refine ⟨M.1 50 0 17, ?_, fun _ => h.2.1.2.2.2.2 (Or.inr c)⟩
      rw [if_pos (by rw [c]; rfl)]
      exact t85_flag h hw hs
    · refine ⟨0, ?_, fun z => absurd z c⟩
      rw [if_neg (by rw [show (3 : Int32) = nI 3 from rfl, eq_nI (by omega) (by decide)]; exact c)]
      exact t85_flag h hw hs
  obtain ⟨v, e, ev⟩ := e85
  rw [e]
  unfold f_X11_readTest_119
  have g6 := h.C (f := upd (M.1 55 0) (w + 7) v)
  have F6 : QFr w M (sR M 55 0 (upd (M.1 55 0) (w + 7) v)) := QFr.W (by omega)
  have e67 : (sR M 55 0 (upd (M.1 55 0) (w + 7) v)).1 55 0 (w + 7) = v := by rw [sR_at, upd_at]
  have e6j : ∀ j, ¬ j = w + 7 → (sR M 55 0 (upd (M.1 55 0) (w + 7) v)).1 55 0 j = M.1 55 0 j := fun j hj => by rw [sR_at, upd_ne _ _ hj]
  generalize sR M 55 0 (upd (M.1 55 0) (w + 7) v) = M6 at g6 F6 e67 e6j ⊢
  obtain ⟨M8, a8, y8, d8⟩ := must_m (r := if t.2.2.1 = 3 ∧ ¬ t.2.2.2.2.2 = 59 then 1 else 0) B g6
  rw [a8, Option.bind_some, show nI w + (2 : Int32) = nI (w + 2) from add_w w 2]
  by_cases cc : t.2.2.1 = 3 ∧ ¬ t.2.2.2.2.2 = 59
  · rw [if_pos cc, if_neg (show ¬ (1 : Int32) = 0 from by decide)] at d8
    have ec : cmpR P n t = .inr (nx P n t, t.2.2.2.2.2) := by unfold cmpR; rw [if_pos cc]
    have key : ∀ (F : Mem → Option (Int32 × Mem)), Rm P n M8 (F M8) (R (nx P n t)) (fun a => a.1) (fun a => a.2) → ∃ M', ((F M8).bind fun q => if inb (nI (w + 2)) 2375 = true then some (sR q.2 55 0 (upd (q.2.1 55 0) (nI (w + 2)).toNatClampNeg q.1)) else none) = some M' ∧ QFr w M M' ∧ (∀ f, (bnd (cmpR P n t) fun a => bnd (R a.1) fun b => (.inr (a.2, b) : Ft ⊕ (Int32 × Tk × Int32))) = .inl f → BM M' f) ∧ ∀ x, (bnd (cmpR P n t) fun a => bnd (R a.1) fun b => (.inr (a.2, b) : Ft ⊕ (Int32 × Tk × Int32))) = .inr x → GM P n M' x.2.1 ∧ M'.1 55 0 (w + 7) = x.1 ∧ M'.1 55 0 (w + 2) = x.2.2 ∧ ∀ j, ¬ j = w + 2 → ¬ j = w + 7 → M'.1 55 0 j = M.1 55 0 j := by
      intro F hF
      obtain ⟨M', b1, b2, b3, b4⟩ := lay1 (w := w) (p := w + 2) (by omega) hw hF
      refine ⟨M', b1, (F6.tr y8.q).tr b2, fun f ef => ?_, fun x ex => ?_⟩
      · cases hb : R (nx P n t) with
        | inl f' => simp only [bnd, ec, hb] at ef; cases ef; exact b3 f hb
        | inr b => simp only [bnd, ec, hb] at ef; cases ef
      · cases hb : R (nx P n t) with
        | inl f' => simp only [bnd, ec, hb] at ex; cases ex
        | inr b =>
          simp only [bnd, ec, hb] at ex
          cases ex
          obtain ⟨c1, c2, c3⟩ := b4 b hb
          refine ⟨c1, ?_, c2, fun j j1 j2 => ?_⟩
          · rw [c3 _ (by omega), (y8.1 55 0 (by decide)).1, e67]; exact ev cc.1
          · rw [c3 j j1, (y8.1 55 0 (by decide)).1, e6j j j2]
    rcases hx with ⟨hx, hR⟩ | ⟨hx, hR⟩
    · subst hx
      rw [if_pos (show nI 0 = (0 : Int32) from rfl)]
      exact key (f_X11_count 0 10) (by rw [hR]; exact rm_num B d8)
    · subst hx
      rw [if_neg (show ¬ nI 2 = (0 : Int32) from by decide)]
      exact key (f_X11_signed 9999) (by rw [hR]; exact rm_eith B d8)
  · rw [if_neg cc, if_pos (show (0 : Int32) = 0 from rfl)] at d8
    have ec : cmpR P n t = .inl (badK t 2) := by unfold cmpR; rw [if_neg cc]
    have out : ∀ (q : Int32 × Mem), q = (0, M8) → ∃ M', (if inb (nI (w + 2)) 2375 = true then some (sR q.2 55 0 (upd (q.2.1 55 0) (nI (w + 2)).toNatClampNeg q.1)) else none) = some M' ∧ QFr w M M' ∧ (∀ f, (bnd (cmpR P n t) fun a => bnd (R a.1) fun b => (.inr (a.2, b) : Ft ⊕ (Int32 × Tk × Int32))) = .inl f → BM M' f) ∧ ∀ x, (bnd (cmpR P n t) fun a => bnd (R a.1) fun b => (.inr (a.2, b) : Ft ⊕ (Int32 × Tk × Int32))) = .inr x → GM P n M' x.2.1 ∧ M'.1 55 0 (w + 7) = x.1 ∧ M'.1 55 0 (w + 2) = x.2.2 ∧ ∀ j, ¬ j = w + 2 → ¬ j = w + 7 → M'.1 55 0 j = M.1 55 0 j := by
      intro q eq
      rw [eq, inb_nI_t (show w + 2 < 2375 by omega) (by decide), if_pos rfl, nI_clamp (by omega)]
      refine ⟨_, rfl, (F6.tr y8.q).tr (QFr.W (by omega)), fun f ef => ?_, fun x ex => ?_⟩
      · simp only [bnd, ec] at ef; cases ef; exact d8.C
      · simp only [bnd, ec] at ex; cases ex
    by_cases c0 : nI x2 = (0 : Int32)
    · rw [if_pos c0, count_b d8, Option.bind_some]; exact out (0, M8) rfl
    · rw [if_neg c0, signed_b d8, Option.bind_some]; exact out (0, M8) rfl
