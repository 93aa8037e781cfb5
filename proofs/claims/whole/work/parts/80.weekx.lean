/-! ===== the class reads a step of weeks ===== -/
def WkF (M M' : Mem) : Prop := (∀ c i, ¬ (c = 30 ∧ i = 0) → ¬ (i = 4 ∧ 23 ≤ c ∧ c ≤ 29) → ¬ (c = 34 ∨ c = 35) → M'.1 c i = M.1 c i ∧ M'.2 c i = M.2 c i) ∧ ∀ j, j < 3 → M'.1 30 0 j = M.1 30 0 j
theorem WkF.rf {M : Mem} : WkF M M := ⟨fun _ _ _ _ _ => ⟨rfl, rfl⟩, fun _ _ => rfl⟩
theorem WkF.tr {M M1 M2 : Mem} (a : WkF M M1) (b : WkF M1 M2) : WkF M M2 := ⟨fun c i h1 h2 h3 => ⟨(b.1 c i h1 h2 h3).1.trans (a.1 c i h1 h2 h3).1, (b.1 c i h1 h2 h3).2.trans (a.1 c i h1 h2 h3).2⟩, fun j h => (b.2 j h).trans (a.2 j h)⟩
theorem XFr.wf {M M' : Mem} (a : XFr M M') : WkF M M' := ⟨fun c i h _ _ => a.1 c i h, fun j h => a.2 j (by omega)⟩
theorem WkF.N {M M' : Mem} {c : Nat → Nat} {N : Nat → Nat → Int64} (f : WkF M M') (h : NX M 0 c N) : NX M' 0 c N := fun q hq => ⟨by rw [(f.1 9 0 (by decide) (by decide) (by decide)).1]; exact (h q hq).1, (h q hq).2.1, fun i hi => by rw [(f.1 10 0 (by decide) (by decide) (by decide)).2]; exact (h q hq).2.2 i hi⟩
theorem GX.eq {M M' : Mem} {P : Nat → Int32} {n : Nat} {t : Tk} (e : ∀ c, 30 ≤ c → c ≤ 32 → M'.1 c 0 = M.1 c 0 ∧ M'.2 c 0 = M.2 c 0) (h : GX P n M t) : GX P n M' t := by
  unfold GX TapX TkX at h ⊢
  rw [(e 30 (by decide) (by decide)).1, (e 30 (by decide) (by decide)).2, (e 31 (by decide) (by decide)).1, (e 32 (by decide) (by decide)).2]
  exact h
theorem BX.eq {M M' : Mem} {f : Ft} (e : M'.1 30 0 = M.1 30 0) (h : BX M f) : BX M' f := by
  unfold BX at h ⊢
  rw [e]
  exact h
def RwW (L : Nat) (M M' : Mem) : Prop := (∀ c i, ¬ (c = 30 ∧ i = 0) → ¬ (25 ≤ c ∧ c ≤ 28 ∧ i = 4) → M'.1 c i = M.1 c i ∧ M'.2 c i = M.2 c i) ∧ (∀ c, 25 ≤ c → c ≤ 28 → ∀ j, ¬ j = L → M'.1 c 4 j = M.1 c 4 j) ∧ ∀ j, j < 3 → M'.1 30 0 j = M.1 30 0 j
theorem RwW.tr {L : Nat} {M M1 M2 : Mem} (a : RwW L M M1) (b : RwW L M1 M2) : RwW L M M2 := ⟨fun c i h1 h2 => ⟨(b.1 c i h1 h2).1.trans (a.1 c i h1 h2).1, (b.1 c i h1 h2).2.trans (a.1 c i h1 h2).2⟩, fun c h1 h2 j h3 => (b.2.1 c h1 h2 j h3).trans (a.2.1 c h1 h2 j h3), fun j h => (b.2.2 j h).trans (a.2.2 j h)⟩
theorem XFr.rw_ {L : Nat} {M M' : Mem} (a : XFr M M') : RwW L M M' := ⟨fun c i h _ => a.1 c i h, fun c h1 h2 j _ => by rw [(a.1 c 4 (by omega)).1], fun j h => a.2 j (by omega)⟩
theorem RwW.W {L c : Nat} {M : Mem} {v : Int32} (hc : 25 ≤ c ∧ c ≤ 28) : RwW L M (sR M c 4 (upd (M.1 c 4) L v)) := by
  refine ⟨fun a i h1 h2 => ⟨sR_ne _ _ _ _ (by omega), rfl⟩, fun a h1 h2 j hj => ?_, fun j _ => by rw [sR_ne _ _ _ _ (by omega)]⟩
  by_cases e : a = c
  · subst e; rw [sR_at, upd_ne _ _ hj]
  · rw [sR_ne _ _ _ _ (by omega)]
theorem RwW.wf {L : Nat} {M M' : Mem} (a : RwW L M M') : WkF M M' := ⟨fun c i h1 h2 h3 => a.1 c i h1 (by omega), a.2.2⟩
abbrev putK (M : Mem) (c L : Nat) (v : Int32) : Mem := sR M c 4 (upd (M.1 c 4) L v)
theorem GX.W {M : Mem} {P : Nat → Int32} {n c L : Nat} {t : Tk} {v : Int32} (hc : c ≤ 29) (h : GX P n M t) : GX P n (putK M c L v) t := h.eq (fun a h1 _ => ⟨sR_ne _ _ _ _ (fun z => by omega), rfl⟩)
theorem BX.W {M : Mem} {c L : Nat} {f : Ft} {v : Int32} (hc : c ≤ 29) (h : BX M f) : BX (sR M c 4 (upd (M.1 c 4) L v)) f := h.eq (sR_ne _ _ _ _ (by omega))
theorem isB_0 : isB (0 : Int32) = true := by decide
theorem isB_1 : isB (1 : Int32) = true := by decide
/-- what a reader of one place says -/
def Rd (P : Nat → Int32) (n : Nat) (M : Mem) {α : Type} (F : Option (Int32 × Mem)) (o : Ft ⊕ α) (g : α → Tk) (v : α → Int32) : Prop := ∃ r, F = some r ∧ XFr M r.2 ∧ (∀ f, o = .inl f → r.1 = 0 ∧ BX r.2 f) ∧ ∀ i, o = .inr i → r.1 = 1 ∧ GX P n r.2 (g i) ∧ r.2.1 30 0 9 = v i
theorem c126 {P : Nat → Int32} {n L : Nat} {M : Mem} {α : Type} {F : Option (Int32 × Mem)} {o : Ft ⊕ α} {g : α → Tk} {v : α → Int32} (hL : L < 60) (hF : Rd P n M F o g v) (hne : ¬ M.1 24 4 L = 23) : ∃ r, (F.bind fun q => f_X8_readRest_126 4 (nI L) q.1 q.2) = some r ∧ RwW L M r.2 ∧ (∀ f, o = .inl f → r.1 = 0 ∧ BX r.2 f) ∧ ∀ i, o = .inr i → r.1 = 1 ∧ GX P n r.2 (g i) ∧ r.2.1 25 4 L = v i := by
  obtain ⟨q, e, x, b, w⟩ := hF
  rw [e, Option.bind_some]
  unfold f_X8_readRest_126
  rw [inb_nI_t hL (by decide), nI_clamp (by omega)]
  simp only [eq_self, if_true]
  have F2 : RwW L M (sR q.2 25 4 (upd (q.2.1 25 4) L (q.2.1 30 0 9))) := x.rw_.tr (RwW.W (by omega))
  have e24 : (sR q.2 25 4 (upd (q.2.1 25 4) L (q.2.1 30 0 9))).1 24 4 = M.1 24 4 := (F2.1 24 4 (by decide) (by decide)).1
  cases o with
  | inl f =>
    obtain ⟨b1, b2⟩ := b f rfl
    rw [b1, if_pos rfl, if_pos isB_0]
    refine ⟨_, rfl, F2, fun f' ef => ?_, fun i ei => by cases ei⟩
    cases ef
    exact ⟨rfl, b2.W (by decide)⟩
  | inr i =>
    obtain ⟨w1, w2, w3⟩ := w i rfl
    rw [w1, if_neg (show ¬ (1 : Int32) = 0 from by decide), e24, if_neg hne, if_pos isB_1]
    refine ⟨_, rfl, F2, fun f' ef => (by cases ef), fun i' ei => ?_⟩
    cases ei
    refine ⟨rfl, w2.W (by decide), ?_⟩
    show (sR q.2 25 4 _).1 25 4 L = _
    rw [sR_at, upd_at]; exact w3
theorem c126_5 {P : Nat → Int32} {n L : Nat} {M : Mem} {α : Type} {F : Option (Int32 × Mem)} {o : Ft ⊕ α} {g : α → Tk} {v : α → Int32} (B : BY P n) (hL : L < 60) (hF : Rd P n M F o g v) (hne : M.1 24 4 L = 23) : ∃ r, (F.bind fun q => f_X8_readRest_126 4 (nI L) q.1 q.2) = some r ∧ RwW L M r.2 ∧ (∀ f, o = .inl f → r.1 = 0 ∧ BX r.2 f) ∧ ∀ i, o = .inr i → r.1 = 1 ∧ GX P n r.2 (if wdS (g i) = nI 2 then nx P n (g i) else g i) ∧ r.2.1 25 4 L = v i ∧ r.2.1 27 4 L = (if wdS (g i) = nI 2 then -1 else 1) := by
  obtain ⟨q, e, x, b, w⟩ := hF
  rw [e, Option.bind_some]
  unfold f_X8_readRest_126
  rw [inb_nI_t hL (by decide), nI_clamp (by omega)]
  simp only [eq_self, if_true]
  have F2 : RwW L M (sR q.2 25 4 (upd (q.2.1 25 4) L (q.2.1 30 0 9))) := x.rw_.tr (RwW.W (by omega))
  have e24 : (sR q.2 25 4 (upd (q.2.1 25 4) L (q.2.1 30 0 9))).1 24 4 = M.1 24 4 := (F2.1 24 4 (by decide) (by decide)).1
  cases o with
  | inl f =>
    obtain ⟨b1, b2⟩ := b f rfl
    rw [b1, if_pos rfl, if_pos isB_0]
    refine ⟨_, rfl, F2, fun f' ef => ?_, fun i ei => by cases ei⟩
    cases ef
    exact ⟨rfl, b2.W (by decide)⟩
  | inr i =>
    obtain ⟨w1, w2, w3⟩ := w i rfl
    have e25 : (sR q.2 25 4 (upd (q.2.1 25 4) L (q.2.1 30 0 9))).1 25 4 L = v i := by rw [sR_at, upd_at]; exact w3
    obtain ⟨M3, e3, f3, g3⟩ := take_x (i := 2) B (w2.W (c := 25) (L := L) (v := q.2.1 30 0 9) (by decide))
    rw [w1, if_neg (show ¬ (1 : Int32) = 0 from by decide), e24, if_pos hne, show f_X5_takeWord (2 : Int32) (sR q.2 25 4 (upd (q.2.1 25 4) L (q.2.1 30 0 9))) = some (iw (wdS (g i)) 2, M3) from e3, Option.bind_some]
    simp only
    unfold iw
    by_cases c : wdS (g i) = nI 2
    · rw [if_pos c, if_neg (show ¬ (1 : Int32) = 0 from by decide)]
      rw [if_pos c] at g3
      rw [if_pos isB_1]
      refine ⟨_, rfl, (F2.tr f3.x.rw_).tr (RwW.W (by omega)), fun f' ef => (by cases ef), fun i' ei => ?_⟩
      cases ei
      rw [if_pos c, if_pos c]
      refine ⟨rfl, g3.W (by decide), ?_, ?_⟩
      · show (sR M3 27 4 _).1 25 4 L = _
        rw [sR_ne _ _ _ _ (by decide), (f3.1 25 4 (by decide)).1]; exact e25
      · show (sR M3 27 4 _).1 27 4 L = _
        rw [sR_at, upd_at]
    · rw [if_neg c, if_pos rfl]
      rw [if_neg c] at g3
      rw [if_pos isB_1]
      refine ⟨_, rfl, (F2.tr f3.x.rw_).tr (RwW.W (by omega)), fun f' ef => (by cases ef), fun i' ei => ?_⟩
      cases ei
      rw [if_neg c, if_neg c]
      refine ⟨rfl, g3.W (by decide), ?_, ?_⟩
      · show (sR M3 27 4 _).1 25 4 L = _
        rw [sR_ne _ _ _ _ (by decide), (f3.1 25 4 (by decide)).1]; exact e25
      · show (sR M3 27 4 _).1 27 4 L = _
        rw [sR_at, upd_at]
theorem c126_1 {P : Nat → Int32} {n L : Nat} {M : Mem} {t : Tk} (hL : L < 60) (h : GX P n M t) (hne : ¬ M.1 24 4 L = 23) : ∃ r, f_X8_readRest_126 4 (nI L) 1 M = some r ∧ RwW L M r.2 ∧ r.1 = 1 ∧ GX P n r.2 t := by
  unfold f_X8_readRest_126
  rw [inb_nI_t hL (by decide), nI_clamp (by omega)]
  simp only [eq_self, if_true]
  rw [if_neg (show ¬ (1 : Int32) = 0 from by decide), show (sR M 25 4 (upd (M.1 25 4) L (M.1 30 0 9))).1 24 4 = M.1 24 4 from sR_ne _ _ _ _ (by decide), if_neg hne, if_pos isB_1]
  exact ⟨_, rfl, RwW.W (by omega), rfl, h.W (by decide)⟩
theorem rd_known {P : Nat → Int32} {n q : Nat} {M : Mem} {c : Nat → Nat} {N : Nat → Nat → Int64} {t : Tk} (B : BY P n) (h : GX P n M t) (hN : NX M 0 c N) (hq : q < 4) : Rd P n M (f_X5_needKnown 0 (nI q) M) (seeR c N q t) (fun _ => nx P n t) (fun i => nI i) := by
  obtain ⟨r, a, x, b, w⟩ := known_y (k := 0) B h hN hq
  exact ⟨r, a, x, b, fun i e => ⟨(w i e).1, (w i e).2.1, (w i e).2.2.1⟩⟩
theorem rd_num {P : Nat → Int32} {n : Nat} {lo hi : Int32} {M : Mem} {t : Tk} (B : BY P n) (h : GX P n M t) : Rd P n M (f_X5_needNumber lo hi M) (numR P n lo hi t) (fun a => a.1) (fun a => a.2) := OXv.y (needN_x B h)
theorem rd_eith {P : Nat → Int32} {n : Nat} {hi : Int32} {M : Mem} {t : Tk} (B : BY P n) (h : GX P n M t) : Rd P n M (f_X5_needEither hi M) (eithR P n hi t) (fun a => a.1) (fun a => a.2) := OXv.y (eith_x B h)
theorem rd_cmp {P : Nat → Int32} {n : Nat} {M : Mem} {t : Tk} (B : BY P n) (h : GX P n M t) : Rd P n M (f_X5_needCompares M) (cmpR P n t) (fun a => a.1) (fun a => a.2) := OXv.y (cmp_x B h)
theorem fin28 {P : Nat → Int32} {n L : Nat} {M : Mem} {F : Option (Int32 × Mem)} {o : Ft ⊕ (Tk × Int32)} (hL : L < 60) (hF : Rd P n M F o (fun a => a.1) (fun a => a.2)) : ∃ r, (F.bind fun q => if inb (nI L) 60 = true then (if isB q.1 = true then some (q.1, sR q.2 28 4 (upd (q.2.1 28 4) (nI L).toNatClampNeg (q.2.1 30 0 9))) else none) else none) = some r ∧ RwW L M r.2 ∧ (∀ f, o = .inl f → r.1 = 0 ∧ BX r.2 f) ∧ ∀ a, o = .inr a → r.1 = 1 ∧ GX P n r.2 a.1 ∧ r.2.1 28 4 L = a.2 ∧ ∀ c, 25 ≤ c → c ≤ 27 → r.2.1 c 4 = M.1 c 4 := by
  obtain ⟨q, e, x, b, w⟩ := hF
  rw [e, Option.bind_some, inb_nI_t hL (by decide), if_pos rfl, nI_clamp (by omega)]
  have F2 : RwW L M (sR q.2 28 4 (upd (q.2.1 28 4) L (q.2.1 30 0 9))) := x.rw_.tr (RwW.W (by omega))
  cases o with
  | inl f =>
    obtain ⟨b1, b2⟩ := b f rfl
    rw [b1, if_pos isB_0]
    refine ⟨_, rfl, F2, fun f' ef => ?_, fun i ei => by cases ei⟩
    cases ef
    exact ⟨rfl, b2.W (by decide)⟩
  | inr i =>
    obtain ⟨w1, w2, w3⟩ := w i rfl
    rw [w1, if_pos isB_1]
    refine ⟨_, rfl, F2, fun f' ef => (by cases ef), fun i' ei => ?_⟩
    cases ei
    refine ⟨rfl, w2.W (by decide), ?_, fun c h1 h2 => ?_⟩
    · show (sR q.2 28 4 _).1 28 4 L = _
      rw [sR_at, upd_at]; exact w3
    · show (sR q.2 28 4 _).1 c 4 = _
      rw [sR_ne _ _ _ _ (by omega), (x.1 c 4 (by omega)).1]
