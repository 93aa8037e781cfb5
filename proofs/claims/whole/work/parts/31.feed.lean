/-! ===== calls on both: feed ===== -/
abbrev Tp : Type := Nat × (Nat → Int32)
def TpX (M : Mem) (P : Tp) : Prop := M.1 30 0 2 = nI P.1 ∧ ∀ j, j < P.1 → M.1 31 0 j = P.2 j
def TpM (M : Mem) (P : Tp) : Prop := M.1 50 0 8 = nI P.1 ∧ ∀ j, j < P.1 → M.1 54 0 j = P.2 j
def FTx (M M' : Mem) : Prop := M'.2 = M.2 ∧ ∀ c i, ¬ ((c = 30 ∨ c = 31) ∧ i = 0) → M'.1 c i = M.1 c i
def FTm (M M' : Mem) : Prop := M'.2 = M.2 ∧ (∀ c i, ¬ ((c = 50 ∨ c = 54) ∧ i = 0) → M'.1 c i = M.1 c i) ∧ ∀ j, ¬ j = 8 → M'.1 50 0 j = M.1 50 0 j
theorem FTx.rf {M : Mem} : FTx M M := ⟨rfl, fun _ _ _ => rfl⟩
theorem FTm.rf {M : Mem} : FTm M M := ⟨rfl, fun _ _ _ => rfl, fun _ _ => rfl⟩
theorem FTx.tr {M M1 M2 : Mem} (a : FTx M M1) (b : FTx M1 M2) : FTx M M2 := ⟨b.1.trans a.1, fun c i h => (b.2 c i h).trans (a.2 c i h)⟩
theorem FTm.tr {M M1 M2 : Mem} (a : FTm M M1) (b : FTm M1 M2) : FTm M M2 := ⟨b.1.trans a.1, fun c i h => (b.2.1 c i h).trans (a.2.1 c i h), fun j h => (b.2.2 j h).trans (a.2.2 j h)⟩
theorem FTx.on {M M' : Mem} (f : FTx M M') : onX M M' := fun c i h => ⟨f.2 c i (by omega), by rw [f.1]⟩
theorem FTm.on {M M' : Mem} (f : FTm M M') : onM M M' := fun c i h => ⟨f.2.1 c i (by omega), by rw [f.1]⟩
theorem RX.P {s : Sy} {M : Mem} (h : RX s M) : TpX M (sTp s) := h.2.2.1
theorem RM.P {s : Sy} {M : Mem} (h : RM s M) : TpM M (sTp s) := h.2.2.1
theorem RX.p {s : Sy} {M M' : Mem} {P : Tp} (f : FTx M M') (r : TpX M' P) (h : RX s M) : RX (setTp s P) M' := by
  obtain ⟨h1, h2, -, h4, h5, h6, h7, h8, h9⟩ := h
  have e := fun c i (hc : ¬ ((c = 30 ∨ c = 31) ∧ i = 0)) => f.2 c i hc
  refine ⟨by rw [e 0 0 (by decide), e 36 0 (by decide)]; exact h1, by rw [f.1]; exact h2, r, fun t ht => by rw [e 5 0 (by decide), e 6 0 (by decide), f.1]; exact h4 t ht, h5.eq (fun c _ h => ⟨e c 0 (by omega), by rw [f.1]⟩), ⟨by rw [e 0 0 (by decide)]; exact h6.1, fun k a b => (h6.2 k a b).eq (fun c _ h => ⟨e c k (by omega), by rw [f.1]⟩)⟩, by rw [e 36 0 (by decide), e 42 0 (by decide)]; exact h7, by rw [e 0 0 (by decide), e 44 0 (by decide)]; exact h8, by rw [f.1]; exact h9⟩
theorem RM.p {s : Sy} {M M' : Mem} {P : Tp} (f : FTm M M') (r : TpM M' P) (h : RM s M) : RM (setTp s P) M' := by
  obtain ⟨h1, h2, -, h4, h5, h6, h7, h8⟩ := h
  have e := fun c i (hc : ¬ ((c = 50 ∨ c = 54) ∧ i = 0)) => f.2.1 c i hc
  have g := f.2.2
  refine ⟨by rw [g 0 (by decide), g 10 (by decide), g 11 (by decide), g 31 (by decide)]; exact h1, by rw [f.1]; exact h2, r, fun t ht => by rw [e 52 0 (by decide), e 51 0 (by decide), f.1]; exact h4 t ht, by rw [e 55 0 (by decide), f.1]; exact h5, by rw [g 23 (by decide), e 55 0 (by decide), f.1]; exact h6, by rw [g 30 (by decide), e 60 0 (by decide)]; exact h7, by rw [g 37 (by decide), e 63 0 (by decide)]; exact h8⟩
def pushP (P : Tp) (v : Int32) : Tp := (P.1 + 1, fun j => if j = P.1 then v else P.2 j)
def byteS (x : Int32) (c : Nat) : Int32 := ((x >>> (nI c &&& 31)).toInt8.toInt32).toInt8.toInt32
def okP (P : Tp) : Prop := ∀ j, j < P.1 → inR (-128) 127 (P.2 j)
theorem byteS_in (x : Int32) (c : Nat) : inR (-128) 127 (byteS x c) := by
  have h : ∀ y : Int8, inR (-128) 127 y.toInt32 := by
    intro y
    have h1 := Int8.le_toInt y
    have h2 := Int8.toInt_lt y
    have e : y.toInt32.toInt = y.toInt := Int8.toInt_toInt32 y
    constructor
    · apply Int32.le_iff_toInt_le.mpr
      rw [e]
      exact h1
    · apply Int32.le_iff_toInt_le.mpr
      rw [e]
      show y.toInt ≤ 127
      omega
  exact h _
theorem okP.push {P : Tp} {v : Int32} (o : okP P) (h : inR (-128) 127 v) : okP (pushP P v) := by
  intro j hj
  show inR (-128) 127 (if j = P.1 then v else P.2 j)
  have hj : j < P.1 + 1 := hj
  by_cases c : j = P.1
  · rw [if_pos c]; exact h
  · rw [if_neg c]; exact o j (by omega)
theorem ax_step {M : Mem} {P : Tp} {x : Int32} {n c : Nat} (hc : c < 32) (h9 : P.1 < 900) (r : TpX M P) : ∃ M', f_X5_append_3 x (n + 1) (nI c) M = f_X5_append_3 x n (nI c + (-8 : Int32)) M' ∧ TpX M' (pushP P (byteS x c)) ∧ FTx M M' := by
  refine ⟨sR (sR M 31 0 (upd (M.1 31 0) P.1 (byteS x c))) 30 0 (upd ((sR M 31 0 (upd (M.1 31 0) P.1 (byteS x c))).1 30 0) 2 (nI (P.1 + 1))), ?_, ⟨?_, fun j hj => ?_⟩, rfl, fun a i h => ?_⟩
  · rw [f_X5_append_3, if_neg (nI_pos (by omega)), r.1, if_pos (show nI P.1 < (900 : Int32) from by
      show nI P.1 < nI 900
      rw [lt_nI (by omega) (by decide)]; exact h9), inb_nI_t h9 (by decide), if_pos rfl, nI_clamp (by omega)]
    dsimp only
    rw [sR_ne _ _ _ _ (by decide), r.1, show nI P.1 + (1 : Int32) = nI (P.1 + 1) from add_nI P.1 1]
    rfl
  · rw [sR_at, upd_at]
    rfl
  · have hj : j < P.1 + 1 := hj
    rw [sR_ne _ _ _ _ (by decide), sR_at]
    show _ = if j = P.1 then byteS x c else P.2 j
    by_cases d : j = P.1
    · rw [d, upd_at, if_pos rfl]
    · rw [upd_ne _ _ d, if_neg d]; exact r.2 j (by omega)
  · rw [sR_ne _ _ _ _ (fun z => h ⟨Or.inl z.1, z.2⟩), sR_ne _ _ _ _ (fun z => h ⟨Or.inr z.1, z.2⟩)]
theorem am_step {M : Mem} {P : Tp} {x : Int32} {n c : Nat} (hc : c < 4) (h9 : P.1 < 900) (r : TpM M P) : ∃ M', f_X11_lay_2 x (n + 1) (nI c) M = f_X11_lay_2 x n (nI c + (-1 : Int32)) M' ∧ TpM M' (pushP P (byteS x (8 * c))) ∧ FTm M M' := by
  refine ⟨sR (sR M 54 0 (upd (M.1 54 0) P.1 (byteS x (8 * c)))) 50 0 (upd ((sR M 54 0 (upd (M.1 54 0) P.1 (byteS x (8 * c)))).1 50 0) 8 (nI (P.1 + 1))), ?_, ⟨?_, fun j hj => ?_⟩, rfl, fun a i h => ?_, fun j hj => ?_⟩
  · rw [f_X11_lay_2, if_neg (nI_pos (by omega)), r.1, inb_nI_t h9 (by decide), if_pos rfl, nI_clamp (by omega), show (8 : Int32) * nI c = nI (8 * c) from by rw [show (8 : Int32) = nI 8 from rfl, mul_nI]]
    dsimp only
    rw [sR_ne _ _ _ _ (by decide), r.1, show nI P.1 + (1 : Int32) = nI (P.1 + 1) from add_nI P.1 1]
    rfl
  · rw [sR_at, upd_at]
    rfl
  · have hj : j < P.1 + 1 := hj
    rw [sR_ne _ _ _ _ (by decide), sR_at]
    show _ = if j = P.1 then byteS x (8 * c) else P.2 j
    by_cases d : j = P.1
    · rw [d, upd_at, if_pos rfl]
    · rw [upd_ne _ _ d, if_neg d]; exact r.2 j (by omega)
  · rw [sR_ne _ _ _ _ (fun z => h ⟨Or.inl z.1, z.2⟩), sR_ne _ _ _ _ (fun z => h ⟨Or.inr z.1, z.2⟩)]
  · rw [sR_at, upd_ne _ _ hj, sR_ne _ _ _ _ (by decide)]
def push4 (P : Tp) (x : Int32) : Tp := pushP (pushP (pushP (pushP P (byteS x 24)) (byteS x 16)) (byteS x 8)) (byteS x 0)
theorem push4_len (P : Tp) (x : Int32) : (push4 P x).1 = P.1 + 4 := rfl
theorem okP.push4 {P : Tp} {x : Int32} (o : okP P) : okP (push4 P x) := (((o.push (byteS_in x 24)).push (byteS_in x 16)).push (byteS_in x 8)).push (byteS_in x 0)
theorem FU_5 : ∃ k, FU = k + 5 := ⟨FU - 5, by have : 5 < FU := lt_FU (by decide); omega⟩
theorem X5_append_sp {M : Mem} {P : Tp} (x : Int32) (h : P.1 + 4 ≤ 900) (r : TpX M P) : ∃ M', f_X5_append x M = some M' ∧ TpX M' (push4 P x) ∧ FTx M M' := by
  obtain ⟨k, ek⟩ := FU_5
  obtain ⟨M1, e1, r1, f1⟩ := ax_step (x := x) (n := k + 4) (c := 24) (by decide) (by omega) r
  obtain ⟨M2, e2, r2, f2⟩ := ax_step (x := x) (n := k + 3) (c := 16) (by decide) (by show P.1 + 1 < 900; omega) r1
  obtain ⟨M3, e3, r3, f3⟩ := ax_step (x := x) (n := k + 2) (c := 8) (by decide) (by show P.1 + 1 + 1 < 900; omega) r2
  obtain ⟨M4, e4, r4, f4⟩ := ax_step (x := x) (n := k + 1) (c := 0) (by decide) (by show P.1 + 1 + 1 + 1 < 900; omega) r3
  refine ⟨M4, ?_, r4, ((f1.tr f2).tr f3).tr f4⟩
  unfold f_X5_append
  rw [ek]
  refine Eq.trans e1 ?_
  rw [show nI 24 + (-8 : Int32) = nI 16 from by decide, e2, show nI 16 + (-8 : Int32) = nI 8 from by decide, e3, show nI 8 + (-8 : Int32) = nI 0 from by decide, e4, f_X5_append_3, if_pos (by decide)]
theorem X11_lay_sp {M : Mem} {P : Tp} (x : Int32) (h : P.1 + 4 ≤ 900) (r : TpM M P) : ∃ M', f_X11_lay x M = some M' ∧ TpM M' (push4 P x) ∧ FTm M M' := by
  obtain ⟨k, ek⟩ := FU_5
  obtain ⟨M1, e1, r1, f1⟩ := am_step (x := x) (n := k + 4) (c := 3) (by decide) (by omega) r
  obtain ⟨M2, e2, r2, f2⟩ := am_step (x := x) (n := k + 3) (c := 2) (by decide) (by show P.1 + 1 < 900; omega) r1
  obtain ⟨M3, e3, r3, f3⟩ := am_step (x := x) (n := k + 2) (c := 1) (by decide) (by show P.1 + 1 + 1 < 900; omega) r2
  obtain ⟨M4, e4, r4, f4⟩ := am_step (x := x) (n := k + 1) (c := 0) (by decide) (by show P.1 + 1 + 1 + 1 < 900; omega) r3
  refine ⟨M4, ?_, r4, ((f1.tr f2).tr f3).tr f4⟩
  unfold f_X11_lay
  rw [ek]
  refine Eq.trans e1 ?_
  rw [show nI 3 + (-1 : Int32) = nI 2 from by decide, e2, show nI 2 + (-1 : Int32) = nI 1 from by decide, e3, show nI 1 + (-1 : Int32) = nI 0 from by decide, e4, f_X11_lay_2, if_pos (by decide)]
theorem step_feed {s : Sy} (o : OKS s) (x1 x2 x3 x4 x5 : Int32) : Step s (f_X10_feed x1 x2 x3 x4 x5) (f_X11_feed x1 x2 x3 x4 x5) := by
  have hn : (sTp s).1 ≤ 900 := o.1
  have ho : okP (sTp s) := o.2.2.2.2.2.1
  by_cases c : (sTp s).1 + 20 ≤ 900
  · have c' : ¬ (900 : Int32) < nI (sTp s).1 + (20 : Int32) := by
      rw [show nI (sTp s).1 + (20 : Int32) = nI ((sTp s).1 + 20) from add_nI _ 20]
      show ¬ nI 900 < _
      rw [lt_nI (by decide) (by omega)]; omega
    have ot : OKS (setTp s (push4 (push4 (push4 (push4 (push4 (sTp s) x1) x2) x3) x4) x5)) := ⟨by show (sTp s).1 + 20 ≤ 900; exact c, o.2.1, o.2.2.1, o.2.2.2.1, o.2.2.2.2.1, ho.push4.push4.push4.push4.push4, o.2.2.2.2.2.2⟩
    refine step_of (nI ((sTp s).1 + 20)) (setTp s (push4 (push4 (push4 (push4 (push4 (sTp s) x1) x2) x3) x4) x5)) ot (fun M h => ?_) (fun M h => ?_)
    · obtain ⟨M1, e1, r1, f1⟩ := X5_append_sp x1 (by omega) h.P
      obtain ⟨M2, e2, r2, f2⟩ := X5_append_sp x2 (by rw [push4_len]; omega) r1
      obtain ⟨M3, e3, r3, f3⟩ := X5_append_sp x3 (by rw [push4_len, push4_len]; omega) r2
      obtain ⟨M4, e4, r4, f4⟩ := X5_append_sp x4 (by rw [push4_len, push4_len, push4_len]; omega) r3
      obtain ⟨M5, e5, r5, f5⟩ := X5_append_sp x5 (by rw [push4_len, push4_len, push4_len, push4_len]; omega) r4
      have f := (((f1.tr f2).tr f3).tr f4).tr f5
      refine ⟨M5, ?_, h.p f r5, f.on⟩
      unfold f_X10_feed f_X5_hasRoom
      rw [h.P.1, if_neg c', Option.bind_some, if_neg (by decide), e1, Option.bind_some, e2, Option.bind_some, e3, Option.bind_some, e4, Option.bind_some, e5, Option.bind_some, r5.1]
      rfl
    · have t := h.th o
      obtain ⟨M1, e1, r1, f1⟩ := X11_lay_sp x1 (by omega) t.1.P
      obtain ⟨M2, e2, r2, f2⟩ := X11_lay_sp x2 (by rw [push4_len]; omega) r1
      obtain ⟨M3, e3, r3, f3⟩ := X11_lay_sp x3 (by rw [push4_len, push4_len]; omega) r2
      obtain ⟨M4, e4, r4, f4⟩ := X11_lay_sp x4 (by rw [push4_len, push4_len, push4_len]; omega) r3
      obtain ⟨M5, e5, r5, f5⟩ := X11_lay_sp x5 (by rw [push4_len, push4_len, push4_len, push4_len]; omega) r4
      have f := (((f1.tr f2).tr f3).tr f4).tr f5
      refine ⟨M5, ?_, t.1.p f r5, t.2.tr f.on⟩
      unfold f_X11_feed
      dsimp only
      rw [t.1.P.1, if_neg c', e1, Option.bind_some, e2, Option.bind_some, e3, Option.bind_some, e4, Option.bind_some, e5, Option.bind_some, r5.1]
      rfl
  · have c' : (900 : Int32) < nI (sTp s).1 + (20 : Int32) := by
      rw [show nI (sTp s).1 + (20 : Int32) = nI ((sTp s).1 + 20) from add_nI _ 20]
      show nI 900 < _
      rw [lt_nI (by decide) (by omega)]; omega
    refine step_of (-1) s o (fun M h => ⟨M, ?_, h, fun _ _ _ => ⟨rfl, rfl⟩⟩) (fun M h => ⟨_, ?_, h.th o⟩)
    · unfold f_X10_feed f_X5_hasRoom
      rw [h.P.1, if_pos c', Option.bind_some, if_pos rfl]
    · unfold f_X11_feed
      dsimp only
      rw [(h.th o).1.P.1, if_pos c']
