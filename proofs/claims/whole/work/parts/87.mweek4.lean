/-! ===== the reference's loop over the steps of weeks ===== -/
theorem nx_wf {P : Nat → Int32} {n : Nat} {t : Tk} (B : BY P n) (h : WfT n t) : WfT n (nx P n t) := tokS_wf h.2.1 B.2
theorem num_wf {P : Nat → Int32} {n : Nat} {lo hi : Int32} {t : Tk} {a : Tk × Int32} (B : BY P n) (h : WfT n t) (e : numR P n lo hi t = .inr a) : WfT n a.1 := by
  rw [(num_inv e).2.1]; exact nx_wf B h
theorem eith_wf {P : Nat → Int32} {n : Nat} {hi : Int32} {t : Tk} {a : Tk × Int32} (B : BY P n) (h : WfT n t) (e : eithR P n hi t = .inr a) : WfT n a.1 := by
  obtain ⟨b, b1, b2, b3⟩ := eith_inv e
  rw [b2]
  refine num_wf B ?_ b1
  split
  · exact nx_wf B h
  · exact h
theorem rest_wf {P : Nat → Int32} {n k : Nat} {c : Nat → Nat} {N : Nat → Nat → Int64} {t : Tk} {a : Tk × Rs} (B : BY P n) (h : WfT n t) (e : restR P n c N k t = .inr a) : WfT n a.1 := by
  have w1 := nx_wf B h
  have w2 := nx_wf B w1
  unfold restR at e
  by_cases c0 : k = 0
  · rw [if_pos c0] at e
    obtain ⟨x, x1, x2⟩ := bnd_inv e
    rw [← Sum.inr.inj x2]; exact w1
  rw [if_neg c0] at e
  by_cases c1 : k = 1 ∨ k = 8
  · rw [if_pos c1] at e
    obtain ⟨x, x1, x2⟩ := bnd_inv e
    rw [← Sum.inr.inj x2]; exact num_wf B h x1
  rw [if_neg c1] at e
  by_cases c3 : k = 3 ∨ k = 4
  · rw [if_pos c3] at e
    obtain ⟨x, x1, x2⟩ := bnd_inv e
    rw [← Sum.inr.inj x2]; exact w1
  rw [if_neg c3] at e
  by_cases c5 : k = 5
  · rw [if_pos c5] at e
    obtain ⟨x, x1, x2⟩ := bnd_inv e
    rw [← Sum.inr.inj x2]
    show WfT n (if wdS (nx P n t) = nI 2 then nx P n (nx P n t) else nx P n t)
    split
    · exact w2
    · exact w1
  rw [if_neg c5] at e
  by_cases c7 : k = 7
  · rw [if_pos c7] at e
    unfold testR at e
    by_cases d1 : wdS t = nI 26
    · rw [if_pos d1] at e
      obtain ⟨x, x1, x2⟩ := bnd_inv e
      obtain ⟨y, y1, y2⟩ := bnd_inv x2
      rw [← Sum.inr.inj y2]
      refine num_wf B ?_ y1
      rw [(cmp_inv x1).2.2]; exact w2
    rw [if_neg d1] at e
    by_cases d2 : wdS t = nI 7
    · rw [if_pos d2] at e
      obtain ⟨x, x1, x2⟩ := bnd_inv e
      rw [← Sum.inr.inj x2]; exact w2
    rw [if_neg d2] at e
    by_cases d3 : wdS t = nI 11
    · rw [if_pos d3] at e
      obtain ⟨x, x1, x2⟩ := bnd_inv e
      obtain ⟨y, y1, y2⟩ := bnd_inv x2
      obtain ⟨z, z1, z2⟩ := bnd_inv y2
      rw [← Sum.inr.inj z2]
      refine eith_wf B ?_ z1
      rw [(cmp_inv y1).2.2]; exact nx_wf B w2
    · rw [if_neg d3] at e; cases e
  · rw [if_neg c7] at e
    rw [← Sum.inr.inj e]; exact h
theorem bind_as {α β γ : Type} (x : Option α) (f : α → Option β) (g : β → Option γ) : (x.bind f).bind g = x.bind fun a => (f a).bind g := by cases x <;> rfl
theorem weeksR_st {P : Nat → Int32} {n : Nat} {c : Nat → Nat} {N : Nat → Nat → Int64} {m : Nat} {Z : Zw} {t : Tk} (h0 : ¬ (t.2.2.1 = 0 ∧ Z.2.1 = 0)) (h28 : ¬ (wdS t = nI 28 ∧ ¬ Z.2.1 = 0)) : weeksR P n c N (m + 1) Z t = bnd (stepR P n c N Z t) fun a => bnd (stopR P n a.1) fun t' => weeksR P n c N m a.2 t' := by
  rw [weeksR]
  by_cases e : t.2.2.1 = 0
  · have ew : wdS t = -1 := by unfold wdS; rw [if_neg (by omega)]
    rw [if_pos e, if_neg (fun z => h0 ⟨e, z⟩)]
    unfold stepR
    rw [ew, stp_n1.1, if_pos rfl]
    unfold badK
    rw [if_neg (by omega)]; rfl
  · rw [if_neg e]
    by_cases e2 : wdS t = nI 28
    · have e3 : Z.2.1 = 0 := by
        by_cases q : Z.2.1 = 0
        · exact q
        · exact absurd ⟨e2, q⟩ h28
      rw [if_pos e2, if_pos e3]
      unfold stepR
      rw [e2, show stpN (nI 28) = 10 from by decide, if_pos rfl]
      unfold badK
      rw [if_neg (by rw [wd_kind (by decide) e2]; decide)]; rfl
    · rw [if_neg e2]
theorem ZMq.end_ {M : Mem} {Z : Zw} {k : Nat} {r : Rs} {x : Nat} (hS : Z.1.1 1 < 30) (e : k = 7 ∨ k = 8) (h : ZMq M (pushZ Z k r) (Z.1.1 1)) : ZMq M (pushZ Z k r) x := by
  refine ⟨h.1, fun s hs => ⟨(h.2 s hs).1, (h.2 s hs).2.1, fun a b => ?_⟩⟩
  by_cases c : s = Z.1.1 1
  · subst c
    obtain ⟨s1, s2, s3, s4⟩ := push_S (Z := Z) (k := k) (r := r) hS
    rw [s2, s3, if_pos e] at b
    omega
  · exact (h.2 s hs).2.2 c b
theorem ZMq.lay {M : Mem} {Z : Zw} {k : Nat} {r : Rs} {x : Nat} (hS : Z.1.1 1 < 30) (e : ¬ (k = 7 ∨ k = 8)) (h : ZMq M (pushZ Z k r) (Z.1.1 1)) : ZMq (sR M 55 0 (upd (M.1 55 0) (2100 + 9 * Z.1.1 1 + 8) (M.1 50 0 25))) (pushZ Z k r) x := by
  obtain ⟨s1, s2, s3, s4⟩ := push_S (Z := Z) (k := k) (r := r) hS
  have ej : ∀ j, ¬ j = 2100 + 9 * Z.1.1 1 + 8 → (sR M 55 0 (upd (M.1 55 0) (2100 + 9 * Z.1.1 1 + 8) (M.1 50 0 25))).1 55 0 j = M.1 55 0 j := fun j hj => by rw [sR_at, upd_ne _ _ hj]
  refine ⟨by rw [sR_ne _ _ _ _ (by decide)]; exact h.1, fun s hs => ?_⟩
  obtain ⟨h1, h2, h3⟩ := h.2 s hs
  refine ⟨by rw [ej _ (by omega)]; exact h1, h2.eq (ej _ (by omega)) (ej _ (by omega)) (ej _ (by omega)) (ej _ (by omega)), fun a b => ?_⟩
  by_cases c : s = Z.1.1 1
  · subst c
    rw [sR_at, upd_at, h.1, s3, s2, if_neg e]
  · rw [ej _ (by omega)]; exact h3 c b
theorem ZMq.cl {K : Co} {M : Mem} {Z : Zw} (o : ZOK K Z) (h0 : ¬ Z.2.1 = 0) (h : ZMq M Z 1000) : ZMq (sR M 55 0 (upd (M.1 55 0) (2100 + 9 * Z.2.2 (Z.2.1 - 1) + 8) (M.1 50 0 25))) (closeZ Z) 1000 := by
  obtain ⟨c1, c2, c3, c4, c5⟩ := close_k (Z := Z) (s := 0)
  obtain ⟨x1, x2, x3⟩ := o.2.2.1 (Z.2.1 - 1) (by omega)
  have hS := o.1.2.1
  have cS : (closeZ Z).1.1 1 = Z.1.1 1 := c4 1 (by omega)
  have ej : ∀ j, ¬ j = 2100 + 9 * Z.2.2 (Z.2.1 - 1) + 8 → (sR M 55 0 (upd (M.1 55 0) (2100 + 9 * Z.2.2 (Z.2.1 - 1) + 8) (M.1 50 0 25))).1 55 0 j = M.1 55 0 j := fun j hj => by rw [sR_at, upd_ne _ _ hj]
  refine ⟨by rw [sR_ne _ _ _ _ (by decide), cS]; exact h.1, fun s hs => ?_⟩
  rw [cS] at hs ⊢
  obtain ⟨h1, h2, h3⟩ := h.2 s hs
  rw [c4 (10 + s) (by omega), c1]
  refine ⟨by rw [ej _ (by omega)]; exact h1, h2.eq (ej _ (by omega)) (ej _ (by omega)) (ej _ (by omega)) (ej _ (by omega)), fun a b => ?_⟩
  by_cases c : s = Z.2.2 (Z.2.1 - 1)
  · subst c
    rw [c5, sR_at, upd_at]; exact h.1
  · rw [c4 (100 + s) (by omega)] at b ⊢
    rw [ej _ (by omega)]; exact h3 a b
/-- what is behind the loop -/
def Wend (P : Nat → Int32) (n : Nat) (K : Co) (N : Nat → Nat → Int64) (m : Nat) (Z : Zw) (t : Tk) (M : Mem) (X : Option (Int32 × Mem)) : Prop := ∃ M', X = f_X11_weeks_50 M' ∧ VkF M M' ∧ (∀ f, weeksR P n K.1 N m Z t = .inl f → BM M' f) ∧ ∀ Z', weeksR P n K.1 N m Z t = .inr Z' → M'.1 50 0 12 = 0 ∧ ZMq M' Z' 1000 ∧ ZOK K Z' ∧ Z'.2.1 = 0
theorem Wend.bad {P : Nat → Int32} {n : Nat} {K : Co} {N : Nat → Nat → Int64} {m : Nat} {Z : Zw} {t : Tk} {M M1 : Mem} {X : Option (Int32 × Mem)} {f : Ft} (v : VkF M M1) (h : ∃ M', X = f_X11_weeks_50 M' ∧ BM M' f ∧ VkF M1 M') (e : weeksR P n K.1 N m Z t = .inl f) : Wend P n K N m Z t M X := by
  obtain ⟨M', h1, h2, h3⟩ := h
  refine ⟨M', h1, v.tr h3, fun f' ef => ?_, fun Z' ez => ?_⟩
  · rw [e] at ef; cases ef; exact h2
  · rw [e] at ez; cases ez
theorem Wend.go {P : Nat → Int32} {n : Nat} {K : Co} {N : Nat → Nat → Int64} {m m' : Nat} {Z Z2 : Zw} {t t2 : Tk} {M M1 : Mem} {X : Option (Int32 × Mem)} (v : VkF M M1) (h : Wend P n K N m' Z2 t2 M1 X) (e : weeksR P n K.1 N m Z t = weeksR P n K.1 N m' Z2 t2) : Wend P n K N m Z t M X := by
  obtain ⟨M', h1, h2, h3, h4⟩ := h
  exact ⟨M', h1, v.tr h2, fun f' ef => h3 f' (by rw [← e]; exact ef), fun Z' ez => h4 Z' (by rw [← e]; exact ez)⟩
set_option maxHeartbeats 1000000 in
theorem mw_step {P : Nat → Int32} {n : Nat} {K : Co} {N : Nat → Nat → Int64} (B : BY P n) {m d : Nat} {f fu : Nat → Nat} {f0 : Nat} {M : Mem} {t : Tk} {Z : Zw} (mt : MT t) (o : ZOK K Z) (h : GM P n M t) (hN : NXm M 0 K.1 N) (hz : ZMq M Z 1000) (hd : Z.2.1 = d) (hf : Z.2.2 = f) (hfu : ∀ j, j < d → m < fu j) (hf0 : m < f0) (hm : m < 4000) (h0 : ¬ (t.2.2.1 = 0 ∧ Z.2.1 = 0)) (h28 : ¬ (wdS t = nI 28 ∧ ¬ Z.2.1 = 0))
    (ih : ∀ (fu' : Nat → Nat) (M' : Mem) (t' : Tk) (Z' : Zw), (∀ j, j < Z'.2.1 → m < fu' j) → t.1 + 1 ≤ t'.1 → MT t' → ZOK K Z' → GM P n M' t' → NXm M' 0 K.1 N → ZMq M' Z' 1000 → Wend P n K N m Z' t' M' (cont Z'.2.2 fu' f0 Z'.2.1 M')) : Wend P n K N (m + 1) Z t M ((f_X11_readStep (40 - d) (nI d) M).bind (cont f fu f0 d)) := by
  have hS := o.1.2.1
  have hd3 := o.1.2.2
  have ew := weeksR_st (P := P) (n := n) (c := K.1) (N := N) (m := m) h0 h28
  have stk : ∀ j, j < d → f j < 30 ∧ 0 < fu j := fun j hj => ⟨by have := (o.2.2.1 j (by omega)).1; rw [hf] at this; omega, by have := hfu j hj; omega⟩
  rw [show 40 - d = (39 - d) + 1 by omega]
  cases hu : (if stpN (wdS t) = 10 then some (badK t 2) else if Z.1.1 1 = 30 then some (6, t.1) else if (stpN (wdS t) = 7 ∨ stpN (wdS t) = 8) ∧ Z.2.1 = 3 then some (7, t.1) else none) with
  | some g =>
    obtain ⟨M1, a1, y1, b1⟩ := stp_bad (q := 39 - d) (d := d) h hz.1 hS hd (by omega) hu
    rw [a1, Option.bind_some]
    refine Wend.bad y1.v (cont_b d M1 stk (by omega) b1) ?_
    rw [ew]
    have es : stepR P n K.1 N Z t = .inl g := by
      unfold stepR
      by_cases c1 : stpN (wdS t) = 10
      · rw [if_pos c1] at hu ⊢; rw [Option.some.inj hu]
      rw [if_neg c1] at hu ⊢
      by_cases c2 : Z.1.1 1 = 30
      · rw [if_pos c2] at hu ⊢; rw [Option.some.inj hu]
      rw [if_neg c2] at hu ⊢
      by_cases c3 : (stpN (wdS t) = 7 ∨ stpN (wdS t) = 8) ∧ Z.2.1 = 3
      · rw [if_pos c3] at hu ⊢; rw [Option.some.inj hu]
      · rw [if_neg c3] at hu; cases hu
    rw [es]; rfl
  | none =>
    have c1 : ¬ stpN (wdS t) = 10 := fun z => by rw [if_pos z] at hu; cases hu
    rw [if_neg c1] at hu
    have c2 : ¬ Z.1.1 1 = 30 := fun z => by rw [if_pos z] at hu; cases hu
    rw [if_neg c2] at hu
    have c3 : ¬ ((stpN (wdS t) = 7 ∨ stpN (wdS t) = 8) ∧ Z.2.1 = 3) := fun z => by rw [if_pos z] at hu; cases hu
    have hS30 : Z.1.1 1 < 30 := by omega
    obtain ⟨M9, a9, v9, b9, w9⟩ := stp_good (q := 39 - d) (d := d) B o h hN hz hS30 hd (by omega) c1 c3
    have es : stepR P n K.1 N Z t = bnd (restR P n K.1 N (stpN (wdS t)) (nx P n t)) fun a => .inr (a.1, pushZ Z (stpN (wdS t)) a.2) := by
      unfold stepR
      rw [if_neg c1, if_neg c2, if_neg c3]
    have l1 := nx_le (P := P) (n := n) mt
    rw [a9]
    -- what comes of it: a fault, or the next draft
    have out : (∃ g, weeksR P n K.1 N (m + 1) Z t = .inl g ∧ BM M9 g) ∨ ∃ a t', weeksR P n K.1 N (m + 1) Z t = weeksR P n K.1 N m (pushZ Z (stpN (wdS t)) a) t' ∧ t.1 + 1 ≤ t'.1 ∧ MT t' ∧ ZOK K (pushZ Z (stpN (wdS t)) a) ∧ GM P n M9 t' ∧ ZMq M9 (pushZ Z (stpN (wdS t)) a) (Z.1.1 1) := by
      cases hr : restR P n K.1 N (stpN (wdS t)) (nx P n t) with
      | inl g =>
        refine Or.inl ⟨g, ?_, b9 g hr⟩
        rw [ew, es, hr]; rfl
      | inr a =>
        obtain ⟨b10, w10⟩ := w9 a hr
        rw [hr] at es
        have es : stepR P n K.1 N Z t = .inr (a.1, pushZ Z (stpN (wdS t)) a.2) := es
        cases hs : stopR P n a.1 with
        | inl g =>
          refine Or.inl ⟨g, ?_, b10 g hs⟩
          rw [ew, es]
          show (bnd (stopR P n a.1) fun t' => weeksR P n K.1 N m (pushZ Z (stpN (wdS t)) a.2) t') = _
          rw [hs]; rfl
        | inr t' =>
          obtain ⟨g10, z10⟩ := w10 t' hs
          obtain ⟨lz, oz⟩ := step_ok o mt es
          obtain ⟨i1, i2⟩ := stop_inv hs
          have p0 : a.1.1 < a.1.2.1 ∨ a.1.2.2.1 = 0 := by
            have := rest_wf B (nx_wf B h.2.2.1) hr
            rcases this.2.2.2.2.1 with q | q
            · exact Or.inr q
            · exact Or.inl q
          have p1 : a.1.1 < a.1.2.1 := by
            rcases p0 with q | q
            · exact q
            · omega
          have p2 : a.1.1 + 1 ≤ t'.1 := by rw [i2]; exact nx_lt p1
          have l0 : t.1 ≤ a.1.1 := lz.1
          refine Or.inr ⟨a.2, t', ?_, by omega, by rw [i2]; exact tok_mt, oz, g10, z10⟩
          rw [ew, es]
          show (bnd (stopR P n a.1) fun t' => weeksR P n K.1 N m (pushZ Z (stpN (wdS t)) a.2) t') = _
          rw [hs]; rfl
    by_cases cb : stpN (wdS t) = 7 ∨ stpN (wdS t) = 8
    · -- a block: one more is open
      rw [if_pos cb]
      have ec : ((f_X11_readStep_142 (f_X11_readStep (39 - d)) (nI d) 1 (nI (2100 + 9 * Z.1.1 1)) FU M9).bind (cont f fu f0 d)) = cont (updN f d (Z.1.1 1)) (updN fu d FU) f0 (d + 1) M9 := by
        rw [cont]
        have e1 : updN f d (Z.1.1 1) d = Z.1.1 1 := by unfold updN; rw [if_pos rfl]
        have e2 : updN fu d FU d = FU := by unfold updN; rw [if_pos rfl]
        rw [e1, e2]
        congr 1
        funext M2
        refine (cont_cg d (fun j hj => ⟨?_, ?_⟩) M2).symm
        · unfold updN; rw [if_neg (by omega)]
        · unfold updN; rw [if_neg (by omega)]
      rw [ec]
      have hFU : m < FU := lt_FU (by omega)
      rcases out with ⟨g, eg, bg⟩ | ⟨a, t', et, lt, mt', oz, g10, z10⟩
      · refine Wend.bad v9 (cont_b (d + 1) M9 (fun j hj => ?_) (by omega) bg) eg
        unfold updN
        by_cases q : j = d
        · rw [if_pos q, if_pos q]; exact ⟨hS30, by omega⟩
        · rw [if_neg q, if_neg q]; exact stk j (by omega)
      · have e1 : (pushZ Z (stpN (wdS t)) a).2.1 = d + 1 := by
          show (if stpN (wdS t) = 7 ∨ stpN (wdS t) = 8 then Z.2.1 + 1 else Z.2.1) = _
          rw [if_pos cb, hd]
        have e2 : (pushZ Z (stpN (wdS t)) a).2.2 = updN f d (Z.1.1 1) := by
          show (if stpN (wdS t) = 7 ∨ stpN (wdS t) = 8 then updN Z.2.2 Z.2.1 (Z.1.1 1) else Z.2.2) = _
          rw [if_pos cb, hd, hf]
        have := ih (updN fu d FU) M9 t' (pushZ Z (stpN (wdS t)) a) (fun j hj => by
          rw [e1] at hj
          unfold updN
          by_cases q : j = d
          · rw [if_pos q]; exact hFU
          · rw [if_neg q]; exact hfu j (by omega)) lt mt' oz g10 (v9.N hN) (ZMq.end_ hS30 cb z10)
        rw [e1, e2] at this
        exact Wend.go v9 this et
    · -- a step by itself
      rw [if_neg cb]
      obtain ⟨FU', hFU'⟩ : ∃ k, FU = k + 1 := ⟨FU - 1, by have := lt_FU (k := 1) (by decide); omega⟩
      rw [hFU', f_X11_readStep_142, if_pos rfl]
      unfold f_X11_readStep_170
      rw [if_pos rfl, w_8, inb_nI_t (show 2100 + 9 * Z.1.1 1 + 8 < 2375 by omega) (by decide), if_pos rfl, nI_clamp (by omega)]
      simp only
      rw [Option.bind_some]
      have v10 := v9.tr (VkF.W (p := 2100 + 9 * Z.1.1 1 + 8) (v := M9.1 50 0 25) (by omega))
      rcases out with ⟨g, eg, bg⟩ | ⟨a, t', et, lt, mt', oz, g10, z10⟩
      · exact Wend.bad v10 (cont_b d _ stk (by omega) bg.C) eg
      · have e1 : (pushZ Z (stpN (wdS t)) a).2.1 = d := by
          show (if stpN (wdS t) = 7 ∨ stpN (wdS t) = 8 then Z.2.1 + 1 else Z.2.1) = _
          rw [if_neg cb, hd]
        have e2 : (pushZ Z (stpN (wdS t)) a).2.2 = f := by
          show (if stpN (wdS t) = 7 ∨ stpN (wdS t) = 8 then updN Z.2.2 Z.2.1 (Z.1.1 1) else Z.2.2) = _
          rw [if_neg cb, hf]
        have := ih fu _ t' (pushZ Z (stpN (wdS t)) a) (fun j hj => by rw [e1] at hj; exact hfu j hj) lt mt' oz g10.C (v10.N hN) (ZMq.lay hS30 cb z10)
        rw [e1, e2] at this
        exact Wend.go v10 this et
set_option maxHeartbeats 1000000 in
theorem mw_loop {P : Nat → Int32} {n : Nat} {K : Co} {N : Nat → Nat → Int64} (B : BY P n) : ∀ (m x f0 : Nat) (fu : Nat → Nat) (M : Mem) (t : Tk) (Z : Zw), x + m = n + 1 → (∀ j, j < Z.2.1 → m < fu j) → m < f0 → x ≤ t.1 → MT t → ZOK K Z → GM P n M t → NXm M 0 K.1 N → ZMq M Z 1000 → Wend P n K N m Z t M (cont Z.2.2 fu f0 Z.2.1 M)
  | 0, x, f0, fu, M, t, Z, hx, _, _, ht, _, _, h, _, _ => by
    have := h.2.2.1.1
    omega
  | m + 1, x, f0, fu, M, t, Z, hx, hfu, hf0, ht, mt, o, h, hN, hz => by
    have hn9 := B.1
    have hS := o.1.2.1
    have ih : ∀ (f0' : Nat), m < f0' → ∀ (fu' : Nat → Nat) (M' : Mem) (t' : Tk) (Z' : Zw), (∀ j, j < Z'.2.1 → m < fu' j) → t.1 + 1 ≤ t'.1 → MT t' → ZOK K Z' → GM P n M' t' → NXm M' 0 K.1 N → ZMq M' Z' 1000 → Wend P n K N m Z' t' M' (cont Z'.2.2 fu' f0' Z'.2.1 M') := fun f0' hf0' fu' M' t' Z' a1 a2 a3 a4 a5 a6 a7 => mw_loop B m (x + 1) f0' fu' M' t' Z' (by omega) a1 hf0' (by omega) a3 a4 a5 a6 a7
    obtain ⟨d, hd⟩ : ∃ d, Z.2.1 = d := ⟨_, rfl⟩
    rw [hd]
    match d, hd with
    | 0, hd =>
      obtain ⟨q, rfl⟩ : ∃ q, f0 = q + 1 := ⟨f0 - 1, by omega⟩
      rw [cont, f_X11_weeks_28, if_pos h.2.2.2, h.2.1.2.2.1]
      have hk := h.2.2.1.2.2.1
      by_cases c0 : t.2.2.1 = 0
      · rw [if_pos (by rw [c0]; rfl)]
        refine ⟨M, rfl, VkF.rf, fun f e => ?_, fun Z' e => ?_⟩
        · rw [weeksR, if_pos c0, if_pos hd] at e; cases e
        · rw [weeksR, if_pos c0, if_pos hd] at e; cases e
          exact ⟨h.2.2.2, hz, o, hd⟩
      · rw [if_neg (by rw [show (0 : Int32) = nI 0 from rfl, eq_nI (by omega) (by omega)]; exact c0)]
        have := mw_step (d := 0) (f := Z.2.2) (fu := fu) (f0 := q) B mt o h hN hz hd rfl (fun j hj => absurd hj (Nat.not_lt_zero _)) (by omega) (by omega) (fun z => c0 z.1) (fun z => z.2 hd) (ih q (by omega))
        have e : cont Z.2.2 fu q 0 = fun M11 => f_X11_weeks_28 q M11 := funext (fun _ => rfl)
        rw [e] at this
        exact this
    | d + 1, hd =>
      have hfd := hfu d (by omega)
      obtain ⟨q, hq⟩ : ∃ q, fu d = q + 1 := ⟨fu d - 1, by omega⟩
      have hd3 := o.1.2.2
      obtain ⟨x1, x2, x3⟩ := o.2.2.1 d (by omega)
      rw [cont, hq, f_X11_readStep_142, if_neg (show ¬ (1 : Int32) = 0 from by decide), if_pos h.2.2.2, r_End h.2.1 h.2.2.1, Option.bind_some]
      unfold iw
      by_cases c28 : wdS t = nI 28
      · rw [if_pos c28, if_neg (show ¬ (1 : Int32) = 0 from by decide)]
        unfold f_X11_readStep_170
        obtain ⟨M1, a1, y1, g1⟩ := must_m (r := 1) B h
        rw [if_neg (show ¬ (1 : Int32) = 0 from by decide)] at g1
        obtain ⟨r2, M2, e2, a2, y2, b2, w2⟩ := stop_m B g1
        rw [if_neg (show ¬ (1 : Int32) = 0 from by decide), r_End h.2.1 h.2.2.1, Option.bind_some]
        unfold iw
        rw [if_pos c28, a1, Option.bind_some, e2, Option.bind_some, a2, Option.bind_some, w_8, inb_nI_t (show 2100 + 9 * Z.2.2 d + 8 < 2375 by omega) (by decide), if_pos rfl, nI_clamp (by omega)]
        simp only
        rw [Option.bind_some]
        have v2 := ((y1.tr y2).v).tr (VkF.W (p := 2100 + 9 * Z.2.2 d + 8) (v := M2.1 50 0 25) (by omega))
        have hk1 : t.2.2.1 = 1 := wd_kind (by decide) c28
        have ew : weeksR P n K.1 N (m + 1) Z t = bnd (stopR P n (nx P n t)) fun t' => weeksR P n K.1 N m (closeZ Z) t' := by
          rw [weeksR, if_neg (by omega), if_pos c28, if_neg (by omega)]
        cases hs : stopR P n (nx P n t) with
        | inl g =>
          refine Wend.bad v2 (cont_b d _ (fun j hj => ⟨?_, ?_⟩) (by omega) (b2 g hs).C) ?_
          · have := (o.2.2.1 j (by omega)).1; omega
          · have := hfu j (by omega); omega
          · rw [ew, hs]; rfl
        | inr t' =>
          obtain ⟨p1, p2⟩ := stop_step g1.2.2.1 hs
          have l1 := (nx_le (P := P) (n := n) mt).1
          have zz := ZMq.cl o (by omega) ((hz.y y1).y y2)
          rw [hd, Nat.add_sub_cancel] at zz
          have oc := o.close (by omega)
          have := ih f0 (by omega) fu (sR M2 55 0 (upd (M2.1 55 0) (2100 + 9 * Z.2.2 d + 8) (M2.1 50 0 25))) t' (closeZ Z) (fun j hj => by
            have hj : j < Z.2.1 - 1 := hj
            have := hfu j (by omega); omega) (by omega) p2 oc (w2 t' hs).C (v2.N hN) zz
          have e1 : (closeZ Z).2.1 = d := by show Z.2.1 - 1 = d; omega
          have e2 : (closeZ Z).2.2 = Z.2.2 := rfl
          rw [e1, e2] at this
          refine Wend.go v2 this ?_
          rw [ew, hs]; rfl
      · rw [if_neg c28, if_pos (show (0 : Int32) = 0 from rfl), bind_as, show nI d + (1 : Int32) = nI (d + 1) from add_nI d 1]
        have := mw_step (d := d + 1) (f := Z.2.2) (fu := updN fu d q) (f0 := f0) B mt o h hN hz hd rfl (fun j hj => by
          unfold updN
          by_cases e : j = d
          · rw [if_pos e]; omega
          · rw [if_neg e]; have := hfu j (by omega); omega) (by omega) (by omega) (fun z => by omega) (fun z => c28 z.1) (ih f0 (by omega))
        rw [show 40 - (d + 1) = 39 - d by omega] at this
        have e : cont Z.2.2 (updN fu d q) f0 (d + 1) = fun M19 => (f_X11_readStep_142 (f_X11_readStep (39 - d)) (nI d) 1 (nI (2100 + 9 * Z.2.2 d)) q M19).bind (cont Z.2.2 fu f0 d) := by
          funext M19
          rw [cont]
          have e1 : updN fu d q d = q := by unfold updN; rw [if_pos rfl]
          rw [e1]
          congr 1
          funext M2
          exact cont_cg d (fun j hj => ⟨rfl, by unfold updN; rw [if_neg (by omega)]⟩) M2
        rw [e] at this
        exact this
