/-! ===== the parts of a court: what they say; the class on jurors, proofs, weathers ===== -/
abbrev Dr : Type := Co × (Nat → Nat → Int64) × Bool
abbrev Po : Type := Ft ⊕ (Tk × Dr)
def jurR (P : Nat → Int32) (n : Nat) (t : Tk) : Ft ⊕ (Tk × Int32 × Int32 × Int32) := bnd (optR P n 1 (eithR P n 99) t) fun a => bnd (optR P n 3 (numR P n 0 20) a.1) fun b => bnd (optR P n 4 (numR P n 0 99) b.1) fun c => .inr (c.1, a.2, b.2, c.2)
def addJ (K : Co) (l s p : Int32) : Co := (bump K.1 0, set2 (set2 (set2 K.2 0 (K.1 0) l) 1 (K.1 0) s) 2 (K.1 0) p)
def partJ (P : Nat → Int32) (n : Nat) (D : Dr) (t : Tk) : Po := bnd (newR P n D.1.1 D.2.1 0 t) fun a => bnd (jurR P n a.1) fun b => .inr (b.1, addJ D.1 b.2.1 b.2.2.1 b.2.2.2, addN D.2.1 0 (D.1.1 0) a.2, D.2.2)
def addP (K : Co) (v : Int32) : Co := (bump K.1 1, set2 K.2 4 (K.1 1) v)
def partP (P : Nat → Int32) (n : Nat) (D : Dr) (t : Tk) : Po := bnd (newR P n D.1.1 D.2.1 1 t) fun a => bnd (eithR P n 99 a.1) fun b => .inr (b.1, addP D.1 b.2, addN D.2.1 1 (D.1.1 1) a.2, D.2.2)
def folK (K : Co) (a b d : Nat) : Co := (fun j => if j = 100 + a then b else if j = 200 + a then d else K.1 j, K.2)
def addW (K : Co) : Co := folK (bump K.1 2, K.2) (K.1 2) (K.1 2) (K.1 2)
def partW (P : Nat → Int32) (n : Nat) (D : Dr) (t : Tk) : Po := bnd (newR P n D.1.1 D.2.1 2 t) fun a => .inr (a.1, addW D.1, addN D.2.1 2 (D.1.1 2) a.2, D.2.2)
def growR (P : Nat → Int32) (n : Nat) (c : Nat → Nat) (N : Nat → Nat → Int64) (q : Nat) : Nat → Tk → (Nat → Nat → Int32) → Ft ⊕ (Tk × (Nat → Nat → Int32))
  | 0, t, f => .inr (t, f)
  | m + 1, t, f => if wdS t = nI 12 then bnd (seeR c N 2 (nx P n t)) fun w => bnd (eithR P n 99 (nx P n (nx P n t))) fun v => growR P n c N q m v.1 (set2 f 5 (6 * q + w) v.2) else .inr (t, f)
def partC (P : Nat → Int32) (n : Nat) (D : Dr) (t : Tk) : Po := bnd (newR P n D.1.1 D.2.1 3 t) fun a => bnd (growR P n D.1.1 D.2.1 (D.1.1 3) (n + 1) a.1 D.1.2) fun b => .inr (b.1, (bump D.1.1 3, b.2), addN D.2.1 3 (D.1.1 3) a.2, D.2.2)
def partS (P : Nat → Int32) (n : Nat) (D : Dr) (t : Tk) : Po := bnd (seeR D.1.1 D.2.1 0 (nx P n t)) fun a => bnd (seeR D.1.1 D.2.1 0 (nx P n (nx P n t))) fun b =>
  if a = b then .inl (5, (nx P n (nx P n t)).1) else bnd (numR P n 0 20 (nx P n (nx P n (nx P n t)))) fun v => .inr (v.1, (D.1.1, set2 D.1.2 3 (10 * a + b) v.2), D.2.1, D.2.2)
def partF (P : Nat → Int32) (n : Nat) (D : Dr) (t : Tk) : Po := bnd (seeR D.1.1 D.2.1 2 (nx P n t)) fun a => bnd (wdR P n 9 (nx P n (nx P n t))) fun t3 => bnd (seeR D.1.1 D.2.1 2 t3) fun b => bnd (wdR P n 10 (nx P n t3)) fun t5 => bnd (seeR D.1.1 D.2.1 2 t5) fun d => .inr (nx P n t5, folK D.1 a b d, D.2.1, D.2.2)
def partH (P : Nat → Int32) (n : Nat) (D : Dr) (t : Tk) : Po := if ¬ D.1.1 4 = 0 then .inl (5, t.1) else bnd (numR P n 1 99 (nx P n t)) fun v => .inr (v.1, (updN D.1.1 4 v.2.toNatClampNeg, D.1.2), D.2.1, D.2.2)
def partL (P : Nat → Int32) (n : Nat) (D : Dr) (t : Tk) : Po := if D.2.2 = true then .inl (5, t.1) else
  if wdS (nx P n t) = nI 15 then .inr (nx P n (nx P n t), (updN D.1.1 5 0, D.1.2), D.2.1, true) else if wdS (nx P n t) = nI 16 then .inr (nx P n (nx P n t), (updN D.1.1 5 1, D.1.2), D.2.1, true) else if wdS (nx P n t) = nI 17 then .inr (nx P n (nx P n t), (updN D.1.1 5 2, D.1.2), D.2.1, true) else .inl (badK (nx P n t) 2)
def partR (P : Nat → Int32) (n : Nat) (D : Dr) (t : Tk) : Po :=
  if wdS t = nI 0 then partJ P n D t else if wdS t = nI 5 then partS P n D t else if wdS t = nI 6 then partP P n D t else if wdS t = nI 7 then partW P n D t else if wdS t = nI 8 then partF P n D t else if wdS t = nI 11 then partC P n D t else if wdS t = nI 13 then partH P n D t else if wdS t = nI 14 then partL P n D t else .inl (badK t 2)
def courtR (P : Nat → Int32) (n : Nat) : Nat → Dr → Tk → Ft ⊕ Dr
  | 0, D, _ => .inr D
  | m + 1, D, t => if t.2.2.1 = 0 then .inr D else bnd (partR P n D t) fun a => bnd (stopR P n a.1) fun t' => courtR P n m a.2 t'
def CO (P : Nat → Int32) (n : Nat) (M : Mem) (r : Int32 × Mem) (o : Po) : Prop := CtF M r.2 ∧ match o with | .inl f => r.1 = 0 ∧ BX r.2 f | .inr a => r.1 = 1 ∧ GX P n r.2 a.1 ∧ DX r.2 a.2.1 a.2.2.1 a.2.2.2
def RwF (cc J : Nat) (M M' : Mem) : Prop := CtF M M' ∧ (∀ c, 8 ≤ c → c ≤ 19 → ¬ c = cc → M'.1 c 4 = M.1 c 4) ∧ (∀ j, ¬ j = J → M'.1 cc 4 j = M.1 cc 4 j) ∧ M'.1 33 0 = M.1 33 0 ∧ M'.2 10 4 = M.2 10 4
set_option maxHeartbeats 600000 in
theorem RwF.tr {cc J : Nat} {M M1 M2 : Mem} (a : RwF cc J M M1) (b : RwF cc J M1 M2) : RwF cc J M M2 := ⟨a.1.tr b.1, fun c h1 h2 h3 => (b.2.1 c h1 h2 h3).trans (a.2.1 c h1 h2 h3), fun j h => (b.2.2.1 j h).trans (a.2.2.1 j h), b.2.2.2.1.trans a.2.2.2.1, b.2.2.2.2.trans a.2.2.2.2⟩
set_option maxHeartbeats 600000 in
theorem XFr.p {cc J : Nat} {M M' : Mem} (a : XFr M M') : RwF cc J M M' := by
  refine ⟨a.w, fun c h1 h2 _ => (a.1 c 4 (by omega)).1, fun j _ => ?_, (a.1 33 0 (by decide)).1, (a.1 10 4 (by decide)).2⟩
  rw [(a.1 cc 4 (by omega)).1]
set_option maxHeartbeats 600000 in
theorem RwF.W {cc J : Nat} {M : Mem} {v : Int32} (hc : 8 ≤ cc ∧ cc ≤ 19) : RwF cc J M (sR M cc 4 (upd (M.1 cc 4) J v)) := ⟨CtF.R hc, fun c h1 h2 h3 => sR_ne _ _ _ _ (fun z => h3 z.1), fun j h => by rw [sR_at, upd_ne _ _ h], sR_ne _ _ _ _ (by omega), rfl⟩
set_option maxHeartbeats 600000 in
theorem opt_x {P : Nat → Int32} {n i cc J : Nat} {R : Tk → Ft ⊕ (Tk × Int32)} {F : Mem → Option (Int32 × Mem)} {M : Mem} {t : Tk} {K : Mem → Option (Int32 × Mem)} {Q : Int32 × Mem → Prop} (B : BY P n) (hF : ∀ M t, GX P n M t → ∃ q, F M = some q ∧ OXv P n M q (R t)) (hc : 8 ≤ cc ∧ cc ≤ 19) (hJ : J < 10) (h : GX P n M t) (h0 : M.1 cc 4 J = 0)
    (bad : ∀ M' f, optR P n i R t = .inl f → XFr M M' → BX M' f → Q (0, M')) (good : ∀ M' a, optR P n i R t = .inr a → RwF cc J M M' → GX P n M' a.1 → M'.1 cc 4 J = a.2 → ∃ r, K M' = some r ∧ Q r) :
    ∃ r, ((f_X5_takeWord (nI i) M).bind fun q => if q.1 = 0 then K q.2 else (F q.2).bind fun q2 => if q2.1 = 0 then some ((0 : Int32), q2.2) else if inb (nI J) 10 = true then K (sR q2.2 cc 4 (upd (q2.2.1 cc 4) (nI J).toNatClampNeg (q2.2.1 30 0 9))) else none) = some r ∧ Q r := by
  obtain ⟨M1, a1, b1, d1⟩ := take_x (i := i) B h
  rw [a1, Option.bind_some]
  unfold iw
  by_cases c : wdS t = nI i
  · have eo : optR P n i R t = R (nx P n t) := if_pos c
    rw [if_pos c] at d1
    simp only
    rw [if_pos c, if_neg (show ¬ (1 : Int32) = 0 from by decide)]
    obtain ⟨q, a2, b2, d2⟩ := hF M1 (nx P n t) d1
    rw [a2, Option.bind_some]
    rw [eo] at bad good
    generalize R (nx P n t) = o at d2 bad good
    match o, d2 with
    | .inl f, d2 =>
      rw [if_pos d2.1]
      exact ⟨_, rfl, bad q.2 f rfl (b1.x.tr b2) d2.2⟩
    | .inr a, d2 =>
      obtain ⟨e1, e2, e3⟩ := d2
      rw [if_neg (by rw [e1]; decide), inb_nI_t hJ (by decide), if_pos rfl, nI_clamp (by omega)]
      refine good _ a rfl ((b1.x.tr b2).p.tr (RwF.W hc)) (e2.sR hc) ?_
      rw [sR_at, upd_at, e3]
  · have eo : optR P n i R t = .inr (t, 0) := if_neg c
    rw [if_neg c] at d1
    simp only
    rw [if_neg c, if_pos (show (0 : Int32) = 0 from rfl)]
    refine good M1 (t, 0) eo b1.x.p d1 ?_
    rw [(b1.x.1 cc 4 (by omega)).1]
    exact h0
set_option maxHeartbeats 600000 in
theorem juror_x {P : Nat → Int32} {n J : Nat} {M : Mem} {t : Tk} (B : BY P n) (h : GX P n M t) (hJ : J < 10) (h9 : M.1 30 0 9 = nI J) : ∃ r, f_X2_readJuror 4 M = some r ∧ CtF M r.2 ∧ ((∀ c, 8 ≤ c → c ≤ 19 → ¬ c = 11 → ¬ c = 12 → ¬ c = 13 → r.2.1 c 4 = M.1 c 4) ∧ (∀ j, ¬ j = J → r.2.1 11 4 j = M.1 11 4 j ∧ r.2.1 12 4 j = M.1 12 4 j ∧ r.2.1 13 4 j = M.1 13 4 j) ∧ r.2.1 33 0 = M.1 33 0 ∧ r.2.2 10 4 = M.2 10 4) ∧ match jurR P n t with | .inl f => r.1 = 0 ∧ BX r.2 f | .inr a => r.1 = 1 ∧ GX P n r.2 a.1 ∧ r.2.1 11 4 J = a.2.1 ∧ r.2.1 12 4 J = a.2.2.1 ∧ r.2.1 13 4 J = a.2.2.2 := by
  have e0 : ∃ M6, f_X2_readJuror 4 M = ((f_X5_takeWord (nI 1) M6).bind fun q => if q.1 = 0 then f_X2_readJuror_55 4 (nI J) q.2 else (f_X5_needEither (99 : Int32) q.2).bind fun q2 => if q2.1 = 0 then some ((0 : Int32), q2.2) else if inb (nI J) 10 = true then f_X2_readJuror_55 4 (nI J) (sR q2.2 11 4 (upd (q2.2.1 11 4) (nI J).toNatClampNeg (q2.2.1 30 0 9))) else none) ∧ CtF M M6 ∧ GX P n M6 t ∧ ((∀ c, 8 ≤ c → c ≤ 19 → ¬ c = 11 → ¬ c = 12 → ¬ c = 13 → M6.1 c 4 = M.1 c 4) ∧ (∀ j, ¬ j = J → M6.1 11 4 j = M.1 11 4 j ∧ M6.1 12 4 j = M.1 12 4 j ∧ M6.1 13 4 j = M.1 13 4 j) ∧ M6.1 33 0 = M.1 33 0 ∧ M6.2 10 4 = M.2 10 4) ∧ M6.1 11 4 J = 0 ∧ M6.1 12 4 J = 0 ∧ M6.1 13 4 J = 0 := by
    refine ⟨sR (sR (sR M 11 4 (upd (M.1 11 4) J 0)) 12 4 (upd ((sR M 11 4 (upd (M.1 11 4) J 0)).1 12 4) J 0)) 13 4 (upd ((sR (sR M 11 4 (upd (M.1 11 4) J 0)) 12 4 (upd ((sR M 11 4 (upd (M.1 11 4) J 0)).1 12 4) J 0)).1 13 4) J 0), ?_, ((CtF.R (by omega)).tr (CtF.R (by omega))).tr (CtF.R (by omega)), ((h.sR (by omega)).sR (by omega)).sR (by omega), ⟨fun c h1 h2 h3 h4 h5 => ?_, fun j hj => ⟨?_, ?_, ?_⟩, ?_, rfl⟩, ?_, ?_, ?_⟩
    · unfold f_X2_readJuror
      rw [h9, inb_nI_t hJ (by decide), if_pos rfl, if_pos rfl, if_pos rfl, nI_clamp (by omega)]
      rfl
    · rw [sR_ne _ _ _ _ (by omega), sR_ne _ _ _ _ (by omega), sR_ne _ _ _ _ (by omega)]
    · rw [sR_ne _ _ _ _ (by omega), sR_ne _ _ _ _ (by omega), sR_at, upd_ne _ _ hj]
    · rw [sR_ne _ _ _ _ (by omega), sR_at, upd_ne _ _ hj, sR_ne _ _ _ _ (by omega)]
    · rw [sR_at, upd_ne _ _ hj, sR_ne _ _ _ _ (by omega), sR_ne _ _ _ _ (by omega)]
    · rw [sR_ne _ _ _ _ (by omega), sR_ne _ _ _ _ (by omega), sR_ne _ _ _ _ (by omega)]
    · rw [sR_ne _ _ _ _ (by omega), sR_ne _ _ _ _ (by omega), sR_at, upd_at]
    · rw [sR_ne _ _ _ _ (by omega), sR_at, upd_at]
    · rw [sR_at, upd_at]
  obtain ⟨M6, e1, W6, G6, ⟨f1, f2, f3, f4⟩, z1, z2, z3⟩ := e0
  rw [e1]
  refine opt_x (R := eithR P n 99) (cc := 11) B (fun M t h => eith_x B h) (by omega) hJ G6 z1 (fun M' f eo fx bx => ?_) (fun M7 a eo p7 G7 v7 => ?_)
  · rw [show jurR P n t = .inl f from by simp only [jurR, bnd, eo]]
    refine ⟨W6.tr fx.w, ⟨fun c h1 h2 h3 h4 h5 => ?_, fun j hj => ⟨?_, ?_, ?_⟩, ?_, ?_⟩, rfl, bx⟩
    · exact ((fx.1 c 4 (by omega)).1).trans (f1 c h1 h2 h3 h4 h5)
    · exact (congrFun (fx.1 11 4 (by omega)).1 j).trans (f2 j hj).1
    · exact (congrFun (fx.1 12 4 (by omega)).1 j).trans (f2 j hj).2.1
    · exact (congrFun (fx.1 13 4 (by omega)).1 j).trans (f2 j hj).2.2
    · exact ((fx.1 33 0 (by omega)).1).trans f3
    · exact ((fx.1 10 4 (by omega)).2).trans f4
  have g1 : ∀ c, 8 ≤ c → c ≤ 19 → ¬ c = 11 → ¬ c = 12 → ¬ c = 13 → M7.1 c 4 = M.1 c 4 := fun c h1 h2 h3 h4 h5 => (p7.2.1 c h1 h2 h3).trans (f1 c h1 h2 h3 h4 h5)
  have g2 : ∀ j, ¬ j = J → M7.1 11 4 j = M.1 11 4 j ∧ M7.1 12 4 j = M.1 12 4 j ∧ M7.1 13 4 j = M.1 13 4 j := fun j hj => ⟨(p7.2.2.1 j hj).trans (f2 j hj).1, (congrFun (p7.2.1 12 (by decide) (by decide) (by decide)) j).trans (f2 j hj).2.1, (congrFun (p7.2.1 13 (by decide) (by decide) (by decide)) j).trans (f2 j hj).2.2⟩
  have g3 := p7.2.2.2.1.trans f3
  have g4 := p7.2.2.2.2.trans f4
  have W7 := W6.tr p7.1
  have y2 : M7.1 12 4 J = 0 := (congrFun (p7.2.1 12 (by decide) (by decide) (by decide)) J).trans z2
  have y3 : M7.1 13 4 J = 0 := (congrFun (p7.2.1 13 (by decide) (by decide) (by decide)) J).trans z3
  unfold f_X2_readJuror_55
  refine opt_x (i := 3) (R := numR P n 0 20) (cc := 12) B (fun M t h => needN_x B h) (by omega) hJ G7 y2 (fun M' f eo2 fx bx => ?_) (fun M8 b eo2 p8 G8 v8 => ?_)
  · refine ⟨W7.tr fx.w, ⟨fun c h1 h2 h3 h4 h5 => ?_, fun j hj => ⟨?_, ?_, ?_⟩, ?_, ?_⟩, ?_⟩
    · exact ((fx.1 c 4 (by omega)).1).trans (g1 c h1 h2 h3 h4 h5)
    · exact (congrFun (fx.1 11 4 (by omega)).1 j).trans (g2 j hj).1
    · exact (congrFun (fx.1 12 4 (by omega)).1 j).trans (g2 j hj).2.1
    · exact (congrFun (fx.1 13 4 (by omega)).1 j).trans (g2 j hj).2.2
    · exact ((fx.1 33 0 (by omega)).1).trans g3
    · exact ((fx.1 10 4 (by omega)).2).trans g4
    · rw [show jurR P n t = .inl f from by simp only [jurR, bnd, eo, eo2]]
      exact ⟨rfl, bx⟩
  have k1 : ∀ c, 8 ≤ c → c ≤ 19 → ¬ c = 11 → ¬ c = 12 → ¬ c = 13 → M8.1 c 4 = M.1 c 4 := fun c h1 h2 h3 h4 h5 => (p8.2.1 c h1 h2 h4).trans (g1 c h1 h2 h3 h4 h5)
  have k2 : ∀ j, ¬ j = J → M8.1 11 4 j = M.1 11 4 j ∧ M8.1 12 4 j = M.1 12 4 j ∧ M8.1 13 4 j = M.1 13 4 j := fun j hj => ⟨(congrFun (p8.2.1 11 (by decide) (by decide) (by decide)) j).trans (g2 j hj).1, (p8.2.2.1 j hj).trans (g2 j hj).2.1, (congrFun (p8.2.1 13 (by decide) (by decide) (by decide)) j).trans (g2 j hj).2.2⟩
  have k3 := p8.2.2.2.1.trans g3
  have k4 := p8.2.2.2.2.trans g4
  have W8 := W7.tr p8.1
  have x1 : M8.1 11 4 J = a.2 := (congrFun (p8.2.1 11 (by decide) (by decide) (by decide)) J).trans v7
  have x3 : M8.1 13 4 J = 0 := (congrFun (p8.2.1 13 (by decide) (by decide) (by decide)) J).trans y3
  unfold f_X2_readJuror_85
  have fin : ∀ M9 (d : Tk × Int32), RwF 13 J M8 M9 → GX P n M9 d.1 → M9.1 13 4 J = d.2 → CtF M M9 ∧ ((∀ c, 8 ≤ c → c ≤ 19 → ¬ c = 11 → ¬ c = 12 → ¬ c = 13 → M9.1 c 4 = M.1 c 4) ∧ (∀ j, ¬ j = J → M9.1 11 4 j = M.1 11 4 j ∧ M9.1 12 4 j = M.1 12 4 j ∧ M9.1 13 4 j = M.1 13 4 j) ∧ M9.1 33 0 = M.1 33 0 ∧ M9.2 10 4 = M.2 10 4) ∧ (1 : Int32) = 1 ∧ GX P n M9 d.1 ∧ M9.1 11 4 J = a.2 ∧ M9.1 12 4 J = b.2 ∧ M9.1 13 4 J = d.2 := by
    intro M9 d p9 G9 v9
    refine ⟨W8.tr p9.1, ⟨fun c h1 h2 h3 h4 h5 => (p9.2.1 c h1 h2 h5).trans (k1 c h1 h2 h3 h4 h5), fun j hj => ⟨?_, ?_, ?_⟩, p9.2.2.2.1.trans k3, p9.2.2.2.2.trans k4⟩, rfl, G9, ?_, ?_, v9⟩
    · exact (congrFun (p9.2.1 11 (by decide) (by decide) (by decide)) j).trans (k2 j hj).1
    · exact (congrFun (p9.2.1 12 (by decide) (by decide) (by decide)) j).trans (k2 j hj).2.1
    · exact (p9.2.2.1 j hj).trans (k2 j hj).2.2
    · exact (congrFun (p9.2.1 11 (by decide) (by decide) (by decide)) J).trans x1
    · exact (congrFun (p9.2.1 12 (by decide) (by decide) (by decide)) J).trans v8
  refine opt_x (i := 4) (R := numR P n 0 99) (cc := 13) (K := fun M => some ((1 : Int32), M)) B (fun M t h => needN_x B h) (by omega) hJ G8 x3 (fun M' f eo3 fx bx => ?_) (fun M9 d eo3 p9 G9 v9 => ?_)
  · refine ⟨W8.tr fx.w, ⟨fun c h1 h2 h3 h4 h5 => ?_, fun j hj => ⟨?_, ?_, ?_⟩, ?_, ?_⟩, ?_⟩
    · exact ((fx.1 c 4 (by omega)).1).trans (k1 c h1 h2 h3 h4 h5)
    · exact (congrFun (fx.1 11 4 (by omega)).1 j).trans (k2 j hj).1
    · exact (congrFun (fx.1 12 4 (by omega)).1 j).trans (k2 j hj).2.1
    · exact (congrFun (fx.1 13 4 (by omega)).1 j).trans (k2 j hj).2.2
    · exact ((fx.1 33 0 (by omega)).1).trans k3
    · exact ((fx.1 10 4 (by omega)).2).trans k4
    · rw [show jurR P n t = .inl f from by simp only [jurR, bnd, eo, eo2, eo3]]
      exact ⟨rfl, bx⟩
  · refine ⟨_, rfl, ?_⟩
    rw [show jurR P n t = .inr (d.1, a.2, b.2, d.2) from by simp only [jurR, bnd, eo, eo2, eo3]]
    exact fin M9 d p9 G9 v9
