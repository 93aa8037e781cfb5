/-! ===== a court's parts: what they say, and that the class reads them so ===== -/
def bnd {α β : Type} (x : Ft ⊕ α) (f : α → Ft ⊕ β) : Ft ⊕ β := match x with | .inl e => .inl e | .inr a => f a
def optR (P : Nat → Int32) (n i : Nat) (R : Tk → Ft ⊕ (Tk × Int32)) (t : Tk) : Ft ⊕ (Tk × Int32) := if wdS t = nI i then R (nx P n t) else .inr (t, 0)
def takenS (c : Nat → Nat) (N : Nat → Nat → Int64) (l : Int64) : Bool := (fndF (N 0) l (c 0) 0).isSome || (fndF (N 1) l (c 1) 0).isSome || (fndF (N 2) l (c 2) 0).isSome || (fndF (N 3) l (c 3) 0).isSome
def bump (c : Nat → Nat) (q : Nat) : Nat → Nat := updN c q (c q + 1)
def addN (N : Nat → Nat → Int64) (q i : Nat) (l : Int64) : Nat → Nat → Int64 := fun a b => if a = q ∧ b = i then l else N a b
def set2 (f : Nat → Nat → Int32) (a b : Nat) (v : Int32) : Nat → Nat → Int32 := fun x y => if x = a ∧ y = b then v else f x y
def newR (P : Nat → Int32) (n : Nat) (c : Nat → Nat) (N : Nat → Nat → Int64) (q : Nat) (t : Tk) : Ft ⊕ (Tk × Int64) :=
  if c q = moN q then .inl (6, t.1) else if isNm (nx P n t) = true then (if takenS c N (nx P n t).2.2.2.2.1 = true then .inl (3, (nx P n t).1) else .inr (nx P n (nx P n t), (nx P n t).2.2.2.2.1)) else .inl (badK (nx P n t) 2)
def CtF (M M' : Mem) : Prop := (∀ c i, ¬ (c = 30 ∧ i = 0) → ¬ (i = 4 ∧ 8 ≤ c ∧ c ≤ 19) → ¬ c = 33 → M'.1 c i = M.1 c i ∧ M'.2 c i = M.2 c i) ∧ ∀ j, j < 4 → M'.1 30 0 j = M.1 30 0 j
def KFr (M M' : Mem) : Prop := (∀ c, 8 ≤ c → c ≤ 19 → ¬ c = 9 → M'.1 c 4 = M.1 c 4) ∧ M'.1 33 0 = M.1 33 0
def DR (M : Mem) (K : Co) (lt : Bool) : Prop := M.1 8 4 11 = nI (K.1 4) ∧ M.1 8 4 12 = nI (K.1 5) ∧ M.1 33 0 0 = (if lt then 1 else 0) ∧ (∀ j, j < K.1 0 → M.1 11 4 j = K.2 0 j ∧ M.1 12 4 j = K.2 1 j ∧ M.1 13 4 j = K.2 2 j) ∧ (∀ a b, a < 10 → b < 10 → M.1 14 4 (10 * b + a) = K.2 3 (10 * a + b)) ∧
  (∀ b, b < 10 → ∃ T : Nat, M.1 15 4 b = nI T ∧ T < 1024 ∧ ∀ a, a < 10 → (T.testBit a = decide (¬ K.2 3 (10 * a + b) = 0))) ∧ (∀ p, p < K.1 1 → M.1 16 4 p = K.2 4 p) ∧ (∀ w, w < K.1 2 → M.1 17 4 w = nI (K.1 (100 + w)) ∧ M.1 18 4 w = nI (K.1 (200 + w))) ∧ (∀ c w, c < 4 → w < 6 → M.1 19 4 (6 * c + w) = K.2 5 (6 * c + w))
def DX (M : Mem) (K : Co) (N : Nat → Nat → Int64) (lt : Bool) : Prop := NX M 4 K.1 N ∧ DR M K lt
set_option maxHeartbeats 600000 in
theorem CtF.rf {M : Mem} : CtF M M := ⟨fun _ _ _ _ _ => ⟨rfl, rfl⟩, fun _ _ => rfl⟩
set_option maxHeartbeats 600000 in
theorem CtF.tr {M M1 M2 : Mem} (a : CtF M M1) (b : CtF M1 M2) : CtF M M2 := ⟨fun c i h1 h2 h3 => ⟨(b.1 c i h1 h2 h3).1.trans (a.1 c i h1 h2 h3).1, (b.1 c i h1 h2 h3).2.trans (a.1 c i h1 h2 h3).2⟩, fun j h => (b.2 j h).trans (a.2 j h)⟩
set_option maxHeartbeats 600000 in
theorem XFr.w {M M' : Mem} (a : XFr M M') : CtF M M' := ⟨fun c i h _ _ => a.1 c i h, a.2⟩
set_option maxHeartbeats 600000 in
theorem CtF.R {M : Mem} {c : Nat} {f : Nat → Int32} (hc : 8 ≤ c ∧ c ≤ 19) : CtF M (sR M c 4 f) := ⟨fun a i h1 h2 h3 => ⟨sR_ne _ _ _ _ (fun z => h2 ⟨z.2, by omega⟩), rfl⟩, fun j hj => by rw [sR_ne _ _ _ _ (by omega)]⟩
set_option maxHeartbeats 600000 in
theorem CtF.L {M : Mem} {f : Nat → Int64} : CtF M (sL M 10 4 f) := ⟨fun a i h1 h2 h3 => ⟨rfl, sL_ne _ _ _ _ (fun z => h2 ⟨z.2, by omega⟩)⟩, fun j hj => rfl⟩
set_option maxHeartbeats 600000 in
theorem CtF.T {M M' : Mem} {P : Nat → Int32} {n : Nat} (f : CtF M M') (h : TapX M P n) : TapX M' P n := ⟨by rw [f.2 3 (by omega)]; exact h.1, fun j hj => by rw [(f.1 31 0 (by decide) (by decide) (by decide)).1]; exact h.2.1 j hj, fun i hi => by rw [(f.1 32 0 (by decide) (by decide) (by decide)).2]; exact h.2.2 i hi⟩
set_option maxHeartbeats 600000 in
theorem KFr.rf {M : Mem} : KFr M M := ⟨fun _ _ _ _ => rfl, rfl⟩
set_option maxHeartbeats 600000 in
theorem KFr.tr {M M1 M2 : Mem} (a : KFr M M1) (b : KFr M1 M2) : KFr M M2 := ⟨fun c h1 h2 h3 => (b.1 c h1 h2 h3).trans (a.1 c h1 h2 h3), b.2.trans a.2⟩
set_option maxHeartbeats 600000 in
theorem XFr.k {M M' : Mem} (a : XFr M M') : KFr M M' := ⟨fun c h1 h2 _ => (a.1 c 4 (by omega)).1, (a.1 33 0 (by decide)).1⟩
set_option maxHeartbeats 600000 in
theorem DR.k {M M' : Mem} {K : Co} {lt : Bool} (f : KFr M M') (h : DR M K lt) : DR M' K lt := by
  unfold DR at h ⊢
  rw [f.1 8 (by decide) (by decide) (by decide), f.1 11 (by decide) (by decide) (by decide), f.1 12 (by decide) (by decide) (by decide), f.1 13 (by decide) (by decide) (by decide), f.1 14 (by decide) (by decide) (by decide), f.1 15 (by decide) (by decide) (by decide), f.1 16 (by decide) (by decide) (by decide), f.1 17 (by decide) (by decide) (by decide), f.1 18 (by decide) (by decide) (by decide), f.1 19 (by decide) (by decide) (by decide), f.2]
  exact h
set_option maxHeartbeats 600000 in
theorem GX.sR {M : Mem} {P : Nat → Int32} {n c : Nat} {f : Nat → Int32} {t : Tk} (hc : 8 ≤ c ∧ c ≤ 19) (h : GX P n M t) : GX P n (sR M c 4 f) t := by
  obtain ⟨h1, h2, h3, h4⟩ := h
  refine ⟨(CtF.R hc).T h1, ?_, h3, ?_⟩
  · unfold TkX at h2 ⊢
    rw [sR_ne _ _ _ _ (by omega)]
    exact h2
  · rw [sR_ne _ _ _ _ (by omega)]; exact h4
set_option maxHeartbeats 600000 in
theorem GX.sL {M : Mem} {P : Nat → Int32} {n : Nat} {f : Nat → Int64} {t : Tk} (h : GX P n M t) : GX P n (sL M 10 4 f) t := by
  obtain ⟨h1, h2, h3, h4⟩ := h
  refine ⟨CtF.L.T h1, ?_, h3, h4⟩
  unfold TkX at h2 ⊢
  rw [sL_ne _ _ _ _ (by omega)]
  exact h2
set_option maxHeartbeats 600000 in
theorem most_all : ∀ q, q < 4 → mostOf q = nI (moN q) := by decide +kernel
set_option maxHeartbeats 600000 in
theorem full_x {M : Mem} {q : Nat} {c : Nat → Nat} {N : Nat → Nat → Int64} (h : NX M 4 c N) (hq : q < 4) : f_X1_isFull 4 (nI q) M = some (if c q = moN q then 1 else 0) := by
  have hm := (h q hq).2.1
  have hm2 := moN_le q
  unfold f_X1_isFull
  rw [inb_nI_t hq (by decide), if_pos rfl, nI_clamp (by omega), (h q hq).1, most_all q hq]
  by_cases c1 : c q = moN q
  · rw [if_neg (by rw [lt_nI (by omega) (by omega)]; omega), if_pos c1]
  · rw [if_pos (by rw [lt_nI (by omega) (by omega)]; omega), if_neg c1]
set_option maxHeartbeats 600000 in
theorem taken_x {M : Mem} {c : Nat → Nat} {N : Nat → Nat → Int64} {l : Int64} (h : NX M 4 c N) : f_X1_isTaken 4 l M = some (if takenS c N l = true then 1 else 0) := by
  have st : ∀ q fu, q < 4 → f_X1_isTaken_2 4 l M (fu + 1) (nI q) = if (fndF (N q) l (c q) 0).isSome = true then some 1 else f_X1_isTaken_2 4 l M fu (nI (q + 1)) := by
    intro q fu hq
    have hm := (h q hq).2.1
    have hm2 := moN_le q
    rw [f_X1_isTaken_2, if_pos (show nI q < (4 : Int32) from by show _ < nI 4; rw [lt_nI (by omega) (by omega)]; exact hq), find_x h hq, Option.bind_some, show nI q + (1 : Int32) = nI (q + 1) from add_nI q 1]
    cases e : fndF (N q) l (c q) 0 with
    | none => rfl
    | some j =>
      have hj := fndF_lt _ _ _ e
      simp only
      rw [if_neg (m1_nI2 (by omega))]
      rfl
  have la : ∀ fu, f_X1_isTaken_2 4 l M (fu + 1) (nI 4) = some 0 := by
    intro fu
    rw [f_X1_isTaken_2, if_neg (by decide)]
  have hF : FU = (((FU - 5) + 1 + 1 + 1 + 1) + 1) := by have : 5 < FU := lt_FU (by omega); omega
  unfold f_X1_isTaken
  rw [hF, show (0 : Int32) = nI 0 from rfl, st 0 _ (by decide), st 1 _ (by decide), st 2 _ (by decide), st 3 _ (by decide), la]
  unfold takenS
  cases (fndF (N 0) l (c 0) 0).isSome <;> cases (fndF (N 1) l (c 1) 0).isSome <;> cases (fndF (N 2) l (c 2) 0).isSome <;> cases (fndF (N 3) l (c 3) 0).isSome <;> rfl
set_option maxHeartbeats 600000 in
theorem new_x {M : Mem} {P : Nat → Int32} {n q : Nat} {c : Nat → Nat} {N : Nat → Nat → Int64} {t : Tk} (B : BY P n) (h : GX P n M t) (h1 : t.2.2.1 = 1) (hN : NX M 4 c N) (hq : q < 4) : ∃ r, f_X2_needNew 4 (nI q) M = some r ∧ CtF M r.2 ∧ KFr M r.2 ∧ match newR P n c N q t with | .inl f => r.1 = 0 ∧ BX r.2 f | .inr a => r.1 = 1 ∧ GX P n r.2 a.1 ∧ r.2.1 30 0 9 = nI (c q) ∧ c q < moN q ∧ NX r.2 4 (bump c q) (addN N q (c q) a.2) := by
  have hm := (hN q hq).2.1
  have hm2 := moN_le q
  unfold f_X2_needNew newR
  rw [full_x hN hq, Option.bind_some]
  by_cases c1 : c q = moN q
  · rw [if_pos c1, if_neg (show ¬ (1 : Int32) = 0 from by decide), if_pos c1]
    obtain ⟨M', a, b, d⟩ := fail_b (why := 6) h.2.2.2 h.2.1 h.2.2.1.2.2.1 (by decide)
    rw [show badK t 6 = (6, t.1) from by unfold badK; rw [if_neg (by omega)]] at d
    exact ⟨_, a, b.w, b.k, rfl, d⟩
  · rw [if_neg c1, if_pos (show (0 : Int32) = 0 from rfl), if_neg c1]
    obtain ⟨M2, a2, b2, d2⟩ := adv_x B h
    have N2 := b2.x.N hN
    rw [a2, Option.bind_some, isName_x d2.2.1 d2.2.2.1, Option.bind_some]
    by_cases c2 : isNm (nx P n t) = true
    · have hk1 := (nm_long d2.2.2.1 c2).1
      rw [if_pos c2, if_neg (show ¬ (1 : Int32) = 0 from by decide), if_pos c2, (d2.2.1.2.2.2.1 hk1).2, taken_x N2, Option.bind_some]
      by_cases c3 : takenS c N (nx P n t).2.2.2.2.1 = true
      · rw [if_pos c3, if_neg (show ¬ (1 : Int32) = 0 from by decide), if_pos c3]
        obtain ⟨M', a, b, d⟩ := fail_b (why := 3) d2.2.2.2 d2.2.1 d2.2.2.1.2.2.1 (by decide)
        rw [show badK (nx P n t) 3 = (3, (nx P n t).1) from by unfold badK; rw [if_neg (by omega)]] at d
        exact ⟨_, a, (b2.x.tr b).w, (b2.x.tr b).k, rfl, d⟩
      · rw [if_neg c3, if_pos (show (0 : Int32) = 0 from rfl), if_neg c3]
        have ea : f_X1_addThing 4 (nI q) (nx P n t).2.2.2.2.1 M2 = some (nI (c q), sR (sL M2 10 4 (vp_updL (M2.2 10 4) (10 * q + c q) (nx P n t).2.2.2.2.1)) 9 4 (upd (M2.1 9 4) q (nI (c q + 1)))) := by
          unfold f_X1_addThing
          rw [inb_nI_t hq (by decide), if_pos rfl, nI_clamp (by omega), (N2 q hq).1]
          simp only
          rw [show nI q * (10 : Int32) = nI (q * 10) from mul_nI q 10, add_nI, inb_nI_t (show q * 10 + c q < 40 by omega) (by decide), if_pos rfl, nI_clamp (by omega), show q * 10 + c q = 10 * q + c q by omega, if_pos trivial, if_pos trivial, sL_1, (N2 q hq).1, show nI (c q) + (1 : Int32) = nI (c q + 1) from add_nI _ 1]
        rw [ea, Option.bind_some]
        simp only
        have g : GX P n (sR (sL M2 10 4 (vp_updL (M2.2 10 4) (10 * q + c q) (nx P n t).2.2.2.2.1)) 9 4 (upd (M2.1 9 4) q (nI (c q + 1)))) (nx P n t) := (d2.sL).sR (by omega)
        obtain ⟨M7, a7, b7, d7⟩ := adv_x B (g.set9 (v := nI (c q)))
        rw [a7, Option.bind_some]
        have W : CtF M2 (sR (sR (sL M2 10 4 (vp_updL (M2.2 10 4) (10 * q + c q) (nx P n t).2.2.2.2.1)) 9 4 (upd (M2.1 9 4) q (nI (c q + 1)))) 30 0 (upd ((sR (sL M2 10 4 (vp_updL (M2.2 10 4) (10 * q + c q) (nx P n t).2.2.2.2.1)) 9 4 (upd (M2.1 9 4) q (nI (c q + 1)))).1 30 0) 9 (nI (c q)))) := (CtF.L.tr (CtF.R (by omega))).tr (XFr.R (by omega)).w
        have Kf : KFr M2 (sR (sR (sL M2 10 4 (vp_updL (M2.2 10 4) (10 * q + c q) (nx P n t).2.2.2.2.1)) 9 4 (upd (M2.1 9 4) q (nI (c q + 1)))) 30 0 (upd ((sR (sL M2 10 4 (vp_updL (M2.2 10 4) (10 * q + c q) (nx P n t).2.2.2.2.1)) 9 4 (upd (M2.1 9 4) q (nI (c q + 1)))).1 30 0) 9 (nI (c q)))) := by
          refine KFr.tr (M1 := sR (sL M2 10 4 (vp_updL (M2.2 10 4) (10 * q + c q) (nx P n t).2.2.2.2.1)) 9 4 (upd (M2.1 9 4) q (nI (c q + 1)))) ⟨fun cc e1 e2 e3 => ?_, ?_⟩ (XFr.R (by omega)).k
          · rw [sR_ne _ _ _ _ (by omega)]; rfl
          · rw [sR_ne _ _ _ _ (by omega)]; rfl
        refine ⟨_, rfl, (b2.x.w.tr W).tr b7.x.w, (b2.x.k.tr Kf).tr b7.x.k, rfl, d7, ?_, by omega, ?_⟩
        · show M7.1 30 0 9 = _
          rw [b7.2 9 (by omega), sR_at, upd_at]
        · apply b7.x.N
          intro p hp
          have Np := N2 p hp
          have hmp := moN_le p
          rw [sR_ne _ _ _ _ (by omega), sR_2, sR_at, sR_2, sL_at]
          by_cases e : p = q
          · subst e
            refine ⟨?_, ?_, fun i hi => ?_⟩
            · rw [upd_at]; unfold bump; rw [show updN c p (c p + 1) p = c p + 1 from if_pos rfl]
            · unfold bump; rw [show updN c p (c p + 1) p = c p + 1 from if_pos rfl]; omega
            · unfold bump at hi
              rw [show updN c p (c p + 1) p = c p + 1 from if_pos rfl] at hi
              unfold addN
              by_cases e2 : i = c p
              · rw [e2, updL_at, if_pos ⟨rfl, rfl⟩]
              · rw [updL_ne _ _ (by omega), if_neg (fun z => e2 z.2)]
                exact Np.2.2 i (by omega)
          · have eb : bump c q p = c p := updN_ne _ _ e
            rw [eb]
            refine ⟨?_, Np.2.1, fun i hi => ?_⟩
            · rw [upd_ne _ _ e]; exact Np.1
            · have := Np.2.1
              unfold addN
              rw [updL_ne _ _ (by omega), if_neg (fun z => e z.1)]
              exact Np.2.2 i hi
    · rw [if_neg c2, if_pos (show (0 : Int32) = 0 from rfl), if_neg c2]
      obtain ⟨M', a, b, d⟩ := fail_b (why := 2) d2.2.2.2 d2.2.1 d2.2.2.1.2.2.1 (by decide)
      exact ⟨_, a, (b2.x.tr b).w, (b2.x.tr b).k, rfl, d⟩
