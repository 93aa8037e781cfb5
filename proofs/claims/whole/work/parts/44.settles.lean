/-! ===== calls on both: settles ===== -/
def eqR (l l' : Nat → Int32) : Nat → Nat → Bool
  | 0, _ => true
  | k + 1, j => if l j = l' j then eqR l l' k (j + 1) else false
theorem eqR_iff {l l' : Nat → Int32} : ∀ (k j : Nat), eqR l l' k j = true ↔ ∀ i, j ≤ i → i < j + k → l i = l' i
  | 0, j => ⟨fun _ i h1 h2 => by omega, fun _ => rfl⟩
  | k + 1, j => by
    show (if l j = l' j then eqR l l' k (j + 1) else false) = true ↔ _
    by_cases c : l j = l' j
    · rw [if_pos c, eqR_iff k (j + 1)]
      constructor
      · intro h i h1 h2
        by_cases d : i = j
        · rw [d]; exact c
        · exact h i (by omega) (by omega)
      · intro h i h1 h2
        exact h i (by omega) (by omega)
    · rw [if_neg c]
      constructor
      · intro h; cases h
      · intro h; exact absurd (h j (Nat.le_refl _) (by omega)) c
def Lr (K : Co) (A : Ha) (r : Nat) : Nat → Int32 := (roundsS K false r A).2.1
def findE (K : Co) (A : Ha) (r : Nat) : Nat → Nat → Option Nat
  | 0, _ => none
  | k + 1, e => if eqR (Lr K A e) (Lr K A r) (K.1 0) 0 = true then some e else findE K A r k (e + 1)
def setlS (K : Co) (A : Ha) : Nat → Nat → Option (Nat × Nat)
  | 0, _ => none
  | k + 1, r => match findE K A r r 0 with
    | some e => some (e, r)
    | none => setlS K A k (r + 1)
theorem rounds_succ (K : Co) (e : Bool) : ∀ (n : Nat) (A : Ha), roundsS K e (n + 1) A = roundS K e (roundsS K e n A)
  | 0, _ => rfl
  | n + 1, A => rounds_succ K e n (roundS K e A)
theorem talkL_out {K : Co} {S j : Nat} {l : Nat → Int32} (h : K.1 0 ≤ j) : talkL K S l j = l j := by
  unfold talkL
  refine foldJ_inv (P := fun x : Nat → Int32 => x j = l j) _ _ _ rfl (fun x m _ hm hx => ?_)
  by_cases c : S.testBit m = true
  · simp only [if_pos c]
    rw [upd_ne _ _ (by omega)]; exact hx
  · simp only [if_neg c]
    exact hx
theorem Lr_out {K : Co} {A : Ha} {j : Nat} (h : K.1 0 ≤ j) : ∀ r, Lr K A r j = A.2.1 j
  | 0 => rfl
  | r + 1 => by
    unfold Lr
    rw [rounds_succ]
    show talkL K ((roundsS K false r A).1 0) (roundsS K false r A).2.1 j = _
    rw [talkL_out h]
    exact Lr_out h r
-- packed leanings
theorem pk_step {v : Int64} {x : Int32} (h1 : 0 ≤ v.toInt) (h2 : v.toInt < 2 ^ 50) (hx : inR (-99) 99 x) : (v * (256 : Int64) + x.toInt64 + (99 : Int64)).toInt = v.toInt * 256 + x.toInt + 99 := by
  have x1 : -99 ≤ x.toInt := Int32.le_iff_toInt_le.mp hx.1
  have x2 : x.toInt ≤ 99 := Int32.le_iff_toInt_le.mp hx.2
  have e256 : (256 : Int64).toInt = 256 := by decide
  have e99 : (99 : Int64).toInt = 99 := by decide
  rw [Int64.toInt_add, Int64.toInt_add, Int64.toInt_mul, t64, e256, e99, bm64 (x := v.toInt * 256) (by omega) (by omega), bm64 (x := v.toInt * 256 + x.toInt) (by omega) (by omega), bm64 (by omega) (by omega)]
def pkI (l : Nat → Int32) (a : Nat) : Int := (((((l a).toInt + 99) * 256 + ((l (a + 1)).toInt + 99)) * 256 + ((l (a + 2)).toInt + 99)) * 256 + ((l (a + 3)).toInt + 99)) * 256 + ((l (a + 4)).toInt + 99)
theorem FU_6 : ∃ k, FU = k + 6 := ⟨FU - 6, by have : 6 < FU := lt_FU (by decide); omega⟩
theorem lb {x : Int32} (h : inR (-99) 99 x) : -99 ≤ x.toInt ∧ x.toInt ≤ 99 := ⟨Int32.le_iff_toInt_le.mp h.1, Int32.le_iff_toInt_le.mp h.2⟩
theorem pk_one {M : Mem} {h a i fu : Nat} {l : Nat → Int32} {v : Int64} (ha : a ≤ 5) (hi : i < a + 5) (hl : ∀ j, j < 10 → M.1 21 h j = l j) : f_X0_pack_5 h (nI a) M (fu + 1) v (nI i) = f_X0_pack_5 h (nI a) M fu (v * (256 : Int64) + (l i).toInt64 + (99 : Int64)) (nI (i + 1)) := by
  rw [f_X0_pack_5, show nI a + (5 : Int32) = nI (a + 5) from add_nI a 5, if_pos (by rw [lt_nI (by omega) (by omega)]; exact hi), inb_nI_t (show i < 10 by omega) (by decide), if_pos rfl, nI_clamp (by omega), hl i (by omega), show nI i + (1 : Int32) = nI (i + 1) from add_nI i 1]
theorem pack_sp {M : Mem} {h a : Nat} {l : Nat → Int32} (ha : a ≤ 5) (hl : ∀ j, j < 10 → M.1 21 h j = l j) (ok : inL l) : ∃ v : Int64, f_X0_pack h (nI a) M = some v ∧ v.toInt = pkI l a := by
  obtain ⟨k, hk⟩ := FU_6
  have b0 := lb (ok a (by omega)); have b1 := lb (ok (a + 1) (by omega)); have b2 := lb (ok (a + 2) (by omega)); have b3 := lb (ok (a + 3) (by omega)); have b4 := lb (ok (a + 4) (by omega))
  unfold f_X0_pack
  rw [hk, pk_one ha (by omega) hl, pk_one ha (by omega) hl, pk_one ha (by omega) hl, pk_one ha (by omega) hl, pk_one ha (by omega) hl, f_X0_pack_5, show nI a + (5 : Int32) = nI (a + 5) from add_nI a 5, if_neg (by rw [lt_nI (by omega) (by omega)]; omega)]
  refine ⟨_, rfl, ?_⟩
  have z : (0 : Int64).toInt = 0 := by decide
  have s0 := pk_step (v := 0) (x := l a) (by omega) (by omega) (ok a (by omega))
  rw [z] at s0
  have s1 := pk_step (v := 0 * 256 + (l a).toInt64 + 99) (x := l (a + 1)) (by omega) (by omega) (ok (a + 1) (by omega))
  rw [s0] at s1
  have s2 := pk_step (v := (0 * 256 + (l a).toInt64 + 99) * 256 + (l (a + 1)).toInt64 + 99) (x := l (a + 2)) (by omega) (by omega) (ok (a + 2) (by omega))
  rw [s1] at s2
  have s3 := pk_step (v := ((0 * 256 + (l a).toInt64 + 99) * 256 + (l (a + 1)).toInt64 + 99) * 256 + (l (a + 2)).toInt64 + 99) (x := l (a + 3)) (by omega) (by omega) (ok (a + 3) (by omega))
  rw [s2] at s3
  have s4 := pk_step (v := (((0 * 256 + (l a).toInt64 + 99) * 256 + (l (a + 1)).toInt64 + 99) * 256 + (l (a + 2)).toInt64 + 99) * 256 + (l (a + 3)).toInt64 + 99) (x := l (a + 4)) (by omega) (by omega) (ok (a + 4) (by omega))
  rw [s3] at s4
  refine s4.trans ?_
  unfold pkI
  omega
theorem pkI_inj {l l' : Nat → Int32} {a : Nat} (ha : a ≤ 5) (ok : inL l) (ok' : inL l') (h : pkI l a = pkI l' a) : ∀ j, a ≤ j → j < a + 5 → l j = l' j := by
  have b0 := lb (ok a (by omega)); have b1 := lb (ok (a + 1) (by omega)); have b2 := lb (ok (a + 2) (by omega)); have b3 := lb (ok (a + 3) (by omega)); have b4 := lb (ok (a + 4) (by omega))
  have c0 := lb (ok' a (by omega)); have c1 := lb (ok' (a + 1) (by omega)); have c2 := lb (ok' (a + 2) (by omega)); have c3 := lb (ok' (a + 3) (by omega)); have c4 := lb (ok' (a + 4) (by omega))
  unfold pkI at h
  have e4 : (l (a + 4)).toInt = (l' (a + 4)).toInt := by omega
  have e3 : (l (a + 3)).toInt = (l' (a + 3)).toInt := by omega
  have e2 : (l (a + 2)).toInt = (l' (a + 2)).toInt := by omega
  have e1 : (l (a + 1)).toInt = (l' (a + 1)).toInt := by omega
  have e0 : (l a).toInt = (l' a).toInt := by omega
  intro j h1 h2
  apply Int32.toInt_inj.mp
  rcases (show j = a ∨ j = a + 1 ∨ j = a + 2 ∨ j = a + 3 ∨ j = a + 4 by omega) with e | e | e | e | e <;> rw [e] <;> assumption
theorem pkI_eq {l l' : Nat → Int32} {a : Nat} (h : ∀ j, a ≤ j → j < a + 5 → l j = l' j) : pkI l a = pkI l' a := by
  unfold pkI
  rw [h a (by omega) (by omega), h (a + 1) (by omega) (by omega), h (a + 2) (by omega) (by omega), h (a + 3) (by omega) (by omega), h (a + 4) (by omega) (by omega)]
theorem Lr_in {K : Co} {A : Ha} (h : inL A.2.1) : ∀ r, inL (Lr K A r)
  | 0 => h
  | r + 1 => by
    unfold Lr
    rw [rounds_succ]
    exact roundS_in (Lr_in h r)
theorem packs_iff {K : Co} {A : Ha} {e r : Nat} (hJ : K.1 0 ≤ 10) (ok : inL A.2.1) : (pkI (Lr K A e) 0 = pkI (Lr K A r) 0 ∧ pkI (Lr K A e) 5 = pkI (Lr K A r) 5) ↔ eqR (Lr K A e) (Lr K A r) (K.1 0) 0 = true := by
  rw [eqR_iff]
  constructor
  · intro ⟨h1, h2⟩ i _ hi
    have g1 := pkI_inj (by omega) (Lr_in ok e) (Lr_in ok r) h1
    have g2 := pkI_inj (by omega) (Lr_in ok e) (Lr_in ok r) h2
    by_cases c : i < 5
    · exact g1 i (by omega) (by omega)
    · exact g2 i (by omega) (by omega)
  · intro h
    have g : ∀ j, j < 10 → Lr K A e j = Lr K A r j := by
      intro j hj
      by_cases c : j < K.1 0
      · exact h j (by omega) (by omega)
      · rw [Lr_out (by omega), Lr_out (by omega)]
    exact ⟨pkI_eq (fun j _ hj => g j (by omega)), pkI_eq (fun j _ hj => g j (by omega))⟩
def SFr (M M' : Mem) : Prop := (∀ c i, ¬ (c = 36 ∧ i = 0) → ¬ (i = 4 ∧ (c = 20 ∨ c = 21 ∨ c = 22)) → M'.1 c i = M.1 c i) ∧ (∀ c i, ¬ ((c = 37 ∨ c = 38) ∧ i = 0) → M'.2 c i = M.2 c i) ∧ ∀ j, ¬ (j = 9 ∨ j = 10) → M'.1 36 0 j = M.1 36 0 j
theorem SFr.rf {M : Mem} : SFr M M := ⟨fun _ _ _ _ => rfl, fun _ _ _ => rfl, fun _ _ => rfl⟩
theorem SFr.tr {M M1 M2 : Mem} (a : SFr M M1) (b : SFr M1 M2) : SFr M M2 := ⟨fun c i h1 h2 => (b.1 c i h1 h2).trans (a.1 c i h1 h2), fun c i h => (b.2.1 c i h).trans (a.2.1 c i h), fun j h => (b.2.2 j h).trans (a.2.2 j h)⟩
theorem HFr.s {M M' : Mem} (f : HFr 4 M M') : SFr M M' := ⟨fun c i _ h => f.2 c i h, fun c i _ => by rw [f.1], fun j _ => by rw [f.2 36 0 (by decide)]⟩
theorem SFr.L {M : Mem} {c : Nat} {f : Nat → Int64} (h : c = 37 ∨ c = 38) : SFr M (sL M c 0 f) := ⟨fun _ _ _ _ => rfl, fun a i z => sL_ne _ _ _ _ (fun y => z ⟨by rw [y.1]; exact h, y.2⟩), fun _ _ => rfl⟩
theorem SFr.R {M : Mem} {p : Nat} {v : Int32} (h : p = 9 ∨ p = 10) : SFr M (sR M 36 0 (upd (M.1 36 0) p v)) := ⟨fun c i z _ => sR_ne _ _ _ _ z, fun _ _ _ => rfl, fun j hj => by rw [sR_at, upd_ne _ _ (fun y => hj (by rw [y]; exact h))]⟩
theorem SFr.q {M M' : Mem} (f : SFr M M') : XQ M M' := by
  refine ⟨fun c i h1 h2 h3 h4 => ⟨f.1 c i (by omega) (fun z => h4 (by unfold scrX; omega)), f.2.1 c i (fun z => h4 (by unfold scrX; omega))⟩, fun j _ => ?_, f.2.1 0 0 (by decide), ?_, f.2.2 7 (by decide), f.2.2 8 (by decide)⟩
  · rw [f.1 0 0 (by decide) (by decide)]
  · rw [f.1 30 0 (by decide) (by decide)]
theorem SFr.C {M M' : Mem} {K : Co} (f : SFr M M') (rc : RepC M 0 K) : RepC M' 0 K := RepCR.congr (fun c h1 h2 => f.1 c 0 (by omega) (by omega)) rc
def PkX (M : Mem) (K : Co) (A : Ha) (r : Nat) : Prop := ∀ e, e < r → (M.2 37 0 e).toInt = pkI (Lr K A e) 0 ∧ (M.2 38 0 e).toInt = pkI (Lr K A e) 5
theorem s34_loop {M : Mem} {K : Co} {A : Ha} {r : Nat} {k96 : Option (Int32 × Mem)} {i1 i2 : Nat} (hJ : K.1 0 ≤ 10) (hr : r < 201) (ok : inL A.2.1) (hp : PkX M K A (r + 1)) : ∀ (k e fu : Nat), e + k = r → k < fu →
    f_X0_settle_34 k96 i1 i2 (nI r) M fu (nI e) = (match findE K A r k e with
      | some q => some (1, sR (sR M 36 0 (upd (M.1 36 0) 9 (nI q))) 36 0 (upd ((sR M 36 0 (upd (M.1 36 0) 9 (nI q))).1 36 0) 10 (nI (r - q))))
      | none => k96)
  | k, e, 0, _, h => by omega
  | 0, e, fu + 1, he, _ => by
    rw [f_X0_settle_34, if_neg (by rw [lt_nI (by omega) (by omega)]; omega)]
    rfl
  | k + 1, e, fu + 1, he, hk => by
    have p1 := hp e (by omega)
    have p2 := hp r (by omega)
    have ih := s34_loop (k96 := k96) (i1 := i1) (i2 := i2) hJ hr ok hp k (e + 1) fu (by omega) (by omega)
    have iff := packs_iff (K := K) (A := A) (e := e) (r := r) hJ ok
    have c37 : (lg_cmp (M.2 37 0 e) (M.2 37 0 r) = 0) = (pkI (Lr K A e) 0 = pkI (Lr K A r) 0) := by
      apply propext
      rw [lg_cmp_eq, ← Int64.toInt_inj, p1.1, p2.1]
    have c38 : (lg_cmp (M.2 38 0 e) (M.2 38 0 r) = 0) = (pkI (Lr K A e) 5 = pkI (Lr K A r) 5) := by
      apply propext
      rw [lg_cmp_eq, ← Int64.toInt_inj, p1.2, p2.2]
    have fe : findE K A r (k + 1) e = if eqR (Lr K A e) (Lr K A r) (K.1 0) 0 = true then some e else findE K A r k (e + 1) := rfl
    rw [f_X0_settle_34, if_pos (by rw [lt_nI (by omega) (by omega)]; omega), inb_nI_t (show e < 201 by omega) (by decide), if_pos rfl, inb_nI_t hr (by decide), if_pos rfl, if_pos rfl, if_pos rfl, nI_clamp (by omega), nI_clamp (by omega), show nI e + (1 : Int32) = nI (e + 1) from add_nI e 1, ih, fe]
    by_cases d1 : pkI (Lr K A e) 0 = pkI (Lr K A r) 0
    · rw [if_pos (by rw [c37]; exact d1)]
      by_cases d2 : pkI (Lr K A e) 5 = pkI (Lr K A r) 5
      · rw [if_pos (by rw [c38]; exact d2), if_pos (iff.mp ⟨d1, d2⟩)]
        simp only
        rw [sub_nI (by omega)]
      · rw [if_neg (by rw [c38]; exact d2), if_neg (fun z => d2 (iff.mpr z).2)]
    · rw [if_neg (by rw [c37]; exact d1), if_neg (fun z => d1 (iff.mpr z).1)]
theorem s2_loop {K : Co} {A : Ha} (ok : OKC K) (o : OKH (K.1 0) A) (hb : A.1 2 < 10000) : ∀ (k r fu : Nat) (M : Mem), r + k = 201 → k < fu → RepC M 0 K → RepH M 4 (roundsS K false r A) → PkX M K A r →
    ∃ M', f_X0_settle_2 0 4 fu (nI r) M = (match setlS K A k r with
      | some _ => some (1, M')
      | none => some (0, M')) ∧ SFr M M' ∧ ∀ q, setlS K A k r = some q → M'.1 36 0 9 = nI q.1 ∧ M'.1 36 0 10 = nI (q.2 - q.1) ∧ q.1 ≤ q.2 ∧ q.2 < 201
  | k, r, 0, M, _, h, _, _, _ => by omega
  | 0, r, fu + 1, M, hr, _, rc, rh, hp => by
    refine ⟨M, ?_, SFr.rf, fun q h => by cases h⟩
    rw [f_X0_settle_2, if_pos (by show nI 200 < nI r; rw [lt_nI (by omega) (by omega)]; omega)]
    rfl
  | k + 1, r, fu + 1, M, hr, hk, rc, rh, hp => by
    have hJ := ok.J
    have hrd := rounds_hall (K := K) (e := false) r A (K.1 0) o (by omega)
    have o1 := hrd.1
    have hb2 : (roundsS K false r A).1 2 = A.1 2 + r := by rw [hrd.2.1, updN_at]
    obtain ⟨v1, e1, q1⟩ := pack_sp (a := 0) (by omega) rh.2.1 o1.toL
    have F1 : SFr M (sL M 37 0 (vp_updL (M.2 37 0) r v1)) := SFr.L (Or.inl rfl)
    obtain ⟨v2, e2, q2⟩ := pack_sp (M := sL M 37 0 (vp_updL (M.2 37 0) r v1)) (h := 4) (a := 5) (by omega) rh.2.1 o1.toL
    have F2 : SFr (sL M 37 0 (vp_updL (M.2 37 0) r v1)) (sL (sL M 37 0 (vp_updL (M.2 37 0) r v1)) 38 0 (vp_updL ((sL M 37 0 (vp_updL (M.2 37 0) r v1)).2 38 0) r v2)) := SFr.L (Or.inr rfl)
    generalize hM6 : sL (sL M 37 0 (vp_updL (M.2 37 0) r v1)) 38 0 (vp_updL ((sL M 37 0 (vp_updL (M.2 37 0) r v1)).2 38 0) r v2) = M6 at *
    have hp6 : PkX M6 K A (r + 1) := by
      intro e he
      rw [← hM6, sL_at, sL_ne _ _ _ _ (by decide), sL_at, sL_ne _ _ _ _ (by decide)]
      by_cases d : e = r
      · rw [d, updL_at, updL_at]
        exact ⟨q1, q2⟩
      · rw [updL_ne _ _ d, updL_ne _ _ d]
        exact hp e (by omega)
    have F := F1.tr F2
    have rc6 := F.C rc
    have rh6 : RepH M6 4 (roundsS K false r A) := by rw [← hM6]; exact rh
    have e34 := fun k96 => s34_loop (M := M6) (K := K) (A := A) (r := r) (k96 := k96) (i1 := 0) (i2 := 4) hJ (by omega) o.toL hp6 r 0 FU (by omega) (lt_FU (by omega))
    have es : setlS K A (k + 1) r = match findE K A r r 0 with
      | some e => some (e, r)
      | none => setlS K A k (r + 1) := rfl
    rw [f_X0_settle_2, if_neg (by show ¬ nI 200 < nI r; rw [lt_nI (by omega) (by omega)]; omega), show f_X0_pack 4 (0 : Int32) M = some v1 from e1, Option.bind_some, inb_nI_t (show r < 201 by omega) (by decide), if_pos rfl, nI_clamp (by omega)]
    simp only
    rw [show f_X0_pack 4 (5 : Int32) (sL M 37 0 (vp_updL (M.2 37 0) r v1)) = some v2 from e2, Option.bind_some, if_pos trivial, hM6]
    rw [show f_X0_settle_34 ((f_X3_talkRound 4 0 (0 : Int32) M6).bind fun q14 => f_X0_settle_2 0 4 fu (nI r + (1 : Int32)) q14.2) 0 4 (nI r) M6 FU (0 : Int32) = _ from e34 _, es]
    cases hf : findE K A r r 0 with
    | some e =>
      have hle : e < r := by
        have : ∀ (k i : Nat), i + k = r → ∀ e, findE K A r k i = some e → e < r := by
          intro k
          induction k with
          | zero => intro i hi e h; cases h
          | succ k ih =>
            intro i hi e h
            have h : (if eqR (Lr K A i) (Lr K A r) (K.1 0) 0 = true then some i else findE K A r k (i + 1)) = some e := h
            by_cases c : eqR (Lr K A i) (Lr K A r) (K.1 0) 0 = true
            · rw [if_pos c] at h; cases h; omega
            · rw [if_neg c] at h; exact ih (i + 1) (by omega) e h
        exact this r 0 (by omega) e hf
      refine ⟨_, rfl, (F.tr (SFr.R (Or.inl rfl))).tr (SFr.R (Or.inr rfl)), fun q h => ?_⟩
      cases h
      refine ⟨?_, ?_, by show e ≤ r; omega, by show r < 201; omega⟩
      · rw [sR_at, upd_ne _ _ (by decide), sR_at, upd_at]
      · rw [sR_at, upd_at]
    | none =>
      obtain ⟨a, M7, g1, -, g3, g4, -⟩ := X3_talkRound_sp (b := 0) (by omega) rc6 rh6 o1 ok.2.2.2.2.1 (by omega)
      have g3 : RepH M7 4 (roundsS K false (r + 1) A) := by rw [rounds_succ]; exact g3
      have hp7 : PkX M7 K A (r + 1) := by intro e he; rw [g4.1]; exact hp6 e he
      obtain ⟨M', a1, a2, a3⟩ := s2_loop ok o hb k (r + 1) fu M7 (by omega) (by omega) (g4.s.C rc6) g3 hp7
      refine ⟨M', ?_, (F.tr g4.s).tr a2, a3⟩
      simp only
      rw [show f_X3_talkRound 4 0 (0 : Int32) M6 = some (nI a, M7) from g1, Option.bind_some, show nI r + (1 : Int32) = nI (r + 1) from add_nI r 1]
      exact a1
-- the reference
def WFr (M M' : Mem) : Prop := M'.2 = M.2 ∧ (∀ c i, ¬ ((c = 55 ∨ c = 58) ∧ i = 0) → M'.1 c i = M.1 c i) ∧ ∀ j, ¬ hallIx j → M'.1 55 0 j = M.1 55 0 j
theorem WFr.rf {M : Mem} : WFr M M := ⟨rfl, fun _ _ _ => rfl, fun _ _ => rfl⟩
theorem WFr.tr {M M1 M2 : Mem} (a : WFr M M1) (b : WFr M1 M2) : WFr M M2 := ⟨b.1.trans a.1, fun c i h => (b.2.1 c i h).trans (a.2.1 c i h), fun j h => (b.2.2 j h).trans (a.2.2 j h)⟩
theorem MFr.w {M M' : Mem} (f : MFr M M') : WFr M M' := ⟨f.1, fun c i h => f.2.1 c i (fun z => h ⟨Or.inl z.1, z.2⟩), f.2.2⟩
theorem WFr.R {M : Mem} {f : Nat → Int32} : WFr M (sR M 58 0 f) := ⟨rfl, fun c i h => sR_ne _ _ _ _ (fun z => h ⟨Or.inr z.1, z.2⟩), fun j _ => by rw [sR_ne _ _ _ _ (by decide)]⟩
theorem X11_gives_spW {M M4 M5 : Mem} (k : KeptM M M4) (f : WFr M4 M5) : ∃ M7, f_X11_gives M5 = some M7 ∧ MQm M M7 ∧ M7.1 50 0 = M.1 50 0 := by
  obtain ⟨M', e1, e2, e3, e4, e5⟩ := gv2_loop 198 0 FU M5 (by omega) (lt_FU (by omega))
  have e50 : M'.1 50 0 = M.1 50 0 := by
    rw [e5 50 0 (by decide), f.2.1 50 0 (by decide), k.2.2 50 0 (by decide)]
  have el : M'.2 = M.2 := by rw [e4, f.1, k.2.1]
  refine ⟨M', e1, ⟨fun c i h => ⟨?_, by rw [el]⟩, fun j _ => by rw [e50], ⟨by rw [el], by rw [el]⟩, fun j _ => ?_, fun j _ => by rw [el]⟩, e50⟩
  · rw [e5 c i (by omega), f.2.1 c i (by omega), k.2.2 c i (by omega)]
  · by_cases c : j < 198
    · rw [e2 j (by omega) c, f.2.1 56 0 (by decide), k.1 j c]
    · rw [e3 j (by omega), f.2.2 j (by unfold hallIx; omega), k.2.2 55 0 (by decide)]
def PkM (M : Mem) (K : Co) (A : Ha) (t : Nat) : Prop := ∀ e, e < t → ∀ j, j < K.1 0 → M.1 58 0 (10 * e + j) = Lr K A e j
theorem w48_loop {K : Co} {A : Ha} {t : Nat} {k87 : Mem → Option (Int32 × Mem)} {x1 x2 : Int32} (ok : OKC K) (ht : t < 201) : ∀ (k j fu : Nat) (M : Mem), j + k = K.1 0 → k < fu → RepMC (M.1 55 0) K → RepMH (M.1 55 0) K (roundsS K false t A) → PkM M K A t → (∀ i, i < j → M.1 58 0 (10 * t + i) = Lr K A t i) →
    ∃ M', f_X11_settles_48 k87 x1 x2 (nI t) fu (nI j) M = k87 M' ∧ PkM M' K A (t + 1) ∧ M'.2 = M.2 ∧ ∀ c i, ¬ (c = 58 ∧ i = 0) → M'.1 c i = M.1 c i
  | k, j, 0, M, _, h, _, _, _, _ => by omega
  | 0, j, fu + 1, M, hj, _, rc, r, hp, hc => by
    have hJ := ok.J
    refine ⟨M, ?_, fun e he i hi => ?_, rfl, fun _ _ _ => rfl⟩
    · rw [f_X11_settles_48, show M.1 55 0 0 = nI (K.1 0) from rc.1 0 (by decide), if_neg (by rw [lt_nI (by omega) (by omega)]; omega)]
    · by_cases d : e = t
      · rw [d]; exact hc i (by omega)
      · exact hp e (by omega) i hi
  | k + 1, j, fu + 1, M, hj, hk, rc, r, hp, hc => by
    have hJ := ok.J
    have e55 : (sR M 58 0 (upd (M.1 58 0) (10 * t + j) (Lr K A t j))).1 55 0 = M.1 55 0 := sR_ne _ _ _ _ (by decide)
    obtain ⟨M', e1, e2, e3, e4⟩ := w48_loop (k87 := k87) (x1 := x1) (x2 := x2) ok ht k (j + 1) fu (sR M 58 0 (upd (M.1 58 0) (10 * t + j) (Lr K A t j))) (by omega) (by omega) (by rw [e55]; exact rc) (by rw [e55]; exact r) (fun e he i hi => by
      rw [sR_at, upd_ne _ _ (by omega)]; exact hp e he i hi) (fun i hi => by
      rw [sR_at]
      by_cases d : i = j
      · rw [d, upd_at]
      · rw [upd_ne _ _ (by omega)]; exact hc i (by omega))
    refine ⟨M', ?_, e2, e3, fun c i h => (e4 c i h).trans (sR_ne _ _ _ _ h)⟩
    rw [f_X11_settles_48, show M.1 55 0 0 = nI (K.1 0) from rc.1 0 (by decide), if_pos (by rw [lt_nI (by omega) (by omega)]; omega), show (42 : Int32) + nI j = nI (42 + j) from add_nI 42 j, inb_nI_t (show 42 + j < 2375 by omega) (by decide), if_pos rfl, show (10 : Int32) * nI t + nI j = nI (10 * t + j) from by rw [show (10 : Int32) = nI 10 from rfl, mul_nI, add_nI], inb_nI_t (show 10 * t + j < 2010 by omega) (by decide), if_pos rfl, nI_clamp (by omega), nI_clamp (by omega), show M.1 55 0 (42 + j) = Lr K A t j from r.2.2.2.2.2.2.1 j (by omega), show nI j + (1 : Int32) = nI (j + 1) from add_nI j 1]
    exact e1
theorem cb12_loop {M : Mem} {K : Co} {l l' : Nat → Int32} {e : Nat} {k64 : Int32 → Option Int32} {x1 : Int32} (hJ : K.1 0 ≤ 10) (he : e < 201) (hJ0 : M.1 55 0 0 = nI (K.1 0)) (h1 : ∀ j, j < K.1 0 → M.1 58 0 (10 * e + j) = l j) (h2 : ∀ j, j < K.1 0 → M.1 55 0 (42 + j) = l' j) : ∀ (k j fu : Nat), j + k = K.1 0 → k + 1 < fu →
    f_X11_cameBefore_12 k64 x1 (nI e) M fu (1 : Int32) (nI j) = k64 (if eqR l l' k j = true then 1 else 0)
  | k, j, 0, _, h => by omega
  | 0, j, fu + 1, hj, _ => by
    rw [f_X11_cameBefore_12, hJ0, if_neg (by rw [lt_nI (by omega) (by omega)]; omega)]
    rfl
  | k + 1, j, fu + 1, hj, hk => by
    rw [f_X11_cameBefore_12, hJ0, if_pos (by rw [lt_nI (by omega) (by omega)]; omega), if_neg (by decide), show (42 : Int32) + nI j = nI (42 + j) from add_nI 42 j, show (10 : Int32) * nI e + nI j = nI (10 * e + j) from by rw [show (10 : Int32) = nI 10 from rfl, mul_nI, add_nI], inb_nI_t (show 10 * e + j < 2010 by omega) (by decide), if_pos rfl, inb_nI_t (show 42 + j < 2375 by omega) (by decide), if_pos rfl, nI_clamp (by omega), nI_clamp (by omega), h1 j (by omega), h2 j (by omega), show nI j + (1 : Int32) = nI (j + 1) from add_nI j 1]
    show _ = k64 (if (if l j = l' j then eqR l l' k (j + 1) else false) = true then 1 else 0)
    by_cases c : l j = l' j
    · rw [if_pos c, if_pos c]
      exact cb12_loop hJ he hJ0 h1 h2 k (j + 1) fu (by omega) (by omega)
    · rw [if_neg c, if_neg c]
      obtain ⟨fu', rfl⟩ : ∃ fu', fu = fu' + 1 := ⟨fu - 1, by omega⟩
      rw [f_X11_cameBefore_12, hJ0]
      by_cases d : j + 1 < K.1 0
      · rw [if_pos (by rw [lt_nI (by omega) (by omega)]; exact d), if_pos rfl]
        rfl
      · rw [if_neg (by rw [lt_nI (by omega) (by omega)]; exact d)]
        rfl
theorem cb2_loop {M : Mem} {K : Co} {A : Ha} {r : Nat} (hJ : K.1 0 ≤ 10) (hr : r < 202) (hJ0 : M.1 55 0 0 = nI (K.1 0)) (hp : PkM M K A r) (h2 : ∀ j, j < K.1 0 → M.1 55 0 (42 + j) = Lr K A r j) : ∀ (k e fu : Nat), e + k = r → k < fu →
    f_X11_cameBefore_2 (nI r) M fu (nI e) = some (enN (findE K A r k e))
  | k, e, 0, _, h => by omega
  | 0, e, fu + 1, he, _ => by
    rw [f_X11_cameBefore_2, if_neg (by rw [lt_nI (by omega) (by omega)]; omega)]
    rfl
  | k + 1, e, fu + 1, he, hk => by
    have fe : findE K A r (k + 1) e = if eqR (Lr K A e) (Lr K A r) (K.1 0) 0 = true then some e else findE K A r k (e + 1) := rfl
    rw [f_X11_cameBefore_2, if_pos (by rw [lt_nI (by omega) (by omega)]; omega), fe]
    refine (cb12_loop (l := Lr K A e) (l' := Lr K A r) hJ (by omega) hJ0 (hp e (by omega)) h2 (K.1 0) 0 FU (by omega) (lt_FU (by omega))).trans ?_
    by_cases c : eqR (Lr K A e) (Lr K A r) (K.1 0) 0 = true
    · rw [if_pos c, if_pos c, if_neg (by decide)]
      rfl
    · rw [if_neg c, if_neg c, if_pos rfl, show nI e + (1 : Int32) = nI (e + 1) from add_nI e 1]
      exact cb2_loop hJ hr hJ0 hp h2 k (e + 1) fu (by omega) (by omega)
def setlA (x1 : Int32) (x : Option (Nat × Nat)) : Int32 := match x with
  | none => -1
  | some q => if x1 = 0 then nI q.1 else nI (q.2 - q.1)
def setlC (x : Option (Nat × Nat)) : Int32 := match x with
  | none => 8
  | some _ => 0
theorem w34_loop {K : Co} {A : Ha} {M0 M4 : Mem} {x1 : Int32} (ok : OKC K) (kp : KeptM M0 M4) (o : OKH (K.1 0) A) (hb : A.1 2 < 10000) : ∀ (k t fu : Nat) (M : Mem), t + k = 200 → k + 2 < fu → WFr M4 M → RepMC (M.1 55 0) K → RepMH (M.1 55 0) K (roundsS K false t A) → PkM M K A t →
    ∃ M', f_X11_settles_34 x1 fu (-1 : Int32) (nI t) M = some (setlA x1 (setlS K A k (t + 1)), if setlC (setlS K A k (t + 1)) = 0 then M' else smM M' 8) ∧ MQm M0 M' ∧ M'.1 50 0 = M0.1 50 0
  | k, t, 0, M, _, h, _, _, _, _ => by omega
  | k, t, fu + 1, M, ht, hk, F0, rc, r, hp => by
    have hJ := ok.J
    have hrd := rounds_hall (K := K) (e := false) t A (K.1 0) o (by omega)
    have hb2 : (roundsS K false t A).1 2 = A.1 2 + t := by rw [hrd.2.1, updN_at]
    rw [f_X11_settles_34, if_pos (by decide), if_neg (by show ¬ nI 200 < nI t; rw [lt_nI (by omega) (by omega)]; omega)]
    obtain ⟨M1, e1, p1, q1, z1⟩ := w48_loop (k87 := fun M_10 => (f_X11_talks (0 : Int32) M_10).bind fun M11 => if (200 : Int32) < (nI t + (1 : Int32)) then f_X11_settles_34 x1 fu (-1 : Int32) (nI t + (1 : Int32)) M11 else (f_X11_cameBefore (nI t + (1 : Int32)) M11).bind fun r12 => f_X11_settles_34 x1 fu r12 (nI t + (1 : Int32)) M11) (x1 := x1) (x2 := -1) ok (show t < 201 by omega) (K.1 0) 0 FU M (by omega) (lt_FU (by omega)) rc r hp (fun i hi => by omega)
    have W1 : WFr M M1 := ⟨q1, fun c i h => z1 c i (fun y => h ⟨Or.inr y.1, y.2⟩), fun j _ => by rw [z1 55 0 (by decide)]⟩
    have rc1 : RepMC (M1.1 55 0) K := by rw [z1 55 0 (by decide)]; exact rc
    have r1 : RepMH (M1.1 55 0) K (roundsS K false t A) := by rw [z1 55 0 (by decide)]; exact r
    obtain ⟨M2, e2, r2, f2⟩ := X11_talks_sp (b := 0) (by decide) ok rc1 r1 hrd.1 (by omega)
    have r2 : RepMH (M2.1 55 0) K (roundsS K false (t + 1) A) := by rw [rounds_succ]; exact r2
    have rc2 := RepMC.fr ok f2.2.2 rc1
    have hp2 : PkM M2 K A (t + 1) := by intro e he j hj; rw [f2.2.1 58 0 (by decide)]; exact p1 e he j hj
    have W := (F0.tr W1).tr f2.w
    have e111 : ∀ v y, ∃ M7, f_X11_settles_111 x1 v y M2 = (if v < 0 then some (-1, smM M7 8) else if x1 = 0 then some (v, M7) else some (y - v, M7)) ∧ MQm M0 M7 ∧ M7.1 50 0 = M0.1 50 0 := by
      intro v y
      obtain ⟨M7, e7, q7, z7⟩ := X11_gives_spW kp W
      refine ⟨M7, ?_, q7, z7⟩
      unfold f_X11_settles_111
      rw [e7]
      rfl
    obtain ⟨fu', rfl⟩ : ∃ fu', fu = fu' + 1 := ⟨fu - 1, by omega⟩
    have go : f_X11_settles_48 (fun M_10 => (f_X11_talks (0 : Int32) M_10).bind fun M11 => if (200 : Int32) < (nI t + (1 : Int32)) then f_X11_settles_34 x1 (fu' + 1) (-1 : Int32) (nI t + (1 : Int32)) M11 else (f_X11_cameBefore (nI t + (1 : Int32)) M11).bind fun r12 => f_X11_settles_34 x1 (fu' + 1) r12 (nI t + (1 : Int32)) M11) x1 (-1 : Int32) (nI t) FU (0 : Int32) M = if (200 : Int32) < nI (t + 1) then f_X11_settles_34 x1 (fu' + 1) (-1 : Int32) (nI (t + 1)) M2 else (f_X11_cameBefore (nI (t + 1)) M2).bind fun r12 => f_X11_settles_34 x1 (fu' + 1) r12 (nI (t + 1)) M2 := by
      refine e1.trans ?_
      rw [show f_X11_talks (0 : Int32) M1 = some M2 from e2, Option.bind_some, show nI t + (1 : Int32) = nI (t + 1) from add_nI t 1]
    rw [go]
    by_cases c : t = 200
    · have k0 : k = 0 := by omega
      subst k0
      obtain ⟨M7, e7, q7, z7⟩ := e111 (-1) (nI (t + 1))
      refine ⟨M7, ?_, q7, z7⟩
      rw [if_pos (by show nI 200 < nI (t + 1); rw [lt_nI (by omega) (by omega)]; omega), f_X11_settles_34, if_pos (by decide), if_pos (by show nI 200 < nI (t + 1); rw [lt_nI (by omega) (by omega)]; omega), e7, if_pos (by decide)]
      rfl
    · obtain ⟨k', rfl⟩ : ∃ k', k = k' + 1 := ⟨k - 1, by omega⟩
      have ecb : f_X11_cameBefore (nI (t + 1)) M2 = some (enN (findE K A (t + 1) (t + 1) 0)) := cb2_loop hJ (by omega) (rc2.1 0 (by decide)) hp2 (fun j hj => r2.2.2.2.2.2.2.1 j hj) (t + 1) 0 FU (by omega) (lt_FU (by omega))
      rw [if_neg (by show ¬ nI 200 < nI (t + 1); rw [lt_nI (by omega) (by omega)]; omega), ecb, Option.bind_some]
      have es : setlS K A (k' + 1) (t + 1) = match findE K A (t + 1) (t + 1) 0 with
        | some e => some (e, t + 1)
        | none => setlS K A k' (t + 1 + 1) := rfl
      rw [es]
      cases hf : findE K A (t + 1) (t + 1) 0 with
      | none =>
        obtain ⟨M', a1, a2, a3⟩ := w34_loop (x1 := x1) ok kp o hb k' (t + 1) (fu' + 1) M2 (by omega) (by omega) W rc2 r2 hp2
        exact ⟨M', a1, a2, a3⟩
      | some e =>
        have hle : e < t + 1 := by
          have : ∀ (k i : Nat), i + k = t + 1 → ∀ e, findE K A (t + 1) k i = some e → e < t + 1 := by
            intro k
            induction k with
            | zero => intro i hi e h; cases h
            | succ k ih =>
              intro i hi e h
              have h : (if eqR (Lr K A i) (Lr K A (t + 1)) (K.1 0) 0 = true then some i else findE K A (t + 1) k (i + 1)) = some e := h
              by_cases c : eqR (Lr K A i) (Lr K A (t + 1)) (K.1 0) 0 = true
              · rw [if_pos c] at h; cases h; omega
              · rw [if_neg c] at h; exact ih (i + 1) (by omega) e h
          exact this (t + 1) 0 (by omega) e hf
        obtain ⟨M7, e7, q7, z7⟩ := e111 (nI e) (nI (t + 1))
        refine ⟨M7, ?_, q7, z7⟩
        show f_X11_settles_34 x1 (fu' + 1) (nI e) (nI (t + 1)) M2 = _
        rw [f_X11_settles_34, if_neg (nI_pos (by omega)), e7, if_neg (nI_pos (by omega)), sub_nI (by omega)]
        by_cases d : x1 = 0
        · rw [if_pos d]
          show some (nI e, M7) = some (if x1 = 0 then nI e else nI (t + 1 - e), M7)
          rw [if_pos d]
        · rw [if_neg d]
          show some (nI (t + 1 - e), M7) = some (if x1 = 0 then nI e else nI (t + 1 - e), M7)
          rw [if_neg d]
theorem step_settles {s : Sy} (o : OKS s) (x : Int32) : Step s (f_X10_settles x) (f_X11_settles x) := by
  have b := hall_bounds o
  rcases arg_in x (n := 2) (by decide) with ⟨i, hi, rfl⟩ | hx
  · have n0 : ¬ nI i < 0 := nI_pos (by omega)
    have n1 : ¬ (1 : Int32) < nI i := by
      show ¬ nI 1 < nI i
      rw [lt_nI (by decide) (by omega)]; omega
    have e201 : setlS (sWo s).1 (sWo s).2.1 201 0 = setlS (sWo s).1 (sWo s).2.1 200 1 := rfl
    have hX : ∀ M, RX s M → ∃ M1 M', f_X3_copyFrom 4 0 M = some M1 ∧ f_X0_settle 0 4 M1 = (match setlS (sWo s).1 (sWo s).2.1 200 1 with
      | some _ => some (1, M')
      | none => some (0, M')) ∧ SFr M M' ∧ ∀ q, setlS (sWo s).1 (sWo s).2.1 200 1 = some q → M'.1 36 0 9 = nI q.1 ∧ M'.1 36 0 10 = nI (q.2 - q.1) ∧ q.1 ≤ q.2 ∧ q.2 < 201 := by
      intro M h
      obtain ⟨M1, e1, r1, f1⟩ := X3_copyFrom_sp (h := 4) (i := 0) (by decide) h.H
      obtain ⟨M2, e2, f2, g2⟩ := s2_loop (A := (sWo s).2.1) o.C o.H (by omega) 201 0 FU M1 (by omega) (lt_FU (by omega)) (RepC.fr f1 h.C) r1 (fun e he => by omega)
      rw [e201] at e2 g2
      exact ⟨M1, M2, e1, e2, f1.s.tr f2, g2⟩
    have hM : ∀ M, RM s M → ∃ M', f_X11_settles (nI i) M = some (setlA (nI i) (setlS (sWo s).1 (sWo s).2.1 200 1), if setlC (setlS (sWo s).1 (sWo s).2.1 200 1) = 0 then M' else smM M' 8) ∧ MQm (mR M) M' ∧ M'.1 50 0 = (mR M).1 50 0 := by
      intro M h
      obtain ⟨M4, e4, k4⟩ := X11_keeps_sp (mR M)
      have rc4 : RepMC (M4.1 55 0) (sWo s).1 := by rw [k4.2.2 55 0 (by decide)]; exact (h.r o).C
      have rh4 : RepMH (M4.1 55 0) (sWo s).1 (sWo s).2.1 := by rw [k4.2.2 55 0 (by decide)]; exact (h.r o).H
      obtain ⟨M7, e7, q7, z7⟩ := w34_loop (x1 := nI i) o.C k4 o.H (by omega) 200 0 FU M4 (by omega) (lt_FU (by omega)) WFr.rf rc4 rh4 (fun e he => by omega)
      refine ⟨M7, ?_, q7, z7⟩
      unfold f_X11_settles
      simp only [mR_e]
      rw [isIn_t0 (n := 2) (by decide) (by decide) hi, Option.bind_some, if_neg (by decide), e4, Option.bind_some]
      exact e7
    generalize setlS (sWo s).1 (sWo s).2.1 200 1 = w at *
    cases w with
    | none =>
      refine step_of (-1) (setSc s 0 8) o (fun M h => ?_) (fun M h => ?_)
      · obtain ⟨M1, M', e1, e2, f, -⟩ := hX M h
        refine ⟨stM M' 8, ?_, h.st o 8 f.q⟩
        unfold f_X10_settles
        rw [if_neg n0, if_neg n1, e1, Option.bind_some, e2]
        rfl
      · obtain ⟨M', e1, q1, z1⟩ := hM M h
        exact ⟨smM M' 8, e1, h.st o 8 ((mR_Q M).tr q1)⟩
    | some q =>
      refine step_of (setlA (nI i) (some q)) (setSc s 0 0) o (fun M h => ?_) (fun M h => ?_)
      · obtain ⟨M1, M', e1, e2, f, g⟩ := hX M h
        obtain ⟨g1, g2, -, -⟩ := g q rfl
        refine ⟨stM M' 0, ?_, h.st o 0 f.q⟩
        unfold f_X10_settles
        rw [if_neg n0, if_neg n1, e1, Option.bind_some, e2]
        simp only [Option.bind_some]
        rw [if_neg (by decide), g1, g2]
        unfold setlA
        by_cases d : nI i = 0
        · rw [if_pos d]
          simp only [if_pos d]
          rfl
        · rw [if_neg d]
          simp only [if_neg d]
          rfl
      · obtain ⟨M', e1, q1, z1⟩ := hM M h
        exact ⟨M', e1, h.s0 o q1 (by rw [z1]; exact mR_0 M)⟩
  · refine step_no o 5 (fun M h => ?_) (fun M h => ?_)
    · unfold f_X10_settles
      by_cases c : x < 0
      · rw [if_pos c]; rfl
      · rw [if_neg c, if_pos (show (1 : Int32) < x from big_of (n := 1) (by decide) hx c)]; rfl
    · unfold f_X11_settles
      simp only [mR_e]
      rw [isIn_f0 (n := 2) (by decide) (by decide) hx]
      rfl
