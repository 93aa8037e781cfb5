/-! ===== a court that is taken: the new state on both ===== -/
/-- another world, another tape, another fault -/
theorem RX.tx {s : Sy} {M M' : Mem} {W : Wo} {Q : Tp} {a b v : Int32} (hk : (sMk s).1 ≤ 3) (f : ∀ c i, ¬ (c = 0 ∧ i = 0) → ¬ (c = 30 ∧ i = 0) → ¬ (7 ≤ c ∧ c ≤ 29 ∧ (i = 0 ∨ i = 4)) → ¬ (33 ≤ c ∧ c ≤ 35) → M'.1 c i = M.1 c i ∧ M'.2 c i = M.2 c i)
    (h0 : ∀ j, ¬ (14 ≤ j ∧ j ≤ 16) → M'.1 0 0 j = M.1 0 0 j) (h00 : M'.2 0 0 = M.2 0 0) (h14 : M'.1 0 0 14 = v) (h15 : M'.1 0 0 15 = a) (h16 : M'.1 0 0 16 = b) (hq : TpX M' Q) (hw : XW M' 0 W) (h : RX s M) : RX (setSc (setSc (setSc (setTp (setWo s W) Q) 1 a) 2 b) 0 v) M' := by
  obtain ⟨⟨a1, a2, a3, a4⟩, ⟨b1, b2⟩, ⟨t1, t2⟩, tr, w, ⟨m1, m2⟩, ⟨o1, o2⟩, ⟨l1, l2⟩, rs⟩ := h
  refine ⟨⟨h14, h15, h16, by rw [(f 36 0 (by decide) (by decide) (by decide) (by decide)).1]; exact a4⟩, ⟨by rw [h00]; exact b1, by rw [h00]; exact b2⟩, hq,
    fun t ht => ⟨by rw [(f 5 0 (by decide) (by decide) (by decide) (by decide)).1]; exact (tr t ht).1, by rw [(f 6 0 (by decide) (by decide) (by decide) (by decide)).1]; exact (tr t ht).2.1, fun j hj => by rw [(f 4 t (fun z => absurd z.1 (by decide)) (fun z => absurd z.1 (by decide)) (by omega) (by decide)).2]; exact (tr t ht).2.2 j hj⟩, hw,
    ⟨by rw [h0 13 (by decide)]; exact m1, fun k h1 h2 => ?_⟩, ⟨by rw [(f 36 0 (by decide) (by decide) (by decide) (by decide)).1]; exact o1, fun k hk => by rw [(f 42 0 (by decide) (by decide) (by decide) (by decide)).1]; exact o2 k hk⟩, ⟨by rw [h0 12 (by decide)]; exact l1, fun hl j hj => by rw [(f 44 0 (by decide) (by decide) (by decide) (by decide)).1]; exact l2 hl j hj⟩, fun i hi => by rw [(f 32 0 (by decide) (by decide) (by decide) (by decide)).2]; exact rs i hi⟩
  have h2 : k ≤ (sMk s).1 := h2
  exact (m2 k h1 h2).eq (fun c x y => f c k (by omega) (by omega) (by omega) (by omega))
theorem RM.tx {s : Sy} {M M' : Mem} {W : Wo} {Q : Tp} {a b v : Int32} (o : OKS s) (f1 : ∀ c i, ¬ ((c = 50 ∨ c = 55) ∧ i = 0) → M'.1 c i = M.1 c i) (f2 : ∀ c i, ¬ ((c = 50 ∨ c = 57) ∧ i = 0) → M'.2 c i = M.2 c i) (h0 : ∀ j, (j = 23 ∨ j = 30 ∨ j = 31 ∨ j = 37) → M'.1 50 0 j = M.1 50 0 j) (hf : M'.2 50 0 2 = M.2 50 0 2 ∧ M'.2 50 0 3 = M.2 50 0 3)
    (hst : M'.1 50 0 0 = v) (h10 : M'.1 50 0 10 = a) (h11 : M'.1 50 0 11 = b) (hq : TpM M' Q) (hw : MW (M'.1 55 0) (M'.2 57 0) W) (e1 : ∀ j, 475 ≤ j → j < 1900 → M'.1 55 0 j = M.1 55 0 j) (e2 : ∀ j, 26 ≤ j → j < 104 → M'.2 57 0 j = M.2 57 0 j) (h : RM s M) : RM (setSc (setSc (setSc (setTp (setWo s W) Q) 1 a) 2 b) 0 v) M' := by
  obtain ⟨⟨a1, a2, a3, a4⟩, ⟨b1, b2⟩, ⟨t1, t2⟩, tr, w, ⟨m1, m2⟩, ⟨o1, o2⟩, ⟨l1, l2⟩⟩ := h
  have e : ∀ c, ¬ (c = 50 ∨ c = 55) → M'.1 c 0 = M.1 c 0 := fun c hc => f1 c 0 (fun z => hc z.1)
  refine ⟨⟨hst, h10, h11, by rw [h0 31 (by omega)]; exact a4⟩, ⟨by rw [hf.1]; exact b1, by rw [hf.2]; exact b2⟩, hq,
    fun t ht => ⟨by rw [e 52 (by decide)]; exact (tr t ht).1, by rw [e 51 (by decide)]; exact (tr t ht).2.1, fun j hj => by rw [f2 53 0 (by decide)]; exact (tr t ht).2.2 j hj⟩, hw, ⟨by rw [h0 23 (by omega)]; exact m1, fun k h1 h2 => ?_⟩, ⟨by rw [h0 30 (by omega)]; exact o1, fun k hk => by rw [e 60 (by decide)]; exact o2 k hk⟩, ⟨by rw [h0 37 (by omega)]; exact l1, fun hl j hj => by rw [e 63 (by decide)]; exact l2 hl j hj⟩⟩
  have hk : (sMk s).1 ≤ 3 := o.2.2.2.1.1
  have h2 : k ≤ (sMk s).1 := h2
  exact (m2 k h1 h2).eq (o.2.2.2.1.2 k h1 h2) (fun j hj => e1 _ (by omega) (by omega)) (fun j hj => e2 _ (by omega) (by omega))
theorem OKS.tx {s : Sy} {W : Wo} {Q : Tp} {a b v : Int32} (o : OKS s) (hw : OKW W) (hq : Q.1 ≤ 900) (hb : okP Q) : OKS (setSc (setSc (setSc (setTp (setWo s W) Q) 1 a) 2 b) 0 v) :=
  ⟨hq, o.2.1, hw, o.2.2.2.1, o.2.2.2.2.1, hb, o.2.2.2.2.2.2⟩
/-- the empty tape -/
def tp0 (s : Sy) : Tp := (0, (sTp s).2)
theorem okP_0 {f : Nat → Int32} : okP (0, f) := fun j hj => absurd hj (Nat.not_lt_zero _)
/-- no weeks -/
def wk0 : Wk := (fun _ => 0, fun _ _ => 0)
theorem okk_0 {K : Co} : OKK K wk0 := ⟨Nat.zero_le _, Nat.zero_le _, fun _ => rfl, fun s hs => absurd hs (Nat.not_lt_zero _)⟩
/-- a hall as a court is opened -/
def opnH (K : Co) (l : Nat → Int32) : Ha := openS K (fun _ => 0, l, fun _ => 0)
def newW (D : Dr) (l : Nat → Int32) : Wo := (D.1, opnH D.1 l, D.2.1, wk0)
theorem okd_C' {D : Dr} (h : OKD D) : OKC D.1 := by
  obtain ⟨⟨k0, k1, k2, k3⟩, k4, k5, k6, k7, k8, k9, k10⟩ := h
  exact ⟨k0, k1, k2, k3, k4, k5, k6, k7, fun a b ha hb => (k8 a b (by omega) (by omega)).1, fun a ha => (k8 a a (by omega) (by omega)).2 (fun z => z.2.2 rfl), k9, fun c w hc hw => k10 c w (by omega) (by omega)⟩
theorem opn_OK {K : Co} {l : Nat → Int32} (ok : OKC K) (hl : ∀ j, j < 10 → inR (-99) 99 (l j)) : OKH (K.1 0) (opnH K l) := by
  have hJ := ok.J
  have hp : 1 ≤ 2 ^ K.1 0 := Nat.two_pow_pos _
  have hp2 := p2_le hJ
  refine ⟨hJ, ?_, fun j hj => ?_, fun j hj => ?_⟩
  · show 2 ^ K.1 0 - 1 < _
    omega
  · show (if j = 2 then 0 else if j = 1 then 0 else if j = 0 then 2 ^ K.1 0 - 1 else 0) < _
    split
    · omega
    · split
      · omega
      · split
        · omega
        · omega
  · show inR _ _ (if j < K.1 0 then K.2 0 j else l j)
    by_cases c : j < K.1 0
    · rw [if_pos c]; exact (ok.2.2.2.2.2.2.2.1 j c).1
    · rw [if_neg c]; exact hl j hj
theorem newW_OK {D : Dr} {l : Nat → Int32} (h : OKD D) (hl : ∀ j, j < 10 → inR (-99) 99 (l j)) : OKW (newW D l) := by
  have ok := okd_C' h
  refine ⟨ok, opn_OK ok hl, ?_, Nat.two_pow_pos _, Nat.zero_le _, Nat.zero_le _, Nat.zero_le _, okk_0⟩
  show D.1.1 2 = 0 ∨ (0 : Nat) < D.1.1 2
  omega
-- the class's court as it is read
theorem DX.C {M : Mem} {D : Dr} (o : OKD D) (h : DX M D.1 D.2.1 D.2.2) : RepC M 4 D.1 ∧ NaX (M.2 10 4) D.1 D.2.1 := by
  obtain ⟨hn, r1, r2, r3, r4, r5, r6, r7, r8, r9⟩ := h
  obtain ⟨⟨k0, k1, k2, k3⟩, -, -, -, -, k8, -, -⟩ := o
  refine ⟨⟨fun j hj => (hn j hj).1, r1, r2, r4, fun a b ha hb => r5 a b (by omega) (by omega), fun b hb => ?_, r7, r8, fun c w hc hw => r9 c w (by omega) (by omega)⟩, fun q hq i hi => (hn q hq).2.2 i hi⟩
  obtain ⟨T, t1, t2, t3⟩ := r6 b (by omega)
  refine ⟨T, t1, ?_, fun a ha => t3 a (by omega)⟩
  apply Nat.lt_pow_two_of_testBit
  intro j hj
  by_cases c : j < 10
  · rw [t3 j c, (k8 j b c (by omega)).2 (fun z => by omega)]
    decide
  · exact Nat.testBit_lt_two_pow (Nat.lt_of_lt_of_le t2 (Nat.le_trans (by decide : 1024 ≤ 2 ^ 10) (Nat.pow_le_pow_right (by decide) (by omega))))
theorem oc_loop {h k : Nat} : ∀ (kk i n : Nat) (M : Mem) (A : Ha), i + kk = 4 → kk < n → RepH M h A → ∃ M', f_X3_openCourt_2 h k n (nI i) M = ((f_X3_openDay h k M').bind fun M4 => some M4) ∧ RepH M' h (updN (updN (updN A.1 3 0) 4 0) 5 0, A.2.1, fun q => if i ≤ q then 0 else A.2.2 q) ∧ HFr h M M'
  | kk, i, 0, M, A, _, hn, _ => by omega
  | 0, i, n + 1, M, A, hi, _, r => by
    have e : i = 4 := by omega
    subst e
    rw [f_X3_openCourt_2, if_neg (by decide)]
    refine ⟨_, rfl, ?_, (setN_F.tr setN_F).tr setN_F⟩
    have := setN_H (j := 5) (v := 0) (by decide) (setN_H (j := 4) (v := 0) (by decide) (setN_H (j := 3) (v := 0) (by decide) r))
    obtain ⟨q1, q2, q3⟩ := this
    refine ⟨q1, q2, fun j hj => ?_⟩
    show _ = (if 4 ≤ j then 0 else A.2.2 j)
    rw [if_neg (by omega)]
    exact q3 j hj
  | kk + 1, i, n + 1, M, A, hi, hn, r => by
    rw [f_X3_openCourt_2, if_pos (by show nI i < nI 4; rw [lt_nI (by omega) (by decide)]; omega), inb_nI_t (show i < 4 by omega) (by decide), if_pos rfl, nI_clamp (by omega), show nI i + (1 : Int32) = nI (i + 1) from add_nI i 1]
    simp only
    obtain ⟨M', g1, g2, g3⟩ := oc_loop (h := h) (k := k) kk (i + 1) n (sR M 22 h (upd (M.1 22 h) i 0)) _ (by omega) (by omega) (setG_H r)
    refine ⟨M', g1, ?_, setG_F.tr g3⟩
    obtain ⟨q1, q2, q3⟩ := g2
    refine ⟨q1, q2, fun j hj => ?_⟩
    rw [q3 j hj]
    show (if i + 1 ≤ j then 0 else upd A.2.2 i 0 j) = (if i ≤ j then 0 else A.2.2 j)
    by_cases c : i + 1 ≤ j
    · rw [if_pos c, if_pos (by omega)]
    · rw [if_neg c]
      by_cases c2 : j = i
      · subst c2; rw [upd_at, if_pos (by omega)]
      · rw [upd_ne _ _ c2, if_neg (by omega)]
theorem openCourt_x {M : Mem} {h k : Nat} {A : Ha} {K : Co} (hJ : K.1 0 ≤ 10) (rc : RepC M k K) (r : RepH M h A) : ∃ M', f_X3_openCourt h k M = some M' ∧ RepH M' h (opnH K A.2.1) ∧ HFr h M M' := by
  obtain ⟨M1, e1, r1, f1⟩ := oc_loop (h := h) (k := k) 4 0 FU M A (by omega) (lt_FU (by decide)) r
  obtain ⟨M2, e2, r2, f2⟩ := X3_openDay_sp hJ (rc.fr f1) r1
  refine ⟨M2, ?_, ?_, f1.tr f2⟩
  · unfold f_X3_openCourt
    rw [show (0 : Int32) = nI 0 from rfl, e1, e2, Option.bind_some]
  · obtain ⟨q1, q2, q3⟩ := r2
    refine ⟨fun j hj => ?_, q2, fun j hj => ?_⟩
    · rw [q1 j hj]
      show nI (if j = 2 then 0 else if j = 1 then 0 else if j = 0 then _ else if j = 5 then 0 else if j = 4 then 0 else if j = 3 then 0 else A.1 j) = nI (if j = 2 then 0 else if j = 1 then 0 else if j = 0 then _ else 0)
      match j, hj with
      | 0, _ => rfl
      | 1, _ => rfl
      | 2, _ => rfl
      | 3, _ => rfl
      | 4, _ => rfl
      | 5, _ => rfl
    · rw [q3 j hj]
      show (if 0 ≤ j then (0 : Int32) else A.2.2 j) = 0
      rw [if_pos (Nat.zero_le _)]
/-- what keepFault leaves -/
def kpM (M : Mem) (a b : Int32) : Mem := sR (sR M 0 0 (upd (M.1 0 0) 15 a)) 0 0 (upd ((sR M 0 0 (upd (M.1 0 0) 15 a)).1 0 0) 16 b)
theorem keep_b {M : Mem} {f : Ft} (h : BX M f) : f_X10_keepFault M = some (1, kpM M f.1 (nI f.2)) := by
  obtain ⟨h1, h2, h3⟩ := h
  unfold f_X10_keepFault kpM
  simp only
  rw [h2, show (sR M 0 0 (upd (M.1 0 0) 15 f.1)).1 30 0 10 = f.1 from (congrFun (sR_ne _ _ _ _ (by decide)) 10).trans h2, show (sR M 0 0 (upd (M.1 0 0) 15 f.1)).1 30 0 11 = nI f.2 from (congrFun (sR_ne _ _ _ _ (by decide)) 11).trans h3, if_neg h1]
  refine (if_neg ?_).trans rfl
  rw [sR_at, upd_ne _ _ (by decide), sR_at, upd_at]
  exact h1
theorem keep_g {M : Mem} (h : M.1 30 0 10 = 0) : f_X10_keepFault M = some (0, kpM M 0 (-1)) := by
  unfold f_X10_keepFault kpM
  simp only
  rw [h, show (sR M 0 0 (upd (M.1 0 0) 15 0)).1 30 0 10 = 0 from (congrFun (sR_ne _ _ _ _ (by decide)) 10).trans h, if_pos rfl]
  refine (if_pos ?_).trans rfl
  rw [sR_at, upd_ne _ _ (by decide), sR_at, upd_at]
theorem kpM_ne {M : Mem} {a b : Int32} {c i : Nat} (h : ¬ (c = 0 ∧ i = 0)) : (kpM M a b).1 c i = M.1 c i ∧ (kpM M a b).2 c i = M.2 c i := by
  unfold kpM
  exact ⟨by rw [sR_ne _ _ _ _ h, sR_ne _ _ _ _ h], rfl⟩
theorem kpM_j {M : Mem} {a b : Int32} {j : Nat} (h : ¬ (15 ≤ j ∧ j ≤ 16)) : (kpM M a b).1 0 0 j = M.1 0 0 j := by
  unfold kpM
  rw [sR_at, upd_ne _ _ (by omega), sR_at, upd_ne _ _ (by omega)]
theorem kpM_15 {M : Mem} {a b : Int32} : (kpM M a b).1 0 0 15 = a := by
  unfold kpM
  rw [sR_at, upd_ne _ _ (by decide), sR_at, upd_at]
theorem kpM_16 {M : Mem} {a b : Int32} : (kpM M a b).1 0 0 16 = b := by
  unfold kpM
  rw [sR_at, upd_at]
