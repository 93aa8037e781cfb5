/-! ===== the whole state, what of it lies where in the class and in the reference ===== -/
/-- weeks: numbers (0 there, 1 steps, 10 + s the kind of step s, 100 + s where it ends), rows (0, 1 what is told, 2 the test, 3 the sign) -/
abbrev Wk : Type := (Nat → Nat) × (Nat → Nat → Int32)
def isBl (w : Wk) (s : Nat) : Bool := w.1 (10 + s) == 7 || w.1 (10 + s) == 8
def posW (w : Wk) (s : Nat) : Nat := s + cntR (fun b => isBl w b && decide (w.1 (100 + b) ≤ s)) 0 s
def endW (w : Wk) (b : Nat) : Nat := w.1 (100 + b) + cntR (fun d => isBl w d && (decide (w.1 (100 + d) < w.1 (100 + b)) || (decide (w.1 (100 + d) = w.1 (100 + b)) && decide (b < d)))) 0 (w.1 (100 + b))
def codeW (k : Nat) : Nat := if k < 7 then 18 + k else if k = 7 then 25 else if k = 8 then 27 else 29
def WkXR (R : Nat → Nat → Int32) (w : Wk) : Prop := R 23 8 = nI (w.1 0) ∧ R 23 7 = nI (w.1 1) ∧ R 23 6 = nI (w.1 1 + cntR (isBl w) 0 (w.1 1)) ∧ ∀ s, s < w.1 1 →
  R 24 (posW w s) = nI (codeW (w.1 (10 + s))) ∧ (isBl w s = true → R 29 (posW w s) = nI (endW w s) ∧ R 24 (endW w s) = nI 28 ∧ R 29 (endW w s) = nI (posW w s)) ∧
  (w.1 (10 + s) ≠ 7 → w.1 (10 + s) ≠ 2 → w.1 (10 + s) ≠ 6 → w.1 (10 + s) ≠ 9 → R 25 (posW w s) = w.2 0 s) ∧ (w.1 (10 + s) = 5 → R 27 (posW w s) = w.2 1 s) ∧
  (w.1 (10 + s) = 7 → (w.2 2 s = 0 → R 25 (posW w s) = 26 ∧ R 28 (posW w s) = w.2 1 s ∧ R 27 (posW w s) = w.2 3 s) ∧ (w.2 2 s = 1 → R 25 (posW w s) = 7 ∧ R 26 (posW w s) = w.2 0 s) ∧ (w.2 2 s = 2 → R 25 (posW w s) = 11 ∧ R 26 (posW w s) = w.2 0 s ∧ R 28 (posW w s) = w.2 1 s ∧ R 27 (posW w s) = w.2 3 s))
def WkM (c : Nat → Int32) (w : Wk) : Prop := c 198 = nI (w.1 0) ∧ c 199 = nI (w.1 1) ∧ ∀ s, s < w.1 1 → c (200 + 9 * s) = nI (w.1 (10 + s)) ∧ c (201 + 9 * s) = w.2 0 s ∧ c (202 + 9 * s) = w.2 1 s ∧ c (206 + 9 * s) = w.2 2 s ∧ c (207 + 9 * s) = w.2 3 s ∧ c (208 + 9 * s) = nI (w.1 (100 + s))
/-- a court, its hall, its names, its weeks -/
abbrev Wo : Type := Co × Ha × (Nat → Nat → Int64) × Wk
def fromN (q : Nat) : Nat := if q = 0 then 0 else if q = 1 then 10 else if q = 2 then 16 else 22
def NaX (L : Nat → Int64) (K : Co) (N : Nat → Nat → Int64) : Prop := ∀ q, q < 4 → ∀ i, i < K.1 q → L (10 * q + i) = N q i
def NaM (L : Nat → Int64) (K : Co) (N : Nat → Nat → Int64) : Prop := ∀ q, q < 4 → ∀ i, i < K.1 q → L (fromN q + i) = N q i
def XW (M : Mem) (k : Nat) (W : Wo) : Prop := RepC M k W.1 ∧ RepH M k W.2.1 ∧ NaX (M.2 10 k) W.1 W.2.2.1 ∧ WkXR (fun c => M.1 c k) W.2.2.2
def MW (c : Nat → Int32) (L : Nat → Int64) (W : Wo) : Prop := RepMC c W.1 ∧ RepMH c W.1 W.2.1 ∧ NaM L W.1 W.2.2.1 ∧ WkM c W.2.2.2
/-- what weeks may be -/
def OKK (K : Co) (w : Wk) : Prop := w.1 0 ≤ 1 ∧ w.1 1 ≤ 30 ∧ (w.1 0 = 0 → w.1 1 = 0) ∧ ∀ s, s < w.1 1 → w.1 (10 + s) ≤ 9 ∧ s < w.1 (100 + s) ∧ w.1 (100 + s) ≤ w.1 1 ∧ (isBl w s = false → w.1 (100 + s) = s + 1) ∧
  (isBl w s = true → ∀ t, s < t → t < w.1 (100 + s) → w.1 (100 + t) ≤ w.1 (100 + s)) ∧ cntR (fun b => isBl w b && decide (s < w.1 (100 + b))) 0 s ≤ 3 ∧ (isBl w s = true → cntR (fun b => isBl w b && decide (s < w.1 (100 + b))) 0 s ≤ 2) ∧
  (w.1 (10 + s) = 0 → ∃ p, p < K.1 1 ∧ w.2 0 s = nI p) ∧ (w.1 (10 + s) = 1 ∨ w.1 (10 + s) = 8 → ∃ n, 1 ≤ n ∧ n ≤ 99 ∧ w.2 0 s = nI n) ∧ (w.1 (10 + s) = 3 ∨ w.1 (10 + s) = 4 ∨ w.1 (10 + s) = 5 → ∃ j, j < K.1 0 ∧ w.2 0 s = nI j) ∧ (w.1 (10 + s) = 5 → w.2 1 s = 1 ∨ w.2 1 s = -1) ∧
  (w.1 (10 + s) = 7 → (w.2 2 s = 0 ∨ w.2 2 s = 1 ∨ w.2 2 s = 2) ∧ (w.2 2 s = 1 → ∃ v, v < K.1 2 ∧ w.2 0 s = nI v) ∧ (w.2 2 s = 2 → ∃ q, q < K.1 3 ∧ w.2 0 s = nI q) ∧ (w.2 2 s = 1 ∨ w.2 3 s = 60 ∨ w.2 3 s = 61 ∨ w.2 3 s = 62))
def OKW (W : Wo) : Prop := OKC W.1 ∧ OKH (W.1.1 0) W.2.1 ∧ (W.1.1 2 = 0 ∨ W.2.1.1 4 < W.1.1 2) ∧ W.2.1.1 1 < 2 ^ W.1.1 1 ∧ W.2.1.1 2 ≤ 9999 ∧ W.2.1.1 3 ≤ 9999 ∧ W.2.1.1 5 ≤ 9999 ∧ OKK W.1 W.2.2.2
/-- the state: scalars (0 status, 1 and 2 the fault, 3 bribed), fraction, tape, trays (lengths, sorts, rows), world, marks, order, lived -/
abbrev Sy : Type := (Nat → Int32) × (Int64 × Int64) × (Nat × (Nat → Int32)) × ((Nat → Int32) × (Nat → Nat) × (Nat → Nat → Int64)) × Wo × (Nat × (Nat → Wo)) × (Bool × Nat × (Nat → Int32)) × (Bool × (Nat → Int32))
abbrev sSc (s : Sy) : Nat → Int32 := s.1
abbrev sFr (s : Sy) : Int64 × Int64 := s.2.1
abbrev sTp (s : Sy) : Nat × (Nat → Int32) := s.2.2.1
abbrev sTr (s : Sy) : (Nat → Int32) × (Nat → Nat) × (Nat → Nat → Int64) := s.2.2.2.1
abbrev sWo (s : Sy) : Wo := s.2.2.2.2.1
abbrev sMk (s : Sy) : Nat × (Nat → Wo) := s.2.2.2.2.2.1
abbrev sOr (s : Sy) : Bool × Nat × (Nat → Int32) := s.2.2.2.2.2.2.1
abbrev sLv (s : Sy) : Bool × (Nat → Int32) := s.2.2.2.2.2.2.2
def setSc (s : Sy) (j : Nat) (v : Int32) : Sy := (upd s.1 j v, s.2)
def setFr (s : Sy) (f : Int64 × Int64) : Sy := (s.1, f, s.2.2)
def setTp (s : Sy) (t : Nat × (Nat → Int32)) : Sy := (s.1, s.2.1, t, s.2.2.2)
def setTr (s : Sy) (t : (Nat → Int32) × (Nat → Nat) × (Nat → Nat → Int64)) : Sy := (s.1, s.2.1, s.2.2.1, t, s.2.2.2.2)
def setWo (s : Sy) (w : Wo) : Sy := (s.1, s.2.1, s.2.2.1, s.2.2.2.1, w, s.2.2.2.2.2)
def setMk (s : Sy) (m : Nat × (Nat → Wo)) : Sy := (s.1, s.2.1, s.2.2.1, s.2.2.2.1, s.2.2.2.2.1, m, s.2.2.2.2.2.2)
def setOr (s : Sy) (o : Bool × Nat × (Nat → Int32)) : Sy := (s.1, s.2.1, s.2.2.1, s.2.2.2.1, s.2.2.2.2.1, s.2.2.2.2.2.1, o, s.2.2.2.2.2.2.2)
def setLv (s : Sy) (l : Bool × (Nat → Int32)) : Sy := (s.1, s.2.1, s.2.2.1, s.2.2.2.1, s.2.2.2.2.1, s.2.2.2.2.2.1, s.2.2.2.2.2.2.1, l)
def setHa (s : Sy) (A : Ha) : Sy := setWo s ((sWo s).1, A, (sWo s).2.2)
/-- the packed words, as the class keeps them -/
def pkW (l : List Nat) : Nat := l.foldl (fun a c => 32 * a + c) 0
def resN : List (List Nat) := [[10,21,18,15,18],[12,5,1,14,19],[12,5,19,19],[19,20,21,2,2,15,18,14],[16,18,9,3,5],[19,23,1,25,19],[16,18,15,15,6],[23,5,1,20,8,5,18],[6,15,12,12,15,23,19],[7,21,9,12,20,25],[6,18,5,5],[3,18,15,16],[15,14],[8,21,14,7,5,18],[12,1,23],[13,15,19,20],[1,12,12],[20,23,15],[19,8,15,23],[20,1,12,11],[22,5,18,4,9,3,20],[19,20,18,9,11,5],[19,5,1,20],[2,18,9,2,5],[13,15,15,4],[23,8,5,14],[22,15,20,5,19],[12,15,15,16],[5,14,4],[19,20,15,16]]
def resW (i : Nat) : Int64 := Int64.ofNat (pkW (resN.getD i []))
def RX (s : Sy) (M : Mem) : Prop := (M.1 0 0 14 = sSc s 0 ∧ M.1 0 0 15 = sSc s 1 ∧ M.1 0 0 16 = sSc s 2 ∧ M.1 36 0 8 = sSc s 3) ∧ (M.2 0 0 17 = (sFr s).1 ∧ M.2 0 0 18 = (sFr s).2) ∧ (M.1 30 0 2 = nI (sTp s).1 ∧ ∀ j, j < (sTp s).1 → M.1 31 0 j = (sTp s).2 j) ∧
  (∀ t, t < 4 → M.1 5 0 t = (sTr s).1 t ∧ M.1 6 0 t = nI ((sTr s).2.1 t) ∧ ∀ j, j < 60 → M.2 4 t j = (sTr s).2.2 t j) ∧ XW M 0 (sWo s) ∧ (M.1 0 0 13 = nI (sMk s).1 ∧ ∀ k, 1 ≤ k → k ≤ (sMk s).1 → XW M k ((sMk s).2 k)) ∧
  (M.1 36 0 7 = nI (sOr s).2.1 ∧ ∀ k, k < (sOr s).2.1 → M.1 42 0 k = (sOr s).2.2 k) ∧ (M.1 0 0 12 = (if (sLv s).1 then 1 else 0) ∧ ((sLv s).1 = true → ∀ j, j < 5 → M.1 44 0 (3 + j) = (sLv s).2 j)) ∧ (∀ i, i < 30 → M.2 32 0 i = resW i)
def RM (s : Sy) (M : Mem) : Prop := (M.1 50 0 0 = sSc s 0 ∧ M.1 50 0 10 = sSc s 1 ∧ M.1 50 0 11 = sSc s 2 ∧ M.1 50 0 31 = sSc s 3) ∧ (M.2 50 0 2 = (sFr s).1 ∧ M.2 50 0 3 = (sFr s).2) ∧ (M.1 50 0 8 = nI (sTp s).1 ∧ ∀ j, j < (sTp s).1 → M.1 54 0 j = (sTp s).2 j) ∧
  (∀ t, t < 4 → M.1 52 0 t = (sTr s).1 t ∧ M.1 51 0 t = nI ((sTr s).2.1 t) ∧ ∀ j, j < 60 → M.2 53 0 (60 * t + j) = (sTr s).2.2 t j) ∧ MW (M.1 55 0) (M.2 57 0) (sWo s) ∧ (M.1 50 0 23 = nI (sMk s).1 ∧ ∀ k, 1 ≤ k → k ≤ (sMk s).1 → MW (fun j => M.1 55 0 (475 * k + j)) (fun j => M.2 57 0 (26 * k + j)) ((sMk s).2 k)) ∧
  (M.1 50 0 30 = (if (sOr s).1 then nI (sOr s).2.1 else -1) ∧ ∀ k, k < (sOr s).2.1 → M.1 60 0 k = (sOr s).2.2 k) ∧ (M.1 50 0 37 = (if (sLv s).1 then 1 else 0) ∧ ((sLv s).1 = true → ∀ j, j < 5 → M.1 63 0 j = (sLv s).2 j))
def OKS (s : Sy) : Prop := (sTp s).1 ≤ 900 ∧ (∀ t, t < 4 → (sTr s).2.1 t < 4 ∧ ((sTr s).1 t = -1 ∨ ∃ n, n ≤ 60 ∧ (sTr s).1 t = nI n)) ∧ OKW (sWo s) ∧ ((sMk s).1 ≤ 3 ∧ ∀ k, 1 ≤ k → k ≤ (sMk s).1 → OKW ((sMk s).2 k)) ∧ ((sOr s).2.1 ≤ 4 ∧ ((sOr s).1 = false → (sOr s).2.1 = 0)) ∧ (∀ j, j < (sTp s).1 → inR (-128) 127 ((sTp s).2 j)) ∧ (sSc s 3 = -1 ∨ ∃ n, n < 1024 ∧ sSc s 3 = nI n) ∧ (∀ k, k < (sOr s).2.1 → ∃ n, n < 2 ^ 31 ∧ (sOr s).2.2 k = nI n) ∧ ((sLv s).1 = true → (sLv s).2 4 = 0 ∨ (sLv s).2 4 = 1)
-- ===== frames
def scrX (c i : Nat) : Prop := (20 ≤ c ∧ c ≤ 22 ∧ 4 ≤ i) ∨ (7 ≤ c ∧ c ≤ 19 ∧ i = 4) ∨ (23 ≤ c ∧ c ≤ 29 ∧ i = 4) ∨ c = 33 ∨ c = 34 ∨ c = 35 ∨ c = 37 ∨ c = 38 ∨ c = 40 ∨ c = 41 ∨ c = 43 ∨ c = 45 ∨ (c = 44 ∧ i = 1)
/-- in the class nothing is otherwise but what is only tried, and the status -/
def XQ (M M' : Mem) : Prop := (∀ c i, ¬ c = 0 → ¬ c = 30 → ¬ c = 36 → ¬ scrX c i → M'.1 c i = M.1 c i ∧ M'.2 c i = M.2 c i) ∧ (∀ j, ¬ j = 14 → M'.1 0 0 j = M.1 0 0 j) ∧ M'.2 0 0 = M.2 0 0 ∧ M'.1 30 0 2 = M.1 30 0 2 ∧ M'.1 36 0 7 = M.1 36 0 7 ∧ M'.1 36 0 8 = M.1 36 0 8
theorem XQ.rf {M : Mem} : XQ M M := ⟨fun _ _ _ _ _ _ => ⟨rfl, rfl⟩, fun _ _ => rfl, rfl, rfl, rfl, rfl⟩
theorem XQ.tr {M M1 M2 : Mem} (a : XQ M M1) (b : XQ M1 M2) : XQ M M2 :=
  ⟨fun c i h1 h2 h3 h4 => ⟨(b.1 c i h1 h2 h3 h4).1.trans (a.1 c i h1 h2 h3 h4).1, (b.1 c i h1 h2 h3 h4).2.trans (a.1 c i h1 h2 h3 h4).2⟩, fun j hj => (b.2.1 j hj).trans (a.2.1 j hj), b.2.2.1.trans a.2.2.1, b.2.2.2.1.trans a.2.2.2.1, b.2.2.2.2.1.trans a.2.2.2.2.1, b.2.2.2.2.2.trans a.2.2.2.2.2⟩
theorem XQ.st {M : Mem} {v : Int32} : XQ M (sR M 0 0 (upd (M.1 0 0) 14 v)) := by
  refine ⟨fun c i h1 _ _ _ => ⟨sR_ne _ _ _ _ (fun z => h1 z.1), rfl⟩, fun j hj => ?_, rfl, ?_, ?_, ?_⟩
  · rw [sR_at, upd_ne _ _ hj]
  · rw [sR_ne _ _ _ _ (fun z => absurd z.1 (by decide))]
  · rw [sR_ne _ _ _ _ (fun z => absurd z.1 (by decide))]
  · rw [sR_ne _ _ _ _ (fun z => absurd z.1 (by decide))]
theorem XQ.hall {h : Nat} {M M' : Mem} (hh : 4 ≤ h) (f : HFr h M M') : XQ M M' := by
  refine ⟨fun c i _ _ _ h4 => ⟨f.2 c i (fun z => h4 (Or.inl (by omega))), by rw [f.1]⟩, fun j _ => ?_, by rw [f.1], ?_, ?_, ?_⟩
  · rw [f.2 0 0 (by omega)]
  · rw [f.2 30 0 (by omega)]
  · rw [f.2 36 0 (by omega)]
  · rw [f.2 36 0 (by omega)]
theorem RepCR.eq {M M' : Mem} {k : Nat} {K : Co} (e : ∀ c, 8 ≤ c → c ≤ 19 → M'.1 c k = M.1 c k) (h : RepC M k K) : RepC M' k K := RepCR.congr e h
theorem WkXR.congr {R R' : Nat → Nat → Int32} {w : Wk} (e : ∀ c, 23 ≤ c → c ≤ 29 → R' c = R c) (h : WkXR R w) : WkXR R' w := by
  unfold WkXR at h ⊢
  rw [e 23 (by decide) (by decide), e 24 (by decide) (by decide), e 25 (by decide) (by decide), e 26 (by decide) (by decide), e 27 (by decide) (by decide), e 28 (by decide) (by decide), e 29 (by decide) (by decide)]
  exact h
theorem XW.eq {M M' : Mem} {k : Nat} {W : Wo} (e : ∀ c, 7 ≤ c → c ≤ 29 → M'.1 c k = M.1 c k ∧ M'.2 c k = M.2 c k) (h : XW M k W) : XW M' k W := by
  obtain ⟨h1, h2, h3, h4⟩ := h
  refine ⟨RepCR.congr (fun c a b => (e c (by omega) (by omega)).1) h1, ?_, ?_, ?_⟩
  · unfold RepH at h2 ⊢
    rw [(e 20 (by decide) (by decide)).1, (e 21 (by decide) (by decide)).1, (e 22 (by decide) (by decide)).1]
    exact h2
  · rw [(e 10 (by decide) (by decide)).2]; exact h3
  · exact WkXR.congr (fun c a b => (e c (by omega) (by omega)).1) h4
theorem RX.q {s : Sy} {M M' : Mem} {v : Int32} (f : XQ M M') (hv : M'.1 0 0 14 = v) (hk : (sMk s).1 ≤ 3) (h : RX s M) : RX (setSc s 0 v) M' := by
  obtain ⟨f1, f2, f3, f4, f5, f6⟩ := f
  obtain ⟨⟨a1, a2, a3, a4⟩, ⟨b1, b2⟩, ⟨t1, t2⟩, tr, w, ⟨m1, m2⟩, ⟨o1, o2⟩, ⟨l1, l2⟩, rs⟩ := h
  have e : ∀ c i, ¬ c = 0 → ¬ c = 30 → ¬ c = 36 → ¬ ((20 ≤ c ∧ c ≤ 22 ∧ 4 ≤ i) ∨ (7 ≤ c ∧ c ≤ 19 ∧ i = 4) ∨ (23 ≤ c ∧ c ≤ 29 ∧ i = 4) ∨ c = 33 ∨ c = 34 ∨ c = 35 ∨ c = 37 ∨ c = 38 ∨ c = 40 ∨ c = 41 ∨ c = 43 ∨ c = 45 ∨ (c = 44 ∧ i = 1)) → M'.1 c i = M.1 c i ∧ M'.2 c i = M.2 c i := f1
  refine ⟨⟨?_, ?_, ?_, ?_⟩, ⟨?_, ?_⟩, ⟨?_, fun j hj => ?_⟩, fun t ht => ⟨?_, ?_, fun j hj => ?_⟩, w.eq (fun c h1 h2 => e c 0 (by omega) (by omega) (by omega) (by omega)), ⟨?_, fun k h1 h2 => ?_⟩, ⟨?_, fun k hk => ?_⟩, ⟨?_, fun hl j hj => ?_⟩, fun i hi => ?_⟩
  · rw [hv]; exact (upd_at s.1 0 v).symm
  · rw [f2 15 (by decide)]; exact a2
  · rw [f2 16 (by decide)]; exact a3
  · rw [f6]; exact a4
  · rw [f3]; exact b1
  · rw [f3]; exact b2
  · rw [f4]; exact t1
  · rw [(e 31 0 (by decide) (by decide) (by decide) (by decide)).1]; exact t2 j hj
  · rw [(e 5 0 (by decide) (by decide) (by decide) (by decide)).1]; exact (tr t ht).1
  · rw [(e 6 0 (by decide) (by decide) (by decide) (by decide)).1]; exact (tr t ht).2.1
  · rw [(e 4 t (by decide) (by decide) (by decide) (by omega)).2]; exact (tr t ht).2.2 j hj
  · rw [f2 13 (by decide)]; exact m1
  · have h3 : k ≤ (sMk s).1 := h2
    exact (m2 k h1 h3).eq (fun c h1 h2 => e c k (by omega) (by omega) (by omega) (by omega))
  · rw [f5]; exact o1
  · rw [(e 42 0 (by decide) (by decide) (by decide) (by decide)).1]; exact o2 k hk
  · rw [f2 12 (by decide)]; exact l1
  · rw [(e 44 0 (by decide) (by decide) (by decide) (by decide)).1]; exact l2 hl j hj
  · rw [(e 32 0 (by decide) (by decide) (by decide) (by decide)).2]; exact rs i hi
/-- in the class nothing but the hall 0, what is only tried, and the status -/
theorem RX.h {s : Sy} {M M' : Mem} {A : Ha} (f : HFr 0 M M') (r : RepH M' 0 A) (hk : (sMk s).1 ≤ 3) (h : RX s M) : RX (setHa s A) M' := by
  obtain ⟨f1, f2⟩ := f
  obtain ⟨⟨a1, a2, a3, a4⟩, ⟨b1, b2⟩, ⟨t1, t2⟩, tr, ⟨w1, w2, w3, w4⟩, ⟨m1, m2⟩, ⟨o1, o2⟩, ⟨l1, l2⟩, rs⟩ := h
  have e : ∀ c i, ¬ (i = 0 ∧ (c = 20 ∨ c = 21 ∨ c = 22)) → M'.1 c i = M.1 c i ∧ M'.2 c i = M.2 c i := fun c i hc => ⟨f2 c i hc, by rw [f1]⟩
  have e00 := (e 0 0 (by decide)).1
  refine ⟨⟨by rw [e00]; exact a1, by rw [e00]; exact a2, by rw [e00]; exact a3, by rw [(e 36 0 (by decide)).1]; exact a4⟩, ⟨by rw [f1]; exact b1, by rw [f1]; exact b2⟩, ⟨by rw [(e 30 0 (by decide)).1]; exact t1, fun j hj => by rw [(e 31 0 (by decide)).1]; exact t2 j hj⟩,
    fun t ht => ⟨by rw [(e 5 0 (by decide)).1]; exact (tr t ht).1, by rw [(e 6 0 (by decide)).1]; exact (tr t ht).2.1, fun j hj => by rw [f1]; exact (tr t ht).2.2 j hj⟩, ⟨RepCR.congr (fun c h1 h2 => (e c 0 (by omega)).1) w1, r, by rw [f1]; exact w3, WkXR.congr (fun c h1 h2 => (e c 0 (by omega)).1) w4⟩,
    ⟨by rw [e00]; exact m1, fun k h1 h2 => (m2 k h1 h2).eq (fun c _ _ => e c k (by omega))⟩, ⟨by rw [(e 36 0 (by decide)).1]; exact o1, fun k hk => by rw [(e 42 0 (by decide)).1]; exact o2 k hk⟩, ⟨by rw [e00]; exact l1, fun hl j hj => by rw [(e 44 0 (by decide)).1]; exact l2 hl j hj⟩, fun i hi => by rw [f1]; exact rs i hi⟩
/-- in the reference nothing is otherwise but what is only tried, and the status -/
def MQm (M M' : Mem) : Prop := (∀ c i, c < 50 ∨ c = 51 ∨ c = 52 ∨ c = 53 ∨ c = 54 ∨ c = 60 ∨ c = 63 → M'.1 c i = M.1 c i ∧ M'.2 c i = M.2 c i) ∧ (∀ j, j = 8 ∨ j = 10 ∨ j = 11 ∨ j = 23 ∨ j = 30 ∨ j = 31 ∨ j = 37 → M'.1 50 0 j = M.1 50 0 j) ∧ (M'.2 50 0 2 = M.2 50 0 2 ∧ M'.2 50 0 3 = M.2 50 0 3) ∧ (∀ j, j < 1900 → M'.1 55 0 j = M.1 55 0 j) ∧ ∀ j, j < 104 → M'.2 57 0 j = M.2 57 0 j
theorem MQm.rf {M : Mem} : MQm M M := ⟨fun _ _ _ => ⟨rfl, rfl⟩, fun _ _ => rfl, ⟨rfl, rfl⟩, fun _ _ => rfl, fun _ _ => rfl⟩
theorem MQm.tr {M M1 M2 : Mem} (a : MQm M M1) (b : MQm M1 M2) : MQm M M2 :=
  ⟨fun c i h => ⟨(b.1 c i h).1.trans (a.1 c i h).1, (b.1 c i h).2.trans (a.1 c i h).2⟩, fun j hj => (b.2.1 j hj).trans (a.2.1 j hj), ⟨b.2.2.1.1.trans a.2.2.1.1, b.2.2.1.2.trans a.2.2.1.2⟩, fun j hj => (b.2.2.2.1 j hj).trans (a.2.2.2.1 j hj), fun j hj => (b.2.2.2.2 j hj).trans (a.2.2.2.2 j hj)⟩
theorem MQm.f {M : Mem} {j : Nat} {v : Int32} (hj : ¬ (j = 8 ∨ j = 10 ∨ j = 11 ∨ j = 23 ∨ j = 30 ∨ j = 31 ∨ j = 37)) : MQm M (sR M 50 0 (upd (M.1 50 0) j v)) := by
  refine ⟨fun c i h => ⟨sR_ne _ _ _ _ (fun z => by omega), rfl⟩, fun i hi => ?_, ⟨rfl, rfl⟩, fun i _ => ?_, fun _ _ => rfl⟩
  · rw [sR_at, upd_ne _ _ (fun z => hj (by rw [← z]; exact hi))]
  · rw [sR_ne _ _ _ _ (fun z => absurd z.1 (by decide))]
theorem MQm.row {M : Mem} {c : Nat} {f : Nat → Int32} (hc : c = 56 ∨ c = 58 ∨ c = 59 ∨ c = 61 ∨ c = 62 ∨ c = 64) : MQm M (sR M c 0 f) := by
  refine ⟨fun a i h => ⟨sR_ne _ _ _ _ (fun z => by omega), rfl⟩, fun i hi => ?_, ⟨rfl, rfl⟩, fun i _ => ?_, fun _ _ => rfl⟩
  · rw [sR_ne _ _ _ _ (fun z => by omega)]
  · rw [sR_ne _ _ _ _ (fun z => by omega)]
theorem RepMC.eq {c c' : Nat → Int32} {K : Co} (ok : OKC K) (e : ∀ j, j < 475 → c' j = c j) (h : RepMC c K) : RepMC c' K := by
  obtain ⟨k0, k1, k2, k3, -⟩ := ok
  obtain ⟨r1, r2, r3, r4, r5, r6, r7, r8⟩ := h
  refine ⟨fun j hj => ?_, ?_, ?_, fun j hj => ⟨?_, ?_, ?_⟩, fun a b ha hb => ?_, fun p hp => ?_, fun w hw => ⟨?_, ?_⟩, fun q w hq hw => ?_⟩
  · rw [e j (by omega)]; exact r1 j hj
  · rw [e 4 (by omega)]; exact r2
  · rw [e 5 (by omega)]; exact r3
  · rw [e _ (by omega)]; exact (r4 j hj).1
  · rw [e _ (by omega)]; exact (r4 j hj).2.1
  · rw [e _ (by omega)]; exact (r4 j hj).2.2
  · rw [e _ (by omega)]; exact r5 a b ha hb
  · rw [e _ (by omega)]; exact r6 p hp
  · rw [e _ (by omega)]; exact (r7 w hw).1
  · rw [e _ (by omega)]; exact (r7 w hw).2
  · rw [e _ (by omega)]; exact r8 q w hq hw
theorem RepMH.eq {c c' : Nat → Int32} {K : Co} {A : Ha} (ok : OKC K) (e : ∀ j, j < 475 → c' j = c j) (h : RepMH c K A) : RepMH c' K A := by
  obtain ⟨k0, k1, k2, k3, -⟩ := ok
  obtain ⟨r1, r2, r3, r4, r5, r6, r7, r8⟩ := h
  refine ⟨?_, ?_, ?_, ?_, ?_, ?_, fun j hj => ?_, fun q hq => ?_⟩
  · rw [e _ (by omega)]; exact r1
  · rw [e _ (by omega)]; exact r2
  · rw [e _ (by omega)]; exact r3
  · rw [e _ (by omega)]; exact r4
  · rw [e _ (by omega)]; exact r5
  · rw [e _ (by omega)]; exact r6
  · rw [e _ (by omega)]; exact r7 j hj
  · rw [e _ (by omega)]; exact r8 q hq
theorem WkM.eq {c c' : Nat → Int32} {w : Wk} (hs : w.1 1 ≤ 30) (e : ∀ j, 198 ≤ j → j < 475 → c' j = c j) (h : WkM c w) : WkM c' w := by
  obtain ⟨h1, h2, h3⟩ := h
  refine ⟨by rw [e _ (by omega) (by omega)]; exact h1, by rw [e _ (by omega) (by omega)]; exact h2, fun s hs' => ?_⟩
  obtain ⟨g1, g2, g3, g4, g5, g6⟩ := h3 s hs'
  exact ⟨by rw [e _ (by omega) (by omega)]; exact g1, by rw [e _ (by omega) (by omega)]; exact g2, by rw [e _ (by omega) (by omega)]; exact g3, by rw [e _ (by omega) (by omega)]; exact g4, by rw [e _ (by omega) (by omega)]; exact g5, by rw [e _ (by omega) (by omega)]; exact g6⟩
theorem NaM.eq {L L' : Nat → Int64} {K : Co} {N : Nat → Nat → Int64} (ok : OKC K) (e : ∀ j, j < 26 → L' j = L j) (h : NaM L K N) : NaM L' K N := by
  obtain ⟨k0, k1, k2, k3, -⟩ := ok
  intro q hq i hi
  rw [e _ (by
    unfold fromN
    match q, hq with
    | 0, _ => simp; omega
    | 1, _ => simp; omega
    | 2, _ => simp; omega
    | 3, _ => simp; omega)]
  exact h q hq i hi
theorem MW.eq {c c' : Nat → Int32} {L L' : Nat → Int64} {W : Wo} (ok : OKW W) (e : ∀ j, j < 475 → c' j = c j) (e2 : ∀ j, j < 26 → L' j = L j) (h : MW c L W) : MW c' L' W :=
  ⟨h.1.eq ok.1 e, h.2.1.eq ok.1 e, h.2.2.1.eq ok.1 e2, h.2.2.2.eq ok.2.2.2.2.2.2.2.2.1 (fun j _ h => e j h)⟩
theorem RM.q {s : Sy} {M M' : Mem} {v : Int32} (o : OKS s) (f : MQm M M') (hv : M'.1 50 0 0 = v) (h : RM s M) : RM (setSc s 0 v) M' := by
  obtain ⟨f1, f2, f3, f4, f5⟩ := f
  obtain ⟨⟨a1, a2, a3, a4⟩, ⟨b1, b2⟩, ⟨t1, t2⟩, tr, w, ⟨m1, m2⟩, ⟨o1, o2⟩, ⟨l1, l2⟩⟩ := h
  refine ⟨⟨hv.trans (upd_at s.1 0 v).symm, by rw [f2 10 (by omega)]; exact a2, by rw [f2 11 (by omega)]; exact a3, by rw [f2 31 (by omega)]; exact a4⟩, ⟨by rw [f3.1]; exact b1, by rw [f3.2]; exact b2⟩, ⟨by rw [f2 8 (by omega)]; exact t1, fun j hj => by rw [(f1 54 0 (by omega)).1]; exact t2 j hj⟩,
    fun t ht => ⟨by rw [(f1 52 0 (by omega)).1]; exact (tr t ht).1, by rw [(f1 51 0 (by omega)).1]; exact (tr t ht).2.1, fun j hj => by rw [(f1 53 0 (by omega)).2]; exact (tr t ht).2.2 j hj⟩, w.eq o.2.2.1 (fun j hj => f4 j (by omega)) (fun j hj => f5 j (by omega)),
    ⟨by rw [f2 23 (by omega)]; exact m1, fun k h1 h2 => ?_⟩, ⟨by rw [f2 30 (by omega)]; exact o1, fun k hk => by rw [(f1 60 0 (by omega)).1]; exact o2 k hk⟩, ⟨by rw [f2 37 (by omega)]; exact l1, fun hl j hj => by rw [(f1 63 0 (by omega)).1]; exact l2 hl j hj⟩⟩
  have hk : (sMk s).1 ≤ 3 := o.2.2.2.1.1
  have h2 : k ≤ (sMk s).1 := h2
  exact (m2 k h1 h2).eq (o.2.2.2.1.2 k h1 h2) (fun j hj => f4 _ (by omega)) (fun j hj => f5 _ (by omega))
theorem RM.h {s : Sy} {M M' : Mem} {A : Ha} (o : OKS s) (f : MFr M M') (r : RepMH (M'.1 55 0) (sWo s).1 A) (h : RM s M) : RM (setHa s A) M' := by
  obtain ⟨f1, f2, f3⟩ := f
  obtain ⟨⟨a1, a2, a3, a4⟩, ⟨b1, b2⟩, ⟨t1, t2⟩, tr, ⟨w1, w2, w3, w4⟩, ⟨m1, m2⟩, ⟨o1, o2⟩, ⟨l1, l2⟩⟩ := h
  have e : ∀ c i, ¬ (c = 55 ∧ i = 0) → M'.1 c i = M.1 c i := f2
  have e5 := e 50 0 (by decide)
  have hc : ∀ j, ¬ ((6 ≤ j ∧ j ≤ 11) ∨ (42 ≤ j ∧ j < 52) ∨ (194 ≤ j ∧ j < 198)) → M'.1 55 0 j = M.1 55 0 j := f3
  refine ⟨⟨by rw [e5]; exact a1, by rw [e5]; exact a2, by rw [e5]; exact a3, by rw [e5]; exact a4⟩, ⟨by rw [f1]; exact b1, by rw [f1]; exact b2⟩, ⟨by rw [e5]; exact t1, fun j hj => by rw [e 54 0 (by decide)]; exact t2 j hj⟩,
    fun t ht => ⟨by rw [e 52 0 (by decide)]; exact (tr t ht).1, by rw [e 51 0 (by decide)]; exact (tr t ht).2.1, fun j hj => by rw [f1]; exact (tr t ht).2.2 j hj⟩, ⟨w1.fr o.2.2.1.1 f3, r, by rw [f1]; exact w3, w4.eq o.2.2.1.2.2.2.2.2.2.2.2.1 (fun j h1 h2 => hc j (by omega))⟩,
    ⟨by rw [e5]; exact m1, fun k h1 h2 => ?_⟩, ⟨by rw [e5]; exact o1, fun k hk => by rw [e 60 0 (by decide)]; exact o2 k hk⟩, ⟨by rw [e5]; exact l1, fun hl j hj => by rw [e 63 0 (by decide)]; exact l2 hl j hj⟩⟩
  have h2 : k ≤ (sMk s).1 := h2
  exact (m2 k h1 h2).eq (o.2.2.2.1.2 k h1 h2) (fun j hj => hc _ (by omega)) (fun j hj => by rw [f1])
