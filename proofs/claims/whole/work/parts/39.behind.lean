/-! ===== calls on both: behind ===== -/
def setN (p : Nat → Bool) : Nat → Nat
  | 0 => 0
  | k + 1 => setN p k ||| (if p k = true then 2 ^ k else 0)
theorem setN_bit (p : Nat → Bool) : ∀ (k i : Nat), (setN p k).testBit i = (decide (i < k) && p i)
  | 0, i => by
    show (0 : Nat).testBit i = _
    simp
  | k + 1, i => by
    show (setN p k ||| (if p k = true then 2 ^ k else 0)).testBit i = _
    rw [Nat.testBit_or, setN_bit p k i]
    by_cases c : i = k
    · subst c
      by_cases d : p i = true
      · rw [if_pos d, Nat.testBit_two_pow_self, d]; simp
      · rw [if_neg d]
        simp [Bool.eq_false_iff.mpr d]
    · have e : (if p k = true then 2 ^ k else 0).testBit i = false := by
        by_cases d : p k = true
        · rw [if_pos d, Nat.testBit_two_pow]; simp; omega
        · rw [if_neg d]; simp
      rw [e, Bool.or_false]
      congr 1
      exact decide_eq_decide.mpr (by omega)
theorem setN_lt (p : Nat → Bool) : ∀ (k : Nat), setN p k < 2 ^ k
  | 0 => by show 0 < 1; omega
  | k + 1 => by
    have h := setN_lt p k
    have h2 : 2 ^ k < 2 ^ (k + 1) := Nat.pow_lt_pow_right (by decide) (by omega)
    refine Nat.or_lt_two_pow (by omega) ?_
    by_cases d : p k = true
    · rw [if_pos d]; exact h2
    · rw [if_neg d]; omega
theorem cntR_mono {p q : Nat → Bool} (h : ∀ j, p j = true → q j = true) : ∀ (k i : Nat), cntR p i k ≤ cntR q i k
  | 0, _ => Nat.le_refl _
  | k + 1, i => by
    have := cntR_mono h k (i + 1)
    unfold cntR
    cases hp : p i with
    | false => simp; omega
    | true => rw [h i hp]; simp; omega
theorem cntR_strict {p q : Nat → Bool} (h : ∀ j, p j = true → q j = true) {m : Nat} (hp : p m = false) (hq : q m = true) : ∀ (k i : Nat), i ≤ m → m < i + k → cntR p i k < cntR q i k
  | 0, _, h1, h2 => by omega
  | k + 1, i, h1, h2 => by
    unfold cntR
    by_cases e : m = i
    · subst e
      have := cntR_mono h k (m + 1)
      rw [hp, hq]; simp; omega
    · have := cntR_strict h hp hq k (i + 1) (by omega) (by omega)
      cases hp : p i with
      | false => simp; omega
      | true => rw [h i hp]; simp; omega
/-- a set within another one, not alike: it is smaller -/
theorem sub_cnt {J S T : Nat} (hS : S < 2 ^ J) (hT : T < 2 ^ J) (h : ∀ i, S.testBit i = true → T.testBit i = true) (hne : ¬ T = S) : seatsS J S < seatsS J T := by
  have : ∃ i, ¬ T.testBit i = S.testBit i := by
    refine Classical.byContradiction (fun z => hne (Nat.eq_of_testBit_eq (fun i => Classical.byContradiction (fun w => z ⟨i, w⟩))))
  obtain ⟨i, hi⟩ := this
  have hi2 : S.testBit i = false ∧ T.testBit i = true := by
    cases a : S.testBit i with
    | true => exact absurd ((h i a).trans a.symm) hi
    | false =>
      refine ⟨rfl, ?_⟩
      cases b : T.testBit i with
      | true => rfl
      | false => rw [a, b] at hi; exact absurd rfl hi
  have hlt : i < J := by
    rcases Nat.lt_or_ge i J with q | q
    · exact q
    · have := no_hi hT q
      rw [hi2.2] at this
      cases this
  exact cntR_strict (p := fun i => S.testBit i) (q := fun i => T.testBit i) h hi2.1 hi2.2 J 0 (Nat.zero_le _) (by omega)
theorem foldJ_hit {α : Type} {f : α → Nat → α} {P Q : α → Prop} {m : Nat} (pQ : ∀ x j, Q x → Q (f x j)) (h : ∀ x, Q x → P (f x m)) (pP : ∀ x j, P x → P (f x j)) : ∀ (k i : Nat) (l : α), i ≤ m → m < i + k → Q l → P (foldJ f k i l)
  | 0, i, l, h1, h2, _ => by omega
  | k + 1, i, l, h1, h2, hl => by
    show P (foldJ f k (i + 1) (f l i))
    by_cases e : m = i
    · subst e
      exact foldJ_inv _ _ _ (h l hl) (fun x j _ _ hx => pP x j hx)
    · exact foldJ_hit pQ h pP k (i + 1) (f l i) (by omega) (by omega) (pQ l i hl)
/-- a can be come to from j -/
def ReachS (K : Co) (j a : Nat) : Prop := ∀ P : Nat → Prop, P j → (∀ a b, a < K.1 0 → b < K.1 0 → P b → ¬ K.2 3 (10 * a + b) = 0 → P a) → P a
theorem ReachS.step {K : Co} {j a b : Nat} (ha : a < K.1 0) (hb : b < K.1 0) (h : ReachS K j b) (hs : ¬ K.2 3 (10 * a + b) = 0) : ReachS K j a := fun P p1 p2 => p2 a b ha hb (h P p1 p2) hs
def GoodB (K : Co) (j X : Nat) : Prop := X < 2 ^ K.1 0 ∧ X.testBit j = true ∧ ∀ a, X.testBit a = true → ReachS K j a
def ClosedB (K : Co) (X : Nat) : Prop := ∀ a b, a < K.1 0 → b < K.1 0 → X.testBit b = true → ¬ K.2 3 (10 * a + b) = 0 → X.testBit a = true
theorem good_one {K : Co} {j X Y : Nat} (gX : GoodB K j X) (cX : ClosedB K X) (gY : GoodB K j Y) (cY : ClosedB K Y) : X = Y := by
  apply Nat.eq_of_testBit_eq
  intro i
  have h1 : X.testBit i = true → Y.testBit i = true := fun h => gX.2.2 i h (fun a => Y.testBit a = true) gY.2.1 (fun a b ha hb p q => cY a b ha hb p q)
  have h2 : Y.testBit i = true → X.testBit i = true := fun h => gY.2.2 i h (fun a => X.testBit a = true) gX.2.1 (fun a b ha hb p q => cX a b ha hb p q)
  cases a : X.testBit i with
  | true => exact (h1 a).symm
  | false =>
    cases b : Y.testBit i with
    | true => rw [h2 b] at a; cases a
    | false => rfl
theorem good_start {K : Co} {j : Nat} (hj : j < K.1 0) : GoodB K j (2 ^ j) := by
  refine ⟨Nat.pow_lt_pow_right (by decide) hj, Nat.testBit_two_pow_self, fun a h => ?_⟩
  rw [Nat.testBit_two_pow] at h
  have e : j = a := of_decide_eq_true h
  subst e
  exact fun P p1 _ => p1
-- the class's pass
def TS (K : Co) (b : Nat) : Nat := setN (fun a => decide (¬ K.2 3 (10 * a + b) = 0)) (K.1 0)
def passF (K : Co) (x i : Nat) : Nat := if x.testBit i = true then x ||| TS K i else x
def passC (K : Co) (S : Nat) : Nat := foldJ (passF K) (K.1 0) 0 S
theorem TS_bit {K : Co} {a b : Nat} : (TS K b).testBit a = true ↔ a < K.1 0 ∧ ¬ K.2 3 (10 * a + b) = 0 := by
  unfold TS
  rw [setN_bit, Bool.and_eq_true, decide_eq_true_iff, decide_eq_true_iff]
theorem passF_sub {K : Co} {x i a : Nat} (h : x.testBit a = true) : (passF K x i).testBit a = true := by
  unfold passF
  by_cases c : x.testBit i = true
  · rw [if_pos c, Nat.testBit_or, h, Bool.true_or]
  · rw [if_neg c]; exact h
theorem passF_good {K : Co} {j x i : Nat} (hi : i < K.1 0) (g : GoodB K j x) : GoodB K j (passF K x i) := by
  unfold passF
  by_cases c : x.testBit i = true
  · rw [if_pos c]
    refine ⟨Nat.or_lt_two_pow g.1 (setN_lt _ _), by rw [Nat.testBit_or, g.2.1, Bool.true_or], fun a h => ?_⟩
    rw [Nat.testBit_or, Bool.or_eq_true] at h
    rcases h with h | h
    · exact g.2.2 a h
    · have := TS_bit.mp h
      exact (g.2.2 i c).step this.1 hi this.2
  · rw [if_neg c]; exact g
theorem passC_good {K : Co} {j S : Nat} (g : GoodB K j S) : GoodB K j (passC K S) :=
  foldJ_inv (P := GoodB K j) _ _ _ g (fun x m _ h2 hx => passF_good (by omega) hx)
theorem passC_sub {K : Co} {S a : Nat} (h : S.testBit a = true) : (passC K S).testBit a = true :=
  foldJ_inv (P := fun x : Nat => x.testBit a = true) _ _ _ h (fun x m _ _ hx => passF_sub hx)
theorem passC_closed {K : Co} {S : Nat} (h : passC K S = S) : ClosedB K S := by
  intro a b ha hb hS hs
  have : (passC K S).testBit a = true := by
    refine foldJ_hit (P := fun x : Nat => x.testBit a = true) (Q := fun x : Nat => x.testBit b = true) (m := b) (fun x j hx => passF_sub hx) (fun x hx => ?_) (fun x j hx => passF_sub hx) (K.1 0) 0 S (Nat.zero_le _) (by omega) hS
    unfold passF
    rw [if_pos hx, Nat.testBit_or, TS_bit.mpr ⟨ha, hs⟩, Bool.or_true]
  rwa [h] at this
def itC (K : Co) : Nat → Nat → Nat
  | 0, S => S
  | n + 1, S => itC K n (passC K S)
theorem itC_succ (K : Co) : ∀ (n S : Nat), itC K (n + 1) S = passC K (itC K n S)
  | 0, _ => rfl
  | n + 1, S => itC_succ K n (passC K S)
theorem itC_good {K : Co} {j : Nat} : ∀ (n S : Nat), GoodB K j S → GoodB K j (itC K n S)
  | 0, _, h => h
  | n + 1, S, h => itC_good n _ (passC_good h)
theorem good_pos {K : Co} {j S : Nat} (hj : j < K.1 0) (g : GoodB K j S) : 1 ≤ seatsS (K.1 0) S := by
  have := cntR_strict (p := fun _ => false) (q := fun i => S.testBit i) (fun _ h => by cases h) rfl g.2.1 (K.1 0) 0 (Nat.zero_le _) (by omega)
  unfold seatsS
  omega
theorem itC_grow {K : Co} {j S : Nat} (hj : j < K.1 0) (g : GoodB K j S) : ∀ n, itC K (n + 1) S = itC K n S ∨ n + 2 ≤ seatsS (K.1 0) (itC K (n + 1) S)
  | 0 => by
    by_cases e : itC K 1 S = itC K 0 S
    · exact Or.inl e
    · right
      have := sub_cnt g.1 (itC_good 1 S g).1 (fun i h => passC_sub h) e
      have := good_pos hj g
      show 0 + 2 ≤ seatsS (K.1 0) (itC K 1 S)
      omega
  | n + 1 => by
    by_cases e : itC K (n + 2) S = itC K (n + 1) S
    · exact Or.inl e
    · right
      rcases itC_grow hj g n with c | c
      · exact absurd (by rw [itC_succ K (n + 1) S, c, ← itC_succ K n S, c]) e
      · have := sub_cnt (itC_good (n + 1) S g).1 (itC_good (n + 2) S g).1 (fun i h => by rw [itC_succ K (n + 1) S]; exact passC_sub h) e
        show n + 1 + 2 ≤ seatsS (K.1 0) (itC K (n + 2) S)
        omega
theorem itC_closed {K : Co} {j S : Nat} (hj : j < K.1 0) (g : GoodB K j S) : ClosedB K (itC K (K.1 0) S) := by
  obtain ⟨n, hn⟩ : ∃ n, K.1 0 = n + 1 := ⟨K.1 0 - 1, by omega⟩
  refine passC_closed ?_
  rcases itC_grow hj g n with c | c
  · rw [hn, c, ← itC_succ K n S]
    exact c
  · have : seatsS (K.1 0) (itC K (n + 1) S) ≤ K.1 0 := seats_le
    omega
theorem sway_set {M : Mem} {K : Co} {b : Nat} (rc : RepC M 0 K) (hb : b < K.1 0) : M.1 15 0 b = nI (TS K b) := by
  obtain ⟨T, t1, t2, t3⟩ := rc.2.2.2.2.2.1 b hb
  have e : T = TS K b := by
    apply Nat.eq_of_testBit_eq
    intro i
    unfold TS
    rw [setN_bit]
    by_cases c : i < K.1 0
    · rw [t3 i c, decide_eq_true c, Bool.true_and]
    · rw [no_hi t2 (by omega), decide_eq_false c, Bool.false_and]
  rw [← e]
  exact t1
theorem ab19_loop {M : Mem} {K : Co} {j : Nat} {k55 : Int32 → Option Int32} {x1 x3 : Int32} (ok : OKC K) (rc : RepC M 0 K) : ∀ (k i fu x : Nat), i + k = K.1 0 → k < fu → GoodB K j x →
    f_X1_allBehind_19 k55 0 x1 x3 M fu (nI x) (nI i) = k55 (nI (foldJ (passF K) k i x))
  | k, i, 0, x, _, h, _ => by omega
  | 0, i, fu + 1, x, hi, _, _ => by
    have hJ := ok.J
    rw [f_X1_allBehind_19, show M.1 9 0 0 = nI (K.1 0) from rc.1 0 (by decide), if_neg (by rw [lt_nI (by omega) (by omega)]; omega)]
    rfl
  | k + 1, i, fu + 1, x, hi, hk, g => by
    have hJ := ok.J
    have hx : x < 1024 := Nat.lt_of_lt_of_le g.1 (p2_le hJ)
    rw [f_X1_allBehind_19, show M.1 9 0 0 = nI (K.1 0) from rc.1 0 (by decide), if_pos (by rw [lt_nI (by omega) (by omega)]; omega), show nI i + (1 : Int32) = nI (i + 1) from add_nI i 1]
    show _ = k55 (nI (foldJ (passF K) k (i + 1) (passF K x i)))
    have g2 := passF_good (i := i) (by omega) g
    cases hb : x.testBit i with
    | false =>
      have e : passF K x i = x := by unfold passF; rw [hb]; rfl
      rw [if_pos (by rw [bitZ x i hx (by omega)]; exact hb), ab19_loop ok rc k (i + 1) fu x (by omega) (by omega) g, e]
    | true =>
      have e : passF K x i = x ||| TS K i := by unfold passF; rw [if_pos hb]
      rw [if_neg (by rw [bitZ x i hx (by omega), hb]; decide), inb_nI_t (show i < 10 by omega) (by decide), if_pos rfl, nI_clamp (by omega)]
      simp only
      rw [sway_set rc (by omega), or_nI, ← e, ab19_loop ok rc k (i + 1) fu _ (by omega) (by omega) g2]
theorem ab6_loop {M : Mem} {K : Co} {j : Nat} (ok : OKC K) (rc : RepC M 0 K) (hj : j < K.1 0) : ∀ (k i fu x : Nat), i + k = K.1 0 → k < fu → GoodB K j x →
    f_X1_allBehind_6 0 (nI j) M fu (nI x) (nI i) = some (nI (itC K k x &&& (1023 ^^^ 2 ^ j)))
  | k, i, 0, x, _, h, _ => by omega
  | 0, i, fu + 1, x, hi, _, g => by
    have hJ := ok.J
    have hx : x < 1024 := Nat.lt_of_lt_of_le g.1 (p2_le hJ)
    rw [f_X1_allBehind_6, show M.1 9 0 0 = nI (K.1 0) from rc.1 0 (by decide), if_neg (by rw [lt_nI (by omega) (by omega)]; omega), andn_at x hx j (by omega)]
    rfl
  | k + 1, i, fu + 1, x, hi, hk, g => by
    have hJ := ok.J
    rw [f_X1_allBehind_6, show M.1 9 0 0 = nI (K.1 0) from rc.1 0 (by decide), if_pos (by rw [lt_nI (by omega) (by omega)]; omega)]
    refine (ab19_loop (x1 := nI j) (x3 := nI i) ok rc (K.1 0) 0 FU x (by omega) (lt_FU (by omega)) g).trans ?_
    rw [show nI i + (1 : Int32) = nI (i + 1) from add_nI i 1]
    exact ab6_loop ok rc hj k (i + 1) fu (passC K x) (by omega) (by omega) (passC_good g)
-- the reference's pass
def passB (K : Co) (S a m b : Nat) : Nat := if ¬ a = b ∧ S.testBit b = true ∧ ¬ K.2 3 (10 * a + b) = 0 then m ||| 2 ^ a else m
def passA (K : Co) (S m a : Nat) : Nat := foldJ (passB K S a) (K.1 0) 0 m
def passM (K : Co) (S : Nat) : Nat := foldJ (passA K S) (K.1 0) 0 S
theorem passB_sub {K : Co} {S a m b i : Nat} (h : m.testBit i = true) : (passB K S a m b).testBit i = true := by
  unfold passB
  by_cases c : ¬ a = b ∧ S.testBit b = true ∧ ¬ K.2 3 (10 * a + b) = 0
  · rw [if_pos c, Nat.testBit_or, h, Bool.true_or]
  · rw [if_neg c]; exact h
theorem passA_sub {K : Co} {S a m i : Nat} (h : m.testBit i = true) : (passA K S m a).testBit i = true :=
  foldJ_inv (P := fun x : Nat => x.testBit i = true) _ _ _ h (fun _ _ _ _ hx => passB_sub hx)
theorem passM_sub {K : Co} {S i : Nat} (h : S.testBit i = true) : (passM K S).testBit i = true :=
  foldJ_inv (P := fun x : Nat => x.testBit i = true) _ _ _ h (fun _ _ _ _ hx => passA_sub hx)
theorem passB_good {K : Co} {S a m b j : Nat} (ha : a < K.1 0) (hb : b < K.1 0) (gS : GoodB K j S) (g : GoodB K j m) : GoodB K j (passB K S a m b) := by
  unfold passB
  by_cases c : ¬ a = b ∧ S.testBit b = true ∧ ¬ K.2 3 (10 * a + b) = 0
  · rw [if_pos c]
    refine ⟨Nat.or_lt_two_pow g.1 (Nat.pow_lt_pow_right (by decide) ha), by rw [Nat.testBit_or, g.2.1, Bool.true_or], fun i h => ?_⟩
    rw [Nat.testBit_or, Bool.or_eq_true] at h
    rcases h with h | h
    · exact g.2.2 i h
    · rw [Nat.testBit_two_pow] at h
      have e : a = i := of_decide_eq_true h
      subst e
      exact (gS.2.2 b c.2.1).step ha hb c.2.2
  · rw [if_neg c]; exact g
theorem passA_good {K : Co} {S a m j : Nat} (ha : a < K.1 0) (gS : GoodB K j S) (g : GoodB K j m) : GoodB K j (passA K S m a) :=
  foldJ_inv (P := GoodB K j) _ _ _ g (fun x b _ h2 hx => passB_good ha (by omega) gS hx)
theorem passM_good {K : Co} {S j : Nat} (gS : GoodB K j S) : GoodB K j (passM K S) :=
  foldJ_inv (P := GoodB K j) _ _ _ gS (fun x a _ h2 hx => passA_good (by omega) gS hx)
theorem passM_closed {K : Co} {S : Nat} (ok : OKC K) (h : passM K S = S) : ClosedB K S := by
  intro a b ha hb hS hs
  have hne : ¬ a = b := by
    intro e
    subst e
    exact hs (ok.2.2.2.2.2.2.2.2.2.1 a ha)
  have : (passM K S).testBit a = true := by
    refine foldJ_hit (P := fun x : Nat => x.testBit a = true) (Q := fun _ : Nat => True) (m := a) (fun _ _ _ => trivial) (fun x _ => ?_) (fun x j hx => passA_sub hx) (K.1 0) 0 S (Nat.zero_le _) (by omega) trivial
    refine foldJ_hit (P := fun x : Nat => x.testBit a = true) (Q := fun _ : Nat => True) (m := b) (fun _ _ _ => trivial) (fun x _ => ?_) (fun x j hx => passB_sub hx) (K.1 0) 0 x (Nat.zero_le _) (by omega) trivial
    unfold passB
    rw [if_pos ⟨hne, hS, hs⟩, Nat.testBit_or, Nat.testBit_two_pow_self, Bool.or_true]
  rwa [h] at this
theorem sway_pos {K : Co} {a b : Nat} (ok : OKC K) (ha : a < K.1 0) (hb : b < K.1 0) : (0 < K.2 3 (10 * a + b)) = (¬ K.2 3 (10 * a + b) = 0) := by
  have h := (ok.2.2.2.2.2.2.2.2.1 a b ha hb).1
  have h := Int32.le_iff_toInt_le.mp h
  apply propext
  rw [Int32.lt_iff_toInt_lt, ← Int32.toInt_inj]
  constructor
  · intro z; omega
  · intro z
    have h : (0 : Int32).toInt ≤ (K.2 3 (10 * a + b)).toInt := h
    omega
theorem bh54_loop {M : Mem} {K : Co} {S a : Nat} {k113 : Int32 → Option (Int32 × Mem)} {x1 : Int32} (ok : OKC K) (rc : RepMC (M.1 55 0) K) (hS : S < 1024) (ha : a < K.1 0) : ∀ (k b fu m : Nat), b + k = K.1 0 → k < fu →
    f_X11_behind_54 k113 x1 (nI S) (nI a) M fu (nI m) (nI b) = k113 (nI (foldJ (passB K S a) k b m))
  | k, b, 0, m, _, h => by omega
  | 0, b, fu + 1, m, hi, _ => by
    have hJ := ok.J
    rw [f_X11_behind_54, show M.1 55 0 0 = nI (K.1 0) from rc.1 0 (by decide), if_neg (by rw [lt_nI (by omega) (by omega)]; omega)]
    rfl
  | k + 1, b, fu + 1, m, hi, hk => by
    have hJ := ok.J
    rw [f_X11_behind_54, show M.1 55 0 0 = nI (K.1 0) from rc.1 0 (by decide), if_pos (by rw [lt_nI (by omega) (by omega)]; omega), show nI b + (1 : Int32) = nI (b + 1) from add_nI b 1]
    show _ = k113 (nI (foldJ (passB K S a) k (b + 1) (passB K S a m b)))
    by_cases c : a = b
    · have e : passB K S a m b = m := by unfold passB; exact if_neg (fun z => z.1 c)
      rw [if_pos (by rw [c]), bh54_loop ok rc hS ha k (b + 1) fu m (by omega) (by omega), e]
    · rw [if_neg (by rw [eq_nI (by omega) (by omega)]; exact c), has_at hS (by omega), Option.bind_some]
      cases hb : S.testBit b with
      | false =>
        have e : passB K S a m b = m := by unfold passB; exact if_neg (fun z => by rw [hb] at z; exact absurd z.2.1 (by decide))
        rw [ifb_f, bh54_loop ok rc hS ha k (b + 1) fu m (by omega) (by omega), e]
      | true =>
        rw [ifb_t, show (52 : Int32) + (10 : Int32) * nI a + nI b = nI (52 + 10 * a + b) from by rw [show (10 : Int32) = nI 10 from rfl, mul_nI, show (52 : Int32) = nI 52 from rfl, add_nI, add_nI], inb_nI_t (by omega) (by decide), if_pos rfl, nI_clamp (by omega), show M.1 55 0 (52 + 10 * a + b) = K.2 3 (10 * a + b) from rc.2.2.2.2.1 a b ha (by omega)]
        by_cases d : K.2 3 (10 * a + b) = 0
        · have e : passB K S a m b = m := by unfold passB; exact if_neg (fun z => z.2.2 d)
          rw [if_neg (by rw [sway_pos ok ha (by omega)]; exact fun z => z d), bh54_loop ok rc hS ha k (b + 1) fu m (by omega) (by omega), e]
        · have e : passB K S a m b = m ||| 2 ^ a := by unfold passB; exact if_pos ⟨c, hb, d⟩
          rw [if_pos (by rw [sway_pos ok ha (by omega)]; exact d)]
          simp only
          rw [shl_1 _ (by omega), or_nI, ← e, bh54_loop ok rc hS ha k (b + 1) fu _ (by omega) (by omega)]
theorem bh40_loop {M : Mem} {K : Co} {S : Nat} {k119 : Int32 → Option (Int32 × Mem)} {x1 : Int32} (ok : OKC K) (rc : RepMC (M.1 55 0) K) (hS : S < 1024) : ∀ (k a fu m : Nat), a + k = K.1 0 → k < fu →
    f_X11_behind_40 k119 x1 (nI S) M fu (nI m) (nI a) = k119 (nI (foldJ (passA K S) k a m))
  | k, a, 0, m, _, h => by omega
  | 0, a, fu + 1, m, hi, _ => by
    have hJ := ok.J
    rw [f_X11_behind_40, show M.1 55 0 0 = nI (K.1 0) from rc.1 0 (by decide), if_neg (by rw [lt_nI (by omega) (by omega)]; omega)]
    rfl
  | k + 1, a, fu + 1, m, hi, hk => by
    have hJ := ok.J
    rw [f_X11_behind_40, show M.1 55 0 0 = nI (K.1 0) from rc.1 0 (by decide), if_pos (by rw [lt_nI (by omega) (by omega)]; omega)]
    refine (bh54_loop (x1 := x1) ok rc hS (by omega) (K.1 0) 0 FU m (by omega) (lt_FU (by omega))).trans ?_
    rw [show nI a + (1 : Int32) = nI (a + 1) from add_nI a 1]
    exact bh40_loop ok rc hS k (a + 1) fu _ (by omega) (by omega)
theorem bh30_loop {M : Mem} {K : Co} {j : Nat} (ok : OKC K) (rc : RepMC (M.1 55 0) K) (hj : j < K.1 0) : ∀ (k fu S : Nat), K.1 0 ≤ seatsS (K.1 0) S + k → k < fu → GoodB K j S →
    ∃ X, f_X11_behind_30 (nI j) M fu (nI S) (nI (passM K S)) = some (nI (X &&& (1023 ^^^ 2 ^ j)), M) ∧ GoodB K j X ∧ ClosedB K X
  | k, 0, S, _, h, _ => by omega
  | k, fu + 1, S, hn, hk, g => by
    have hJ := ok.J
    have g2 := passM_good g
    have hS : S < 1024 := Nat.lt_of_lt_of_le g.1 (p2_le hJ)
    have hT : passM K S < 1024 := Nat.lt_of_lt_of_le g2.1 (p2_le hJ)
    by_cases c : passM K S = S
    · refine ⟨S, ?_, g, passM_closed ok c⟩
      rw [f_X11_behind_30, if_pos (by rw [c]), andn_at S hS j (by omega)]
    · have hlt := sub_cnt g.1 g2.1 (fun i h => passM_sub h) c
      have hle : seatsS (K.1 0) (passM K S) ≤ K.1 0 := seats_le
      obtain ⟨k', rfl⟩ : ∃ k', k = k' + 1 := ⟨k - 1, by omega⟩
      obtain ⟨X, e1, e2, e3⟩ := bh30_loop ok rc hj k' fu (passM K S) (by omega) (by omega) g2
      refine ⟨X, ?_, e2, e3⟩
      rw [f_X11_behind_30, if_neg (by rw [eq_nI (by omega) (by omega)]; exact c)]
      refine (bh40_loop (x1 := nI j) ok rc hT (K.1 0) 0 FU _ (by omega) (lt_FU (by omega))).trans ?_
      exact e1
theorem FU_1 : ∃ k, FU = k + 1 := ⟨FU - 1, by have : 5 < FU := lt_FU (by decide); omega⟩
theorem step_behind {s : Sy} (o : OKS s) (x : Int32) : Step s (f_X10_behind x) (f_X11_behind x) := by
  have hJ := o.C.J
  rcases arg_in x (n := (sWo s).1.1 0) (by omega) with ⟨j, hj, rfl⟩ | hx
  · have g0 := good_start hj
    have h10 : 2 ^ j < 1024 := Nat.lt_of_lt_of_le g0.1 (p2_le hJ)
    refine step_ans o (nI (itC (sWo s).1 ((sWo s).1.1 0) (2 ^ j) &&& (1023 ^^^ 2 ^ j))) (fun M h => ?_) (fun M h => ?_)
    · unfold f_X10_behind f_X1_allBehind
      rw [show f_X10_isNo (0 : Int32) (nI j) M = some 0 from isNo_t (q := 0) h o (by decide) hj, Option.bind_some, if_pos rfl]
      simp only
      rw [shl_1 _ (by omega), show f_X1_allBehind_6 0 (nI j) M FU (nI (2 ^ j)) (0 : Int32) = _ from ab6_loop o.C h.C hj ((sWo s).1.1 0) 0 FU (2 ^ j) (by omega) (lt_FU (by omega)) g0]
      rfl
    · obtain ⟨fu, hfu⟩ := FU_1
      have hb : 1000 < fu + 1 := by rw [← hfu]; exact lt_FU (by decide)
      obtain ⟨X, e1, e2, e3⟩ := bh30_loop (M := mR M) o.C (h.r o).C hj ((sWo s).1.1 0) fu (2 ^ j) (by show (sWo s).1.1 0 ≤ _; omega) (by omega) g0
      have eX : itC (sWo s).1 ((sWo s).1.1 0) (2 ^ j) = X := good_one (itC_good _ _ g0) (itC_closed hj g0) e2 e3
      unfold f_X11_behind
      simp only [mR_e]
      rw [isJur_t o.C (h.r o).C hj, Option.bind_some, if_neg (by decide), shl_1 _ (by omega), eX, hfu, f_X11_behind_30, if_neg (by rw [nI_z (by omega)]; have := Nat.two_pow_pos j; omega)]
      refine (bh40_loop (x1 := nI j) o.C (h.r o).C h10 ((sWo s).1.1 0) 0 FU _ (by show 0 + (sWo s).1.1 0 = (sWo s).1.1 0; omega) (lt_FU (by omega))).trans ?_
      exact e1
  · refine step_no o 2 (fun M h => ?_) (fun M h => ?_)
    · unfold f_X10_behind
      rw [show f_X10_isNo (0 : Int32) x M = some 1 from isNo_f (q := 0) h (by decide) hx]
      rfl
    · unfold f_X11_behind
      simp only [mR_e]
      rw [isJur_f o.C (h.r o).C hx]
      rfl
