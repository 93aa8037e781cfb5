/-! ===== what a court and a hall are, in words of their own; what is done in them ===== -/
/-- a court: numbers (0..3 how many jurors, proofs, weathers, crops; 4 hunger; 5 law; 100 + w, 200 + w the weathers behind), rows (0 told, 1 stubborn, 2 price, 3 sways at 10 a + b, 4 weight, 5 growth at 6 c + w) -/
abbrev Co : Type := (Nat → Nat) × (Nat → Nat → Int32)
/-- a hall: numbers (0 seated, 1 shown, 2 round, 3 day, 4 weather, 5 coins), leanings, grown -/
abbrev Ha : Type := (Nat → Nat) × (Nat → Int32) × (Nat → Int32)
def inR (lo hi v : Int32) : Prop := lo ≤ v ∧ v ≤ hi
def OKC (K : Co) : Prop := K.1 0 ≤ 10 ∧ K.1 1 ≤ 6 ∧ K.1 2 ≤ 6 ∧ K.1 3 ≤ 4 ∧ K.1 4 ≤ 99 ∧ K.1 5 ≤ 2 ∧ (∀ w, w < K.1 2 → K.1 (100 + w) < K.1 2 ∧ K.1 (200 + w) < K.1 2) ∧
  (∀ j, j < K.1 0 → inR (-99) 99 (K.2 0 j) ∧ inR 0 20 (K.2 1 j) ∧ inR 0 99 (K.2 2 j)) ∧ (∀ a b, a < K.1 0 → b < K.1 0 → inR 0 20 (K.2 3 (10 * a + b))) ∧ (∀ a, a < K.1 0 → K.2 3 (10 * a + a) = 0) ∧
  (∀ p, p < K.1 1 → inR (-99) 99 (K.2 4 p)) ∧ (∀ c w, c < K.1 3 → w < K.1 2 → inR (-99) 99 (K.2 5 (6 * c + w)))
def OKH (J : Nat) (A : Ha) : Prop := J ≤ 10 ∧ A.1 0 < 2 ^ J ∧ (∀ j, j < 6 → A.1 j < 16777216) ∧ ∀ j, j < 10 → inR (-99) 99 (A.2.1 j)
/-- rows of a Court in memory -/
def RepCR (R : Nat → Nat → Int32) (K : Co) : Prop := (∀ j, j < 4 → R 9 j = nI (K.1 j)) ∧ R 8 11 = nI (K.1 4) ∧ R 8 12 = nI (K.1 5) ∧
  (∀ j, j < K.1 0 → R 11 j = K.2 0 j ∧ R 12 j = K.2 1 j ∧ R 13 j = K.2 2 j) ∧ (∀ a b, a < K.1 0 → b < K.1 0 → R 14 (10 * b + a) = K.2 3 (10 * a + b)) ∧
  (∀ b, b < K.1 0 → ∃ T : Nat, R 15 b = nI T ∧ T < 2 ^ K.1 0 ∧ ∀ a, a < K.1 0 → (T.testBit a = decide (¬ K.2 3 (10 * a + b) = 0))) ∧
  (∀ p, p < K.1 1 → R 16 p = K.2 4 p) ∧ (∀ w, w < K.1 2 → R 17 w = nI (K.1 (100 + w)) ∧ R 18 w = nI (K.1 (200 + w))) ∧ (∀ c w, c < K.1 3 → w < K.1 2 → R 19 (6 * c + w) = K.2 5 (6 * c + w))
def RepC (M : Mem) (k : Nat) (K : Co) : Prop := RepCR (fun c => M.1 c k) K
def RepH (M : Mem) (h : Nat) (A : Ha) : Prop := (∀ j, j < 6 → M.1 20 h (j + 2) = nI (A.1 j)) ∧ (∀ j, j < 10 → M.1 21 h j = A.2.1 j) ∧ ∀ j, j < 4 → M.1 22 h j = A.2.2 j
/-- nothing but the hall h is otherwise -/
def HFr (h : Nat) (M M' : Mem) : Prop := M'.2 = M.2 ∧ ∀ c i, ¬ (i = h ∧ (c = 20 ∨ c = 21 ∨ c = 22)) → M'.1 c i = M.1 c i
theorem HFr.rf {h : Nat} {M : Mem} : HFr h M M := ⟨rfl, fun _ _ _ => rfl⟩
theorem HFr.tr {h : Nat} {M M1 M2 : Mem} (a : HFr h M M1) (b : HFr h M1 M2) : HFr h M M2 := ⟨b.1.trans a.1, fun c i hc => (b.2 c i hc).trans (a.2 c i hc)⟩
theorem HFr.set {h c : Nat} {M : Mem} {f : Nat → Int32} (hc : c = 20 ∨ c = 21 ∨ c = 22) : HFr h M (sR M c h f) := by
  refine ⟨rfl, fun a i ha => ?_⟩
  exact sR_ne M c h f (fun z => ha ⟨z.2, by rw [z.1]; exact hc⟩)
theorem RepCR.congr {R R' : Nat → Nat → Int32} {K : Co} (e : ∀ c, 8 ≤ c → c ≤ 19 → R' c = R c) (h : RepCR R K) : RepCR R' K := by
  unfold RepCR at h ⊢
  rw [e 8 (by decide) (by decide), e 9 (by decide) (by decide), e 11 (by decide) (by decide), e 12 (by decide) (by decide), e 13 (by decide) (by decide), e 14 (by decide) (by decide), e 15 (by decide) (by decide), e 16 (by decide) (by decide), e 17 (by decide) (by decide), e 18 (by decide) (by decide), e 19 (by decide) (by decide)]
  exact h
theorem RepC.fr {h k : Nat} {M M' : Mem} {K : Co} (f : HFr h M M') (r : RepC M k K) : RepC M' k K :=
  RepCR.congr (fun c h1 h2 => f.2 c k (by omega)) r
theorem RepH.fr {h h2 : Nat} {M M' : Mem} {A : Ha} (f : HFr h M M') (hne : h2 ≠ h) (r : RepH M h2 A) : RepH M' h2 A := by
  unfold RepH at r ⊢
  rw [f.2 20 h2 (fun z => hne z.1), f.2 21 h2 (fun z => hne z.1), f.2 22 h2 (fun z => hne z.1)]
  exact r
-- ===== what is done
def cutS (v : Int32) : Int32 := if 99 < v then 99 else if v < -99 then -99 else v
theorem cutS_in (v : Int32) : inR (-99) 99 (cutS v) := by
  unfold cutS inR
  by_cases h : 99 < v
  · rw [if_pos h]; decide
  · rw [if_neg h]
    by_cases h2 : v < -99
    · rw [if_pos h2]; decide
    · rw [if_neg h2]
      exact ⟨Int32.not_lt.mp h2, Int32.not_lt.mp h⟩
theorem cutS_id {v : Int32} (h : inR (-99) 99 v) : cutS v = v := by
  unfold cutS
  rw [if_neg (Int32.not_lt.mpr h.2), if_neg (Int32.not_lt.mpr h.1)]
def accR (f : Nat → Int32) : Nat → Nat → Int32 → Int32
  | 0, _, a => a
  | k + 1, i, a => accR f k (i + 1) (a + f i)
def foldJ {α : Type} (f : α → Nat → α) : Nat → Nat → α → α
  | 0, _, l => l
  | k + 1, i, l => foldJ f k (i + 1) (f l i)
def votesS (J S : Nat) (l : Nat → Int32) : Nat := cntR (fun i => S.testBit i && decide (0 < l i)) 0 J
def seatsS (J S : Nat) : Nat := cntR (fun i => S.testBit i) 0 J
def ruleN (law g f : Nat) : Int32 := if g + f = 0 then 0 else if law = 0 then (if g + f < 2 * g then 1 else -1) else if law = 1 then (if f = 0 then 1 else if g = 0 then -1 else 0) else if 2 * (g + f) ≤ 3 * g then 1 else if 2 * (g + f) ≤ 3 * f then -1 else 0
def swayS (K : Co) (S : Nat) (l : Nat → Int32) (j i : Nat) : Int32 := if S.testBit i then (if 0 < l i then K.2 3 (10 * i + j) else if l i < 0 then -(K.2 3 (10 * i + j)) else 0) else 0
def pullS (K : Co) (S : Nat) (l : Nat → Int32) (j : Nat) : Int32 := if K.2 1 j < jabs (accR (swayS K S l j) (K.1 0) 0 0) then accR (swayS K S l j) (K.1 0) 0 0 else 0
def talkL (K : Co) (S : Nat) (l : Nat → Int32) : Nat → Int32 := foldJ (fun l i => if S.testBit i then upd l i (cutS (l i + pullS K S l i)) else l) (K.1 0) 0 l
def sideS (J S : Nat) (l : Nat → Int32) : Int32 := if 2 * votesS J S l < seatsS J S then -1 else if 2 * votesS J S l = seatsS J S then 0 else 1
def hungL (K : Co) (S : Nat) (l : Nat → Int32) : Nat → Int32 := foldJ (fun l' i => if S.testBit i then upd l' i (cutS (l' i + sideS (K.1 0) S l)) else l') (K.1 0) 0 l
def updN (f : Nat → Nat) (k x : Nat) : Nat → Nat := fun j => if j = k then x else f j
/-- a round; eff: hunger is minded and there is one -/
def roundS (K : Co) (eff : Bool) (A : Ha) : Ha := (updN A.1 2 (A.1 2 + 1), (if (eff && decide (K.1 4 ≤ A.1 2 + 1)) = true then hungL K (A.1 0) (talkL K (A.1 0) A.2.1) else talkL K (A.1 0) A.2.1), A.2.2)
def roundsS (K : Co) (eff : Bool) : Nat → Ha → Ha
  | 0, A => A
  | n + 1, A => roundsS K eff n (roundS K eff A)
def verdS (K : Co) (A : Ha) : Int32 := ruleN (K.1 5) (votesS (K.1 0) (A.1 0) A.2.1) (seatsS (K.1 0) (A.1 0) - votesS (K.1 0) (A.1 0) A.2.1)
