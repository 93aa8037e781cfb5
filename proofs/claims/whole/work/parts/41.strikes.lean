/-! ===== calls on both: strikes, firstStrike ===== -/
def playS (w : Nat) : Nat → Nat → Nat → Int32
  | 0, g, f => ruleN w g f
  | n + 1, g, f => if g = 0 then playS w n 0 (f - 1) else if f = 0 then playS w n (g - 1) 0 else if (n + 1) % 2 = 0 then jmin (playS w n (g - 1) f) (playS w n g (f - 1)) else jmax (playS w n (g - 1) f) (playS w n g (f - 1))
theorem jrem2 : ∀ n, n < 8 → (jrem (nI n) 2 = 0 ↔ n % 2 = 0) := by decide +kernel
theorem bestPlay_sp {w : Nat} (hw : w < 3) : ∀ (n fu g f : Nat), n < fu → n < 8 → g ≤ 10 → f ≤ 10 → n ≤ g + f → f_X10_bestPlay fu (nI w) (nI g) (nI f) (nI n) = some (playS w n g f)
  | n, 0, g, f, h, _, _, _, _ => by omega
  | 0, fu + 1, g, f, _, _, hg, hf, _ => by
    rw [f_X10_bestPlay, if_neg (by decide), rule_at w hw g (by omega) f (by omega)]
    rfl
  | n + 1, fu + 1, g, f, h1, h8, hg, hf, hn => by
    have en : nI (n + 1) - (1 : Int32) = nI n := sub_nI (a := n + 1) (b := 1) (by omega)
    rw [f_X10_bestPlay, if_pos (by rw [nI_pz (by omega)]; omega), if_pos (by rw [add_nI, nI_pz (by omega)]; omega), en]
    show _ = some (if g = 0 then playS w n 0 (f - 1) else if f = 0 then playS w n (g - 1) 0 else if (n + 1) % 2 = 0 then jmin (playS w n (g - 1) f) (playS w n g (f - 1)) else jmax (playS w n (g - 1) f) (playS w n g (f - 1)))
    by_cases c : g = 0
    · rw [if_pos (by rw [c]; rfl), if_pos c, show nI f - (1 : Int32) = nI (f - 1) from sub_nI (a := f) (b := 1) (by omega), show f_X10_bestPlay fu (nI w) (0 : Int32) (nI (f - 1)) (nI n) = _ from bestPlay_sp hw n fu 0 (f - 1) (by omega) (by omega) (by omega) (by omega) (by omega)]
      rfl
    · have eg : nI g - (1 : Int32) = nI (g - 1) := sub_nI (a := g) (b := 1) (by omega)
      rw [if_neg (by rw [nI_z (by omega)]; exact c), if_neg c, eg]
      by_cases d : f = 0
      · rw [if_pos (by rw [d]; rfl), if_pos d, show f_X10_bestPlay fu (nI w) (nI (g - 1)) (0 : Int32) (nI n) = _ from bestPlay_sp hw n fu (g - 1) 0 (by omega) (by omega) (by omega) (by omega) (by omega)]
        rfl
      · rw [if_neg (by rw [nI_z (by omega)]; exact d), if_neg d, bestPlay_sp hw n fu (g - 1) f (by omega) (by omega) (by omega) (by omega) (by omega), Option.bind_some, show nI f - (1 : Int32) = nI (f - 1) from sub_nI (a := f) (b := 1) (by omega), bestPlay_sp hw n fu g (f - 1) (by omega) (by omega) (by omega) (by omega) (by omega), Option.bind_some]
        by_cases z : (n + 1) % 2 = 0
        · rw [if_pos ((jrem2 (n + 1) h8).mpr z), if_pos z]
          rfl
        · rw [if_neg (fun y => z ((jrem2 (n + 1) h8).mp y)), if_neg z]
          rfl
theorem ruleN_in (w g f : Nat) : ruleN w g f = 0 ∨ ruleN w g f = 1 ∨ ruleN w g f = -1 := by
  unfold ruleN
  repeat' split
  all_goals first | exact Or.inl rfl | exact Or.inr (Or.inl rfl) | exact Or.inr (Or.inr rfl)
theorem jmin_in {a b : Int32} (ha : a = 0 ∨ a = 1 ∨ a = -1) (hb : b = 0 ∨ b = 1 ∨ b = -1) : jmin a b = 0 ∨ jmin a b = 1 ∨ jmin a b = -1 := by
  unfold jmin
  split <;> assumption
theorem jmax_in {a b : Int32} (ha : a = 0 ∨ a = 1 ∨ a = -1) (hb : b = 0 ∨ b = 1 ∨ b = -1) : jmax a b = 0 ∨ jmax a b = 1 ∨ jmax a b = -1 := by
  unfold jmax
  split <;> assumption
theorem playS_in (w : Nat) : ∀ (n g f : Nat), playS w n g f = 0 ∨ playS w n g f = 1 ∨ playS w n g f = -1
  | 0, g, f => ruleN_in w g f
  | n + 1, g, f => by
    unfold playS
    by_cases c : g = 0
    · rw [if_pos c]; exact playS_in w n _ _
    · rw [if_neg c]
      by_cases d : f = 0
      · rw [if_pos d]; exact playS_in w n _ _
      · rw [if_neg d]
        by_cases e : (n + 1) % 2 = 0
        · rw [if_pos e]; exact jmin_in (playS_in w n _ _) (playS_in w n _ _)
        · rw [if_neg e]; exact jmax_in (playS_in w n _ _) (playS_in w n _ _)
-- the reference's loop: the least, and where it comes first
def leastF (p : Nat → Bool) (v : Nat → Int32) (x3 : Int32) (st : Int32 × Int32) (i : Nat) : Int32 × Int32 := if p i = true then (if v i < st.1 then (v i, if x3 = 0 then st.2 else nI i) else st) else st
theorem least_sp {p : Nat → Bool} {v : Nat → Int32} {x3 : Int32} : ∀ (k i : Nat) (st : Int32 × Int32), (foldJ (leastF p v x3) k i st).1.toInt ≤ st.1.toInt ∧ (∀ j, i ≤ j → j < i + k → p j = true → (foldJ (leastF p v x3) k i st).1.toInt ≤ (v j).toInt) ∧
    ((foldJ (leastF p v x3) k i st = st) ∨ ∃ j, i ≤ j ∧ j < i + k ∧ p j = true ∧ v j = (foldJ (leastF p v x3) k i st).1 ∧ (v j).toInt < st.1.toInt ∧ (foldJ (leastF p v x3) k i st).2 = (if x3 = 0 then st.2 else nI j) ∧ ∀ j', i ≤ j' → j' < j → p j' = true → (foldJ (leastF p v x3) k i st).1.toInt < (v j').toInt)
  | 0, i, st => ⟨Int.le_refl _, fun j h1 h2 => by omega, Or.inl rfl⟩
  | k + 1, i, st => by
    rw [show foldJ (leastF p v x3) (k + 1) i st = foldJ (leastF p v x3) k (i + 1) (leastF p v x3 st i) from rfl]
    have ih := fun st => least_sp (p := p) (v := v) (x3 := x3) k (i + 1) st
    by_cases hp : p i = true
    · by_cases hv : v i < st.1
      · have e : leastF p v x3 st i = (v i, if x3 = 0 then st.2 else nI i) := by
          unfold leastF
          rw [if_pos hp, if_pos hv]
        have hv' := Int32.lt_iff_toInt_lt.mp hv
        rw [e]
        obtain ⟨a, b, c⟩ := ih (v i, if x3 = 0 then st.2 else nI i)
        have a : (foldJ (leastF p v x3) k (i + 1) (v i, if x3 = 0 then st.2 else nI i)).1.toInt ≤ (v i).toInt := a
        refine ⟨by omega, fun j h1 h2 h3 => ?_, Or.inr ?_⟩
        · by_cases z : j = i
          · subst z; exact a
          · exact b j (by omega) (by omega) h3
        · rcases c with c | ⟨j, c1, c2, c3, c4, c5, c6, c7⟩
          · refine ⟨i, Nat.le_refl _, by omega, hp, by rw [c], hv', by rw [c], fun j' h1 h2 => by omega⟩
          · have c5 : (v j).toInt < (v i).toInt := c5
            refine ⟨j, by omega, by omega, c3, c4, by omega, ?_, fun j' h1 h2 h3 => ?_⟩
            · rw [c6]
              by_cases z : x3 = 0
              · rw [if_pos z, if_pos z, if_pos z]
              · rw [if_neg z, if_neg z]
            · by_cases z : j' = i
              · subst z; rw [← c4]; exact c5
              · exact c7 j' (by omega) h2 h3
      · have e : leastF p v x3 st i = st := by
          unfold leastF
          rw [if_pos hp, if_neg hv]
        have hv' := Int32.le_iff_toInt_le.mp (Int32.not_lt.mp hv)
        rw [e]
        obtain ⟨a, b, c⟩ := ih st
        refine ⟨a, fun j h1 h2 h3 => ?_, ?_⟩
        · by_cases z : j = i
          · subst z; omega
          · exact b j (by omega) (by omega) h3
        · rcases c with c | ⟨j, c1, c2, c3, c4, c5, c6, c7⟩
          · exact Or.inl c
          · refine Or.inr ⟨j, by omega, by omega, c3, c4, c5, c6, fun j' h1 h2 h3 => ?_⟩
            by_cases z : j' = i
            · subst z; rw [← c4]; omega
            · exact c7 j' (by omega) h2 h3
    · have e : leastF p v x3 st i = st := by
        unfold leastF
        rw [if_neg hp]
      rw [e]
      obtain ⟨a, b, c⟩ := ih st
      refine ⟨a, fun j h1 h2 h3 => ?_, ?_⟩
      · by_cases z : j = i
        · subst z; exact absurd h3 hp
        · exact b j (by omega) (by omega) h3
      · rcases c with c | ⟨j, c1, c2, c3, c4, c5, c6, c7⟩
        · exact Or.inl c
        · refine Or.inr ⟨j, by omega, by omega, c3, c4, c5, c6, fun j' h1 h2 h3 => ?_⟩
          by_cases z : j' = i
          · subst z; exact absurd h3 hp
          · exact c7 j' (by omega) h2 h3
def gN (K : Co) (A : Ha) : Nat := votesS (K.1 0) (A.1 0) A.2.1
def fN (K : Co) (A : Ha) : Nat := seatsS (K.1 0) (A.1 0) - votesS (K.1 0) (A.1 0) A.2.1
def valJ (K : Co) (A : Ha) (n : Nat) (c : Int32) (i : Nat) : Int32 := (if 0 < A.2.1 i then playS (K.1 5) n (gN K A - 1) (fN K A) else playS (K.1 5) n (gN K A) (fN K A - 1)) * c
theorem cntR_ex {p : Nat → Bool} {k i : Nat} (h : 0 < cntR p i k) : ∃ j, i ≤ j ∧ j < i + k ∧ p j = true := by
  refine Classical.byContradiction (fun z => ?_)
  rw [cntR_zero k i (fun j h1 h2 => by
    cases c : p j with
    | false => rfl
    | true => exact absurd ⟨j, h1, h2, c⟩ z)] at h
  omega
theorem cntR_some {p : Nat → Bool} {k i j : Nat} (h1 : i ≤ j) (h2 : j < i + k) (h : p j = true) : 0 < cntR p i k := by
  have := cntR_strict (p := fun _ => false) (q := p) (fun _ h => by cases h) rfl h k i h1 h2
  omega
theorem fN_cnt (K : Co) (A : Ha) : fN K A = cntR (fun i => (A.1 0).testBit i && !decide (0 < A.2.1 i)) 0 (K.1 0) := by
  have := cntR_split (p := fun i => (A.1 0).testBit i) (q := fun i => decide (0 < A.2.1 i)) (K.1 0) 0
  unfold fN seatsS votesS
  omega
theorem min_or : ∀ a ∈ ([0, 1, -1] : List Int32), ∀ b ∈ ([0, 1, -1] : List Int32), ∀ r ∈ ([a * 1, b * 1] : List Int32), r.toInt ≤ (a * 1).toInt → r.toInt ≤ (b * 1).toInt → r * 1 = jmin a b := by decide +kernel
theorem max_or : ∀ a ∈ ([0, 1, -1] : List Int32), ∀ b ∈ ([0, 1, -1] : List Int32), ∀ r ∈ ([a * -1, b * -1] : List Int32), r.toInt ≤ (a * -1).toInt → r.toInt ≤ (b * -1).toInt → r * -1 = jmax a b := by decide +kernel
theorem in3 {a : Int32} (h : a = 0 ∨ a = 1 ∨ a = -1) : a ∈ ([0, 1, -1] : List Int32) := by
  rcases h with h | h | h <;> simp [h]
theorem val3 {a c : Int32} (h : a = 0 ∨ a = 1 ∨ a = -1) (hc : c = 1 ∨ c = -1) : (a * c).toInt < 9 ∧ a * c * c = a := by
  rcases h with h | h | h <;> rcases hc with q | q <;> subst h <;> subst q <;> decide
/-- what the best play of one turn is, from what it is behind each strike -/
theorem play_best {K : Co} {A : Ha} {n : Nat} {c x3 t : Int32} (hn : 1 ≤ seatsS (K.1 0) (A.1 0)) (hc : ((n + 1) % 2 = 0 ∧ c = 1) ∨ (¬ (n + 1) % 2 = 0 ∧ c = -1)) :
    (foldJ (leastF (fun i => (A.1 0).testBit i) (valJ K A n c) x3) (K.1 0) 0 (9, t)).1 * c = playS (K.1 5) (n + 1) (gN K A) (fN K A) ∧ ∃ j, j < K.1 0 ∧ (A.1 0).testBit j = true ∧ valJ K A n c j = (foldJ (leastF (fun i => (A.1 0).testBit i) (valJ K A n c) x3) (K.1 0) 0 (9, t)).1 ∧ (foldJ (leastF (fun i => (A.1 0).testBit i) (valJ K A n c) x3) (K.1 0) 0 (9, t)).2 = (if x3 = 0 then t else nI j) ∧
      ∀ j', j' < j → (A.1 0).testBit j' = true → ¬ valJ K A n c j' = (foldJ (leastF (fun i => (A.1 0).testBit i) (valJ K A n c) x3) (K.1 0) 0 (9, t)).1 := by
  have hc1 : c = 1 ∨ c = -1 := hc.elim (fun z => Or.inl z.2) (fun z => Or.inr z.2)
  have hvg : votesS (K.1 0) (A.1 0) A.2.1 ≤ seatsS (K.1 0) (A.1 0) := votes_le
  have v1 : ∀ j, 0 < A.2.1 j → valJ K A n c j = playS (K.1 5) n (gN K A - 1) (fN K A) * c := fun j h => by unfold valJ; rw [if_pos h]
  have v0 : ∀ j, ¬ 0 < A.2.1 j → valJ K A n c j = playS (K.1 5) n (gN K A) (fN K A - 1) * c := fun j h => by unfold valJ; rw [if_neg h]
  have v9 : ∀ j, (valJ K A n c j).toInt < 9 := by
    intro j
    by_cases d : 0 < A.2.1 j
    · rw [v1 j d]; exact (val3 (playS_in _ _ _ _) hc1).1
    · rw [v0 j d]; exact (val3 (playS_in _ _ _ _) hc1).1
  obtain ⟨-, b, d⟩ := least_sp (p := fun i => (A.1 0).testBit i) (v := valJ K A n c) (x3 := x3) (K.1 0) 0 (9, t)
  generalize foldJ (leastF (fun i => (A.1 0).testBit i) (valJ K A n c) x3) (K.1 0) 0 (9, t) = r at *
  have hex : ∃ j, j < K.1 0 ∧ (A.1 0).testBit j = true := by
    obtain ⟨j, h1, h2, h3⟩ := cntR_ex (p := fun i => (A.1 0).testBit i) (k := K.1 0) (i := 0) (by unfold seatsS at hn; omega)
    exact ⟨j, by omega, h3⟩
  obtain ⟨jx, jx1, jx2⟩ := hex
  have d : ∃ j, 0 ≤ j ∧ j < 0 + K.1 0 ∧ (A.1 0).testBit j = true ∧ valJ K A n c j = r.1 ∧ (valJ K A n c j).toInt < (9 : Int32).toInt ∧ r.2 = (if x3 = 0 then t else nI j) ∧ ∀ j', 0 ≤ j' → j' < j → (A.1 0).testBit j' = true → r.1.toInt < (valJ K A n c j').toInt := by
    rcases d with d | d
    · have := b jx (by omega) (by omega) jx2
      have h9 := v9 jx
      rw [d] at this
      have this : (9 : Int) ≤ (valJ K A n c jx).toInt := this
      omega
    · exact d
  obtain ⟨j, d1, d2, d3, d4, d5, d6, d7⟩ := d
  refine ⟨?_, j, by omega, d3, d4, d6, fun j' h1 h2 h3 => ?_⟩
  · unfold playS
    by_cases g0 : gN K A = 0
    · have hj : ¬ 0 < A.2.1 j := by
        intro z
        have := cntR_some (p := fun i => (A.1 0).testBit i && decide (0 < A.2.1 i)) (k := K.1 0) (i := 0) (j := j) d1 d2 (by simp [d3, z])
        unfold gN votesS at g0
        omega
      rw [if_pos g0, ← d4, v0 j hj, (val3 (playS_in _ _ _ _) hc1).2, g0]
    · rw [if_neg g0]
      by_cases f0 : fN K A = 0
      · have hj : 0 < A.2.1 j := by
          refine Classical.byContradiction (fun z => ?_)
          have := cntR_some (p := fun i => (A.1 0).testBit i && !decide (0 < A.2.1 i)) (k := K.1 0) (i := 0) (j := j) d1 d2 (by simp [d3, z])
          rw [fN_cnt] at f0
          omega
        rw [if_pos f0, ← d4, v1 j hj, (val3 (playS_in _ _ _ _) hc1).2, f0]
      · rw [if_neg f0]
        obtain ⟨jg, e1, e2, e3⟩ := cntR_ex (p := fun i => (A.1 0).testBit i && decide (0 < A.2.1 i)) (k := K.1 0) (i := 0) (by unfold gN votesS at g0; omega)
        obtain ⟨jf, k1, k2, k3⟩ := cntR_ex (p := fun i => (A.1 0).testBit i && !decide (0 < A.2.1 i)) (k := K.1 0) (i := 0) (by rw [fN_cnt] at f0; omega)
        simp only [Bool.and_eq_true, decide_eq_true_eq, Bool.not_eq_true', decide_eq_false_iff_not] at e3 k3
        have b1 := b jg e1 e2 e3.1
        have b2 := b jf k1 k2 k3.1
        rw [v1 jg e3.2] at b1
        rw [v0 jf k3.2] at b2
        have hr : r.1 = playS (K.1 5) n (gN K A - 1) (fN K A) * c ∨ r.1 = playS (K.1 5) n (gN K A) (fN K A - 1) * c := by
          by_cases z : 0 < A.2.1 j
          · left; rw [← d4, v1 j z]
          · right; rw [← d4, v0 j z]
        rcases hc with ⟨h1, h2⟩ | ⟨h1, h2⟩
        · subst h2
          rw [if_pos h1]
          exact min_or _ (in3 (playS_in _ _ _ _)) _ (in3 (playS_in _ _ _ _)) r.1 (by simpa using hr) b1 b2
        · subst h2
          rw [if_neg h1]
          exact max_or _ (in3 (playS_in _ _ _ _)) _ (in3 (playS_in _ _ _ _)) r.1 (by simpa using hr) b1 b2
  · have := d7 j' (Nat.zero_le _) h1 h2
    rw [h3] at this
    omega
/-- a frame: the hall, and what was told first -/
def PFr (M M' : Mem) : Prop := M'.2 = M.2 ∧ (∀ c i, ¬ ((c = 50 ∨ c = 55) ∧ i = 0) → M'.1 c i = M.1 c i) ∧ (∀ j, ¬ hallIx j → M'.1 55 0 j = M.1 55 0 j) ∧ ∀ j, ¬ j = 32 → M'.1 50 0 j = M.1 50 0 j
theorem PFr.rf {M : Mem} : PFr M M := ⟨rfl, fun _ _ _ => rfl, fun _ _ => rfl, fun _ _ => rfl⟩
theorem PFr.tr {M M1 M2 : Mem} (a : PFr M M1) (b : PFr M1 M2) : PFr M M2 := ⟨b.1.trans a.1, fun c i h => (b.2.1 c i h).trans (a.2.1 c i h), fun j h => (b.2.2.1 j h).trans (a.2.2.1 j h), fun j h => (b.2.2.2 j h).trans (a.2.2.2 j h)⟩
theorem MFr.p {M M' : Mem} (f : MFr M M') : PFr M M' := ⟨f.1, fun c i h => f.2.1 c i (fun z => h ⟨Or.inr z.1, z.2⟩), f.2.2, fun j _ => by rw [f.2.1 50 0 (by decide)]⟩
theorem PFr.f32 {M : Mem} {v : Int32} : PFr M (sR M 50 0 (upd (M.1 50 0) 32 v)) := by
  refine ⟨rfl, fun c i h => sR_ne _ _ _ _ (fun z => h ⟨Or.inl z.1, z.2⟩), fun j _ => ?_, fun j h => ?_⟩
  · rw [sR_ne _ _ _ _ (by decide)]
  · rw [sR_at, upd_ne _ _ h]
theorem PFr.m {M M' : Mem} (f : PFr M M') (h : M'.1 50 0 32 = M.1 50 0 32) : MFr M M' := by
  have e : M'.1 50 0 = M.1 50 0 := by
    funext j
    by_cases d : j = 32
    · rw [d]; exact h
    · exact f.2.2.2 j d
  refine ⟨f.1, fun c i hc => ?_, f.2.2.1⟩
  by_cases d : c = 50 ∧ i = 0
  · rw [d.1, d.2]; exact e
  · exact f.2.1 c i (fun z => z.1.elim (fun q => d ⟨q, z.2⟩) (fun q => hc ⟨q, z.2⟩))
theorem RM.pf {s : Sy} {M M' : Mem} (o : OKS s) (f : PFr (mR M) M') (r : RepMH (M'.1 55 0) (sWo s).1 (sWo s).2.1) (h : RM s M) : RM (setSc s 0 0) M' ∧ onM M M' := by
  have h0 := h.r o
  have g : MFr (mR M) (sR M' 50 0 ((mR M).1 50 0)) := by
    refine ⟨f.1, fun c i hc => ?_, fun j hj => ?_⟩
    · by_cases d : c = 50 ∧ i = 0
      · rw [d.1, d.2, sR_at]
      · rw [sR_ne _ _ _ _ d]
        exact f.2.1 c i (fun z => z.1.elim (fun q => d ⟨q, z.2⟩) (fun q => hc ⟨q, z.2⟩))
    · rw [sR_ne _ _ _ _ (by decide)]; exact f.2.2.1 j hj
  have h1 : RM (setSc s 0 0) (sR M' 50 0 ((mR M).1 50 0)) := h0.h (s := setSc s 0 0) (A := (sWo s).2.1) (o.sc 0) g (by rw [sR_ne _ _ _ _ (by decide)]; exact r)
  have q : MQm (sR M' 50 0 ((mR M).1 50 0)) M' := by
    refine ⟨fun c i hc => ⟨?_, rfl⟩, fun j hj => ?_, ⟨rfl, rfl⟩, fun j _ => ?_, fun j _ => rfl⟩
    · rw [sR_ne _ _ _ _ (by omega)]
    · rw [sR_at]; exact f.2.2.2 j (by omega)
    · rw [sR_ne _ _ _ _ (by decide)]
  refine ⟨h1.q0 (o.sc 0) q ?_, (mR_Q M).on.tr (fun c i hc => ⟨f.2.1 c i (by omega), by rw [f.1]⟩)⟩
  rw [sR_at]; exact f.2.2.2 0 (by decide)
theorem p16_loop {K : Co} {A : Ha} {n : Nat} {side x3 : Int32} {rec : Int32 → Int32 → Int32 → Mem → Option (Int32 × Mem)} (ok : OKC K) (o : OKH (K.1 0) A) (hn : n + 1 ≤ seatsS (K.1 0) (A.1 0))
    (hrec : ∀ (A' : Ha) (M : Mem), RepMC (M.1 55 0) K → RepMH (M.1 55 0) K A' → OKH (K.1 0) A' → n ≤ seatsS (K.1 0) (A'.1 0) → ∃ M', rec (nI n) (-side) (0 : Int32) M = some (playS (K.1 5) n (gN K A') (fN K A'), M') ∧ RepMH (M'.1 55 0) K A' ∧ MFr M M') : ∀ (k i fu : Nat) (x : Int32) (M : Mem), i + k = K.1 0 → k < fu → RepMC (M.1 55 0) K → RepMH (M.1 55 0) K A →
    ∃ M', f_X11_plays_16 rec (nI (n + 1)) side x3 fu x (nI i) M = some ((foldJ (leastF (fun i => (A.1 0).testBit i) (valJ K A n (-side)) x3) k i (x, M.1 50 0 32)).1 * (-side), M') ∧ RepMH (M'.1 55 0) K A ∧ PFr M M' ∧ M'.1 50 0 32 = (foldJ (leastF (fun i => (A.1 0).testBit i) (valJ K A n (-side)) x3) k i (x, M.1 50 0 32)).2
  | k, i, 0, x, M, _, h, _, _ => by omega
  | 0, i, fu + 1, x, M, hi, _, rc, r => by
    have hJ := ok.J
    refine ⟨M, ?_, r, PFr.rf, rfl⟩
    rw [f_X11_plays_16, rc.1 0 (by decide), if_neg (by rw [lt_nI (by omega) (by omega)]; omega)]
    rfl
  | k + 1, i, fu + 1, x, M, hi, hk, rc, r => by
    have hJ := ok.J
    have ih := fun y M1 => p16_loop (x3 := x3) ok o hn hrec k (i + 1) fu y M1 (by omega) (by omega)
    rw [f_X11_plays_16, rc.1 0 (by decide), if_pos (by rw [lt_nI (by omega) (by omega)]; omega), show nI i + (1 : Int32) = nI (i + 1) from add_nI i 1]
    rw [show foldJ (leastF (fun i => (A.1 0).testBit i) (valJ K A n (-side)) x3) (k + 1) i (x, M.1 50 0 32) = foldJ (leastF (fun i => (A.1 0).testBit i) (valJ K A n (-side)) x3) k (i + 1) (leastF (fun i => (A.1 0).testBit i) (valJ K A n (-side)) x3 (x, M.1 50 0 32) i) from rfl]
    rcases X11_strikesOne_sp (i := i) ok r (by omega) o.S with ⟨hb, e⟩ | ⟨hb, M1, e1, r1, f1⟩
    · have el : leastF (fun i => (A.1 0).testBit i) (valJ K A n (-side)) x3 (x, M.1 50 0 32) i = (x, M.1 50 0 32) := by
        unfold leastF
        exact if_neg (by show ¬ (A.1 0).testBit i = true; rw [hb]; decide)
      rw [e, Option.bind_some, if_pos rfl, el]
      exact ih x M rc r
    · have rc1 : RepMC (M1.1 55 0) K := RepMC.fr ok f1.2.2 rc
      have hlt : A.1 0 &&& (1023 ^^^ 2 ^ i) < 2 ^ K.1 0 := Nat.lt_of_le_of_lt Nat.and_le_left o.2.1
      have o1 := o.seat hlt
      have s1 := seats_rm (J := K.1 0) (S := A.1 0) (i := i) hJ (by omega) hb
      have s2 := votes_rm (J := K.1 0) (S := A.1 0) (i := i) (l := A.2.1) hJ (by omega) hb
      have vle : votesS (K.1 0) (A.1 0 &&& (1023 ^^^ 2 ^ i)) A.2.1 ≤ seatsS (K.1 0) (A.1 0 &&& (1023 ^^^ 2 ^ i)) := votes_le
      obtain ⟨M2, e2, r2, f2⟩ := hrec (updN A.1 0 (A.1 0 &&& (1023 ^^^ 2 ^ i)), A.2) M1 rc1 r1 o1 (by show n ≤ seatsS (K.1 0) (A.1 0 &&& (1023 ^^^ 2 ^ i)); omega)
      have ev : playS (K.1 5) n (gN K (updN A.1 0 (A.1 0 &&& (1023 ^^^ 2 ^ i)), A.2)) (fN K (updN A.1 0 (A.1 0 &&& (1023 ^^^ 2 ^ i)), A.2)) * (-side) = valJ K A n (-side) i := by
        have g1 : gN K (updN A.1 0 (A.1 0 &&& (1023 ^^^ 2 ^ i)), A.2) = votesS (K.1 0) (A.1 0 &&& (1023 ^^^ 2 ^ i)) A.2.1 := rfl
        have g2 : fN K (updN A.1 0 (A.1 0 &&& (1023 ^^^ 2 ^ i)), A.2) = seatsS (K.1 0) (A.1 0 &&& (1023 ^^^ 2 ^ i)) - votesS (K.1 0) (A.1 0 &&& (1023 ^^^ 2 ^ i)) A.2.1 := rfl
        rw [g1, g2]
        unfold valJ gN fN
        by_cases z : 0 < A.2.1 i
        · rw [if_pos z] at s2
          rw [if_pos z, show votesS (K.1 0) (A.1 0 &&& (1023 ^^^ 2 ^ i)) A.2.1 = votesS (K.1 0) (A.1 0) A.2.1 - 1 by omega, show seatsS (K.1 0) (A.1 0 &&& (1023 ^^^ 2 ^ i)) - (votesS (K.1 0) (A.1 0) A.2.1 - 1) = seatsS (K.1 0) (A.1 0) - votesS (K.1 0) (A.1 0) A.2.1 by omega]
        · rw [if_neg z] at s2
          rw [if_neg z, show votesS (K.1 0) (A.1 0 &&& (1023 ^^^ 2 ^ i)) A.2.1 = votesS (K.1 0) (A.1 0) A.2.1 by omega, show seatsS (K.1 0) (A.1 0 &&& (1023 ^^^ 2 ^ i)) - votesS (K.1 0) (A.1 0) A.2.1 = seatsS (K.1 0) (A.1 0) - votesS (K.1 0) (A.1 0) A.2.1 - 1 by omega]
      have rc2 : RepMC (M2.1 55 0) K := RepMC.fr ok f2.2.2 rc1
      rw [e1, Option.bind_some, if_neg (show ¬ ((1 : Int32) = 0) by decide), show nI (n + 1) - (1 : Int32) = nI n from sub_nI (a := n + 1) (b := 1) (by omega)]
      dsimp only
      rw [e2, Option.bind_some]
      dsimp only
      rw [ev]
      rcases X11_seatsOne_sp (i := i) ok r2 (by omega) o1.S with ⟨hb2, -⟩ | ⟨-, M3, e3, r3, f3⟩
      · have hb2 : (A.1 0 &&& (1023 ^^^ 2 ^ i)).testBit i = true := hb2
        rw [strike_bit (by omega)] at hb2
        simp at hb2
      · have r3' : RepMH (M3.1 55 0) K A := by
          have e : (updN (updN A.1 0 (A.1 0 &&& (1023 ^^^ 2 ^ i))) 0 ((A.1 0 &&& (1023 ^^^ 2 ^ i)) ||| 2 ^ i), A.2) = A := by
            rw [updN_back _ (strike_back _ o.S i (by omega) hb)]
          have r3 : RepMH (M3.1 55 0) K (updN (updN A.1 0 (A.1 0 &&& (1023 ^^^ 2 ^ i))) 0 ((A.1 0 &&& (1023 ^^^ 2 ^ i)) ||| 2 ^ i), A.2) := r3
          rw [e] at r3
          exact r3
        have rc3 : RepMC (M3.1 55 0) K := RepMC.fr ok f3.2.2 rc2
        have F3 : MFr M M3 := (f1.tr f2).tr f3
        have e32 : M3.1 50 0 32 = M.1 50 0 32 := by rw [F3.2.1 50 0 (by decide)]
        rw [e3, Option.bind_some]
        dsimp only
        by_cases z : valJ K A n (-side) i < x
        · rw [if_pos z]
          by_cases z3 : x3 = 0
          · have el : leastF (fun i => (A.1 0).testBit i) (valJ K A n (-side)) x3 (x, M.1 50 0 32) i = (valJ K A n (-side) i, M3.1 50 0 32) := by
              unfold leastF
              rw [if_pos hb, if_pos z, if_pos z3, e32]
            rw [if_pos z3, el]
            obtain ⟨M4, a1, a2, a3, a4⟩ := ih (valJ K A n (-side) i) M3 rc3 r3'
            exact ⟨M4, a1, a2, F3.p.tr a3, a4⟩
          · have e32' : (sR M3 50 0 (upd (M3.1 50 0) 32 (nI i))).1 50 0 32 = nI i := by rw [sR_at, upd_at]
            have el : leastF (fun i => (A.1 0).testBit i) (valJ K A n (-side)) x3 (x, M.1 50 0 32) i = (valJ K A n (-side) i, (sR M3 50 0 (upd (M3.1 50 0) 32 (nI i))).1 50 0 32) := by
              unfold leastF
              rw [if_pos hb, if_pos z, if_neg z3, e32']
            have e55 : (sR M3 50 0 (upd (M3.1 50 0) 32 (nI i))).1 55 0 = M3.1 55 0 := sR_ne _ _ _ _ (by decide)
            rw [if_neg z3, el]
            obtain ⟨M4, a1, a2, a3, a4⟩ := ih (valJ K A n (-side) i) (sR M3 50 0 (upd (M3.1 50 0) 32 (nI i))) (by rw [e55]; exact rc3) (by rw [e55]; exact r3')
            exact ⟨M4, a1, a2, (F3.p.tr PFr.f32).tr a3, a4⟩
        · have el : leastF (fun i => (A.1 0).testBit i) (valJ K A n (-side)) x3 (x, M.1 50 0 32) i = (x, M3.1 50 0 32) := by
            unfold leastF
            rw [if_pos hb, if_neg z, e32]
          rw [if_neg z, el]
          obtain ⟨M4, a1, a2, a3, a4⟩ := ih x M3 rc3 r3'
          exact ⟨M4, a1, a2, F3.p.tr a3, a4⟩
theorem plays_sp {K : Co} (ok : OKC K) : ∀ (n fu : Nat) (A : Ha) (M : Mem) (side : Int32), n < fu → n < 8 → ((n % 2 = 0 ∧ side = -1) ∨ (¬ n % 2 = 0 ∧ side = 1)) → RepMC (M.1 55 0) K → RepMH (M.1 55 0) K A → OKH (K.1 0) A → n ≤ seatsS (K.1 0) (A.1 0) →
    ∃ M', f_X11_plays fu (nI n) side (0 : Int32) M = some (playS (K.1 5) n (gN K A) (fN K A), M') ∧ RepMH (M'.1 55 0) K A ∧ MFr M M'
  | n, 0, A, M, side, h, _, _, _, _, _, _ => by omega
  | 0, fu + 1, A, M, side, _, _, _, rc, r, o, _ => by
    refine ⟨M, ?_, r, MFr.rf⟩
    rw [f_X11_plays, if_pos (show nI 0 = (0 : Int32) from rfl), X11_judged_sp ok rc r o]
    rfl
  | n + 1, fu + 1, A, M, side, hf, h8, hs, rc, r, o, hn => by
    have hJ := ok.J
    have hs' : (n % 2 = 0 ∧ -side = -1) ∨ (¬ n % 2 = 0 ∧ -side = 1) := by
      rcases hs with ⟨a, b⟩ | ⟨a, b⟩
      · right; exact ⟨by omega, by rw [b]; decide⟩
      · left; exact ⟨by omega, by rw [b]⟩
    have hc : ((n + 1) % 2 = 0 ∧ -side = 1) ∨ (¬ (n + 1) % 2 = 0 ∧ -side = -1) := by
      rcases hs with ⟨a, b⟩ | ⟨a, b⟩
      · left; exact ⟨a, by rw [b]; decide⟩
      · right; exact ⟨a, by rw [b]⟩
    obtain ⟨M', e1, e2, e3, e4⟩ := p16_loop (n := n) (side := side) (x3 := 0) (rec := f_X11_plays fu) ok o hn (fun A' M rc r o h => plays_sp ok n fu A' M (-side) (by omega) (by omega) hs' rc r o h) (K.1 0) 0 FU 9 M (by omega) (lt_FU (by omega)) rc r
    obtain ⟨p1, j, -, -, -, p2, -⟩ := play_best (K := K) (A := A) (n := n) (c := -side) (x3 := 0) (t := M.1 50 0 32) (by omega) hc
    rw [if_pos rfl] at p2
    refine ⟨M', ?_, e2, e3.m (e4.trans p2)⟩
    rw [f_X11_plays, if_neg (by rw [nI_z (by omega)]; omega), ← p1]
    exact e1
/-- the first call: what is told first, too -/
theorem plays_first {K : Co} {A : Ha} {M : Mem} {n : Nat} (ok : OKC K) (h8 : n + 1 < 8) (hs : (n + 1) % 2 = 0) (rc : RepMC (M.1 55 0) K) (r : RepMH (M.1 55 0) K A) (o : OKH (K.1 0) A) (hn : n + 1 ≤ seatsS (K.1 0) (A.1 0)) :
    ∃ M' j, f_X11_plays 40 (nI (n + 1)) (-1 : Int32) (1 : Int32) M = some (playS (K.1 5) (n + 1) (gN K A) (fN K A), M') ∧ RepMH (M'.1 55 0) K A ∧ PFr M M' ∧ M'.1 50 0 32 = nI j ∧ j < K.1 0 ∧ (A.1 0).testBit j = true ∧ valJ K A n 1 j = playS (K.1 5) (n + 1) (gN K A) (fN K A) ∧ ∀ j', j' < j → (A.1 0).testBit j' = true → ¬ valJ K A n 1 j' = playS (K.1 5) (n + 1) (gN K A) (fN K A) := by
  have hJ := ok.J
  obtain ⟨M', e1, e2, e3, e4⟩ := p16_loop (n := n) (side := -1) (x3 := 1) (rec := f_X11_plays 39) ok o hn (fun A' M rc r o h => plays_sp ok n 39 A' M (- -1) (by omega) (by omega) (Or.inr ⟨by omega, by decide⟩) rc r o h) (K.1 0) 0 FU 9 M (by omega) (lt_FU (by omega)) rc r
  obtain ⟨p1, j, q1, q2, q3, q4, q5⟩ := play_best (K := K) (A := A) (n := n) (c := - -1) (x3 := 1) (t := M.1 50 0 32) (by omega) (Or.inl ⟨hs, by decide⟩)
  have e : (- -1 : Int32) = 1 := by decide
  rw [e] at p1 q3 q4 q5 e1 e4
  rw [Int32.mul_one] at p1 e1
  rw [p1] at q3 q5 e1
  rw [if_neg (by decide)] at q4
  refine ⟨M', j, ?_, e2, e3, e4.trans q4, q1, q2, q3, q5⟩
  show f_X11_plays (39 + 1) (nI (n + 1)) (-1 : Int32) (1 : Int32) M = _
  rw [f_X11_plays, if_neg (by rw [nI_z (by omega)]; omega)]
  exact e1
-- sizes
theorem so2_loop {S : Nat} (h : S < 1024) : ∀ (k i fu a : Nat), i + k = 10 → k < fu → a ≤ i → f_X11_sizeOf_4 (nI S) fu (nI a) (nI i) = some (nI (a + cntR (fun i => S.testBit i) i k))
  | k, i, 0, a, _, h, _ => by omega
  | 0, i, fu + 1, a, hi, _, _ => by
    rw [f_X11_sizeOf_4, if_neg (by show ¬ nI i < nI 10; rw [lt_nI (by omega) (by omega)]; omega)]
    rfl
  | k + 1, i, fu + 1, a, hi, hk, ha => by
    rw [f_X11_sizeOf_4, if_pos (by show nI i < nI 10; rw [lt_nI (by omega) (by omega)]; omega), has_at h (by omega), Option.bind_some, show nI i + (1 : Int32) = nI (i + 1) from add_nI i 1, show nI a + (1 : Int32) = nI (a + 1) from add_nI a 1, Int32.add_zero]
    unfold cntR
    cases hb : S.testBit i with
    | false =>
      rw [ifb_f, so2_loop h k (i + 1) fu a (by omega) (by omega) (by omega)]
      simp
    | true =>
      rw [ifb_t, so2_loop h k (i + 1) fu (a + 1) (by omega) (by omega) (by omega)]
      simp [Nat.add_assoc]
theorem sizeOf_sp {S : Nat} (h : S < 1024) : f_X11_sizeOf (nI S) = some (nI (pc10 S)) := by
  have := so2_loop h 10 0 FU 0 (by omega) (lt_FU (by omega)) (Nat.le_refl _)
  rw [pc10_cnt S h]
  rw [Nat.zero_add] at this
  exact this
theorem strk_both {s : Sy} (o : OKS s) (x : Int32) : ∃ e : Int32, (∀ M, RX s M → f_X10_wrongStrikes x M = some e) ∧ (∀ M, RM s M → f_X11_whyNoStrikes x M = some e) ∧ (e = 0 ∨ 0 < e) ∧
    (e = 0 → ∃ m, 1 ≤ m ∧ m ≤ 3 ∧ x = nI m ∧ 2 * m ≤ seatsS ((sWo s).1.1 0) ((sWo s).2.1.1 0)) := by
  have h1 : seatsS ((sWo s).1.1 0) ((sWo s).2.1.1 0) ≤ (sWo s).1.1 0 := seats_le
  have h3 : (sWo s).1.1 0 ≤ 10 := o.C.J
  have X : ∀ M, RX s M → f_X10_wrongStrikes x M = if x < (1 : Int32) then some (5 : Int32) else if (3 : Int32) < x then some (5 : Int32) else if nI (seatsS ((sWo s).1.1 0) ((sWo s).2.1.1 0)) < (2 : Int32) * x then some (9 : Int32) else some (0 : Int32) := by
    intro M h
    unfold f_X10_wrongStrikes
    rw [X3_seatedCount_sp h.H o.H]
    rfl
  have Y : ∀ M, RM s M → f_X11_whyNoStrikes x M = (f_X11_isIn x.toInt64 (1 : Int64) (3 : Int64)).bind fun r1 => if r1 = 0 then some (5 : Int32) else if nI (seatsS ((sWo s).1.1 0) ((sWo s).2.1.1 0)) < (2 : Int32) * x then some (9 : Int32) else some (0 : Int32) := by
    intro M h
    unfold f_X11_whyNoStrikes
    rw [show M.1 55 0 10 = nI ((sWo s).2.1.1 0) from h.H.1, sizeOf_sp o.H.S, seats_pc h3 o.H.2.1]
    rfl
  by_cases z : 1 ≤ x.toInt ∧ x.toInt ≤ 3
  · have y1 : ¬ x < (1 : Int32) := by
      rw [Int32.lt_iff_toInt_lt]; show ¬ x.toInt < 1; omega
    have y2 : ¬ (3 : Int32) < x := by
      rw [Int32.lt_iff_toInt_lt]; show ¬ 3 < x.toInt; omega
    obtain ⟨m, m1, m2, rfl⟩ : ∃ m, 1 ≤ m ∧ m ≤ 3 ∧ x = nI m := by
      refine ⟨x.toInt.toNat, by omega, by omega, ?_⟩
      apply Int32.toInt_inj.mp
      rw [nI_toInt (by omega)]
      omega
    have e2 : (2 : Int32) * nI m = nI (2 * m) := mul_nI 2 m
    by_cases c : seatsS ((sWo s).1.1 0) ((sWo s).2.1.1 0) < 2 * m
    · have c' : nI (seatsS ((sWo s).1.1 0) ((sWo s).2.1.1 0)) < (2 : Int32) * nI m := by rw [e2, lt_nI (by omega) (by omega)]; exact c
      refine ⟨9, fun M h => ?_, fun M h => ?_, Or.inr (by decide), fun w => absurd w (by decide)⟩
      · rw [X M h, if_neg y1, if_neg y2, if_pos c']
      · rw [Y M h, isIn_t (b := 1) (c := 3) z, Option.bind_some, if_neg (by decide), if_pos c']
    · have c' : ¬ nI (seatsS ((sWo s).1.1 0) ((sWo s).2.1.1 0)) < (2 : Int32) * nI m := by rw [e2, lt_nI (by omega) (by omega)]; exact c
      refine ⟨0, fun M h => ?_, fun M h => ?_, Or.inl rfl, fun w => ⟨m, m1, m2, rfl, by omega⟩⟩
      · rw [X M h, if_neg y1, if_neg y2, if_neg c']
      · rw [Y M h, isIn_t (b := 1) (c := 3) z, Option.bind_some, if_neg (by decide), if_neg c']
  · refine ⟨5, fun M h => ?_, fun M h => ?_, Or.inr (by decide), fun w => absurd w (by decide)⟩
    · rw [X M h]
      by_cases y1 : x < (1 : Int32)
      · rw [if_pos y1]
      · have z1 : ¬ x.toInt < 1 := fun w => y1 (Int32.lt_iff_toInt_lt.mpr w)
        rw [if_neg y1, if_pos (Int32.lt_iff_toInt_lt.mpr (show (3 : Int32).toInt < x.toInt from by show (3 : Int) < x.toInt; omega))]
    · rw [Y M h, isIn_f (b := 1) (c := 3) z]; rfl
theorem step_strikes {s : Sy} (o : OKS s) (x : Int32) : Step s (f_X10_strikes x) (f_X11_strikes x) := by
  have h1 : seatsS ((sWo s).1.1 0) ((sWo s).2.1.1 0) ≤ (sWo s).1.1 0 := seats_le
  have h2 : votesS ((sWo s).1.1 0) ((sWo s).2.1.1 0) (sWo s).2.1.2.1 ≤ seatsS ((sWo s).1.1 0) ((sWo s).2.1.1 0) := votes_le
  have h3 : (sWo s).1.1 0 ≤ 10 := o.C.J
  have hw : (sWo s).1.1 5 ≤ 2 := o.C.2.2.2.2.2.1
  obtain ⟨e, ex, em, he, ha⟩ := strk_both o x
  rcases he with he | he
  · obtain ⟨m, m1, m2, rfl, hm⟩ := ha he
    subst he
    obtain ⟨n, hn⟩ : ∃ n, 2 * m = n + 1 := ⟨2 * m - 1, by omega⟩
    have e2 : (2 : Int32) * nI m = nI (n + 1) := by rw [← hn]; exact mul_nI 2 m
    refine step_of (playS ((sWo s).1.1 5) (n + 1) (gN (sWo s).1 (sWo s).2.1) (fN (sWo s).1 (sWo s).2.1)) (setSc s 0 0) o (fun M h => ⟨stM M 0, ?_, h.st o 0 XQ.rf⟩) (fun M h => ?_)
    · unfold f_X10_strikes
      rw [ex M h, Option.bind_some, if_pos rfl, X3_guiltyVotes_sp h.H o.H, Option.bind_some, X3_seatedCount_sp h.H o.H, Option.bind_some, sub_nI h2, show M.1 8 0 12 = nI ((sWo s).1.1 5) from h.C.2.2.1, e2, bestPlay_sp (by omega) (n + 1) 40 _ _ (by omega) (by omega) (by omega) (by omega) (by omega)]
      rfl
    · have r := h.r o
      obtain ⟨M', j, p1, p2, p3, -⟩ := plays_first (K := (sWo s).1) (A := (sWo s).2.1) (M := mR M) (n := n) o.C (by omega) (by omega) r.C r.H o.H (by omega)
      refine ⟨M', ?_, h.pf o p3 p2⟩
      unfold f_X11_strikes
      simp only
      rw [show f_X11_whyNoStrikes (nI m) (sR M 50 0 (upd (M.1 50 0) 1 (0 : Int32))) = some 0 from em _ (h.th o).1, Option.bind_some]
      show (if 0 < (mR M).1 50 0 0 then _ else (f_X11_plays 40 ((2 : Int32) * nI m) (-1 : Int32) (1 : Int32) (mR M)).bind _) = _
      rw [if_neg (by rw [mR_0]; decide), e2, p1]
      rfl
  · refine step_of (-1) (setSc s 0 e) o (fun M h => ⟨stM M e, ?_, h.st o e XQ.rf⟩) (fun M h => ⟨smM (thM M) e, ?_, h.ths o e⟩)
    · unfold f_X10_strikes
      rw [ex M h, Option.bind_some, if_neg (by intro z; subst z; exact absurd he (by decide))]
      rfl
    · unfold f_X11_strikes
      simp only
      rw [show f_X11_whyNoStrikes x (sR M 50 0 (upd (M.1 50 0) 1 (0 : Int32))) = some e from em _ (h.th o).1, Option.bind_some]
      show (if 0 < (smM (thM M) e).1 50 0 0 then _ else _) = _
      rw [if_pos (by rw [smM_at]; exact he)]
      rfl
theorem fb_loop {M : Mem} {K : Co} {A : Ha} {n j : Nat} {b : Int32} (ok : OKC K) (rc : RepC M 0 K) (r : RepH M 0 A) (o : OKH (K.1 0) A) (h8 : n < 7) (hn : n + 1 ≤ seatsS (K.1 0) (A.1 0)) (hj : j < K.1 0) (hb : (A.1 0).testBit j = true) (hv : valJ K A n 1 j = b) (hf : ∀ j', j' < j → (A.1 0).testBit j' = true → ¬ valJ K A n 1 j' = b) : ∀ (k i fu : Nat), i + k = j → k < fu →
    f_X10_firstOfBest_48 (nI (n + 1)) 0 (nI (K.1 5)) (nI (gN K A)) (nI (fN K A)) b M fu (nI i) = some (nI j)
  | k, i, 0, _, h => by omega
  | k, i, fu + 1, hi, hk => by
    have hJ := ok.J
    have hw : K.1 5 ≤ 2 := ok.2.2.2.2.2.1
    have h1 : seatsS (K.1 0) (A.1 0) ≤ K.1 0 := seats_le
    have h2 : votesS (K.1 0) (A.1 0) A.2.1 ≤ seatsS (K.1 0) (A.1 0) := votes_le
    have hgf : gN K A + fN K A = seatsS (K.1 0) (A.1 0) := by unfold gN fN; omega
    have e89 : (A.1 0).testBit i = true → ∀ kk : Int32 → Option Int32, (if 0 < A.2.1 i then f_X10_firstOfBest_89 kk (nI (n + 1)) 0 (nI (K.1 5)) (nI (gN K A)) (nI (fN K A)) b (nI i) (1 : Int32) M else f_X10_firstOfBest_89 kk (nI (n + 1)) 0 (nI (K.1 5)) (nI (gN K A)) (nI (fN K A)) b (nI i) (0 : Int32) M) = if valJ K A n 1 i = b then some (nI i) else kk (nI (i + 1)) := by
      intro hbi kk
      have en : nI (n + 1) - (1 : Int32) = nI n := sub_nI (a := n + 1) (b := 1) (by omega)
      by_cases z : 0 < A.2.1 i
      · have hg : 0 < gN K A := by
          unfold gN votesS
          exact cntR_some (j := i) (by omega) (by omega) (by simp [hbi, z])
        rw [if_pos z]
        unfold f_X10_firstOfBest_89 valJ
        rw [if_pos z, Int32.mul_one, en, show nI (gN K A) - (1 : Int32) = nI (gN K A - 1) from sub_nI (a := gN K A) (b := 1) (by omega), Int32.sub_add_cancel, bestPlay_sp (by omega) n 40 _ _ (by omega) (by omega) (by omega) (by omega) (by omega), Option.bind_some, show nI i + (1 : Int32) = nI (i + 1) from add_nI i 1]
      · have hg : 0 < fN K A := by
          rw [fN_cnt]
          exact cntR_some (j := i) (by omega) (by omega) (by simp [hbi, z])
        rw [if_neg z]
        unfold f_X10_firstOfBest_89 valJ
        rw [if_neg z, Int32.mul_one, en, show nI (fN K A) - (1 : Int32) = nI (fN K A - 1) from sub_nI (a := fN K A) (b := 1) (by omega), Int32.add_zero, Int32.sub_zero, bestPlay_sp (by omega) n 40 _ _ (by omega) (by omega) (by omega) (by omega) (by omega), Option.bind_some, show nI i + (1 : Int32) = nI (i + 1) from add_nI i 1]
    rw [f_X10_firstOfBest_48, show M.1 9 0 0 = nI (K.1 0) from rc.1 0 (by decide), if_pos (by rw [lt_nI (by omega) (by omega)]; omega), X3_isSeated_sp (r.1 0 (by decide)) o.S (by omega), Option.bind_some]
    by_cases c : i = j
    · subst c
      rw [hb, ifb_t, inb_nI_t (show i < 10 by omega) (by decide), if_pos rfl, nI_clamp (by omega), r.2.1 i (by omega)]
      refine (e89 hb _).trans ?_
      rw [if_pos hv]
    · obtain ⟨k', rfl⟩ : ∃ k', k = k' + 1 := ⟨k - 1, by omega⟩
      have ih := fb_loop ok rc r o h8 hn hj hb hv hf k' (i + 1) fu (by omega) (by omega)
      cases hbi : (A.1 0).testBit i with
      | false =>
        rw [ifb_f, show nI i + (1 : Int32) = nI (i + 1) from add_nI i 1]
        exact ih
      | true =>
        rw [ifb_t, inb_nI_t (show i < 10 by omega) (by decide), if_pos rfl, nI_clamp (by omega), r.2.1 i (by omega)]
        refine (e89 hbi _).trans ?_
        rw [if_neg (hf i (by omega) hbi)]
        exact ih
theorem step_firstStrike {s : Sy} (o : OKS s) (x : Int32) : Step s (f_X10_firstStrike x) (f_X11_firstStrike x) := by
  have h1 : seatsS ((sWo s).1.1 0) ((sWo s).2.1.1 0) ≤ (sWo s).1.1 0 := seats_le
  have h2 : votesS ((sWo s).1.1 0) ((sWo s).2.1.1 0) (sWo s).2.1.2.1 ≤ seatsS ((sWo s).1.1 0) ((sWo s).2.1.1 0) := votes_le
  have h3 : (sWo s).1.1 0 ≤ 10 := o.C.J
  have hw : (sWo s).1.1 5 ≤ 2 := o.C.2.2.2.2.2.1
  obtain ⟨e, ex, em, he, ha⟩ := strk_both o x
  rcases he with he | he
  · obtain ⟨m, m1, m2, rfl, hm⟩ := ha he
    subst he
    obtain ⟨n, hn⟩ : ∃ n, 2 * m = n + 1 := ⟨2 * m - 1, by omega⟩
    have e2 : (2 : Int32) * nI m = nI (n + 1) := by rw [← hn]; exact mul_nI 2 m
    obtain ⟨q1, j, q2, q3, q4, -, q6⟩ := play_best (K := (sWo s).1) (A := (sWo s).2.1) (n := n) (c := 1) (x3 := 1) (t := 0) (by omega) (Or.inl ⟨by omega, rfl⟩)
    rw [Int32.mul_one] at q1
    rw [q1] at q4 q6
    refine step_of (nI j) (setSc s 0 0) o (fun M h => ⟨stM M 0, ?_, h.st o 0 XQ.rf⟩) (fun M h => ?_)
    · unfold f_X10_firstStrike f_X10_firstOfBest
      have e4 : f_X10_bestPlay 40 (nI ((sWo s).1.1 5)) (nI (gN (sWo s).1 (sWo s).2.1)) (nI (fN (sWo s).1 (sWo s).2.1)) (nI (n + 1)) = some (playS ((sWo s).1.1 5) (n + 1) (gN (sWo s).1 (sWo s).2.1) (fN (sWo s).1 (sWo s).2.1)) := bestPlay_sp (by omega) (n + 1) 40 _ _ (by omega) (by omega) (by unfold gN; omega) (by unfold fN; omega) (by unfold gN fN; omega)
      rw [ex M h, Option.bind_some, if_pos rfl, X3_guiltyVotes_sp h.H o.H, Option.bind_some, X3_seatedCount_sp h.H o.H, Option.bind_some, sub_nI h2, show M.1 8 0 12 = nI ((sWo s).1.1 5) from h.C.2.2.1, e2]
      show ((f_X10_bestPlay 40 (nI ((sWo s).1.1 5)) (nI (gN (sWo s).1 (sWo s).2.1)) (nI (fN (sWo s).1 (sWo s).2.1)) (nI (n + 1))).bind fun r3 => f_X10_firstOfBest_48 (nI (n + 1)) 0 (nI ((sWo s).1.1 5)) (nI (gN (sWo s).1 (sWo s).2.1)) (nI (fN (sWo s).1 (sWo s).2.1)) r3 M FU (nI 0)).bind _ = _
      rw [e4, Option.bind_some, fb_loop o.C h.C h.H o.H (by omega) (by omega) q2 q3 q4 q6 j 0 FU (by omega) (lt_FU (by omega))]
      rfl
    · have r := h.r o
      obtain ⟨M', j2, p1, p2, p3, p4, p5, p6, p7, p8⟩ := plays_first (K := (sWo s).1) (A := (sWo s).2.1) (M := mR M) (n := n) o.C (by omega) (by omega) r.C r.H o.H (by omega)
      have ej : j2 = j := by
        rcases Nat.lt_trichotomy j2 j with c | c | c
        · exact absurd p7 (q6 j2 c p6)
        · exact c
        · exact absurd q4 (p8 j c q3)
      subst ej
      refine ⟨M', ?_, h.pf o p3 p2⟩
      unfold f_X11_firstStrike
      simp only
      rw [show f_X11_whyNoStrikes (nI m) (sR M 50 0 (upd (M.1 50 0) 1 (0 : Int32))) = some 0 from em _ (h.th o).1, Option.bind_some]
      show (if 0 < (mR M).1 50 0 0 then _ else (f_X11_plays 40 ((2 : Int32) * nI m) (-1 : Int32) (1 : Int32) (mR M)).bind _) = _
      rw [if_neg (by rw [mR_0]; decide), e2, p1, Option.bind_some, p4]
  · refine step_of (-1) (setSc s 0 e) o (fun M h => ⟨stM M e, ?_, h.st o e XQ.rf⟩) (fun M h => ⟨smM (thM M) e, ?_, h.ths o e⟩)
    · unfold f_X10_firstStrike
      rw [ex M h, Option.bind_some, if_neg (by intro z; subst z; exact absurd he (by decide))]
      rfl
    · unfold f_X11_firstStrike
      simp only
      rw [show f_X11_whyNoStrikes x (sR M 50 0 (upd (M.1 50 0) 1 (0 : Int32))) = some e from em _ (h.th o).1, Option.bind_some]
      show (if 0 < (smM (thM M) e).1 50 0 0 then _ else _) = _
      rw [if_pos (by rw [smM_at]; exact he)]
      rfl
