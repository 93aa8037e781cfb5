/-! ===== talk, in the reference ===== -/
theorem nI_z {a : Nat} (ha : a < 2 ^ 31) : (nI a = (0 : Int32)) = (a = 0) := eq_nI ha (by decide)
theorem nI_pz {a : Nat} (ha : a < 2 ^ 31) : ((0 : Int32) < nI a) = (0 < a) := lt_nI (by decide) ha
def RepMC (c : Nat → Int32) (K : Co) : Prop := (∀ j, j < 4 → c j = nI (K.1 j)) ∧ c 4 = nI (K.1 4) ∧ c 5 = nI (K.1 5) ∧
  (∀ j, j < K.1 0 → c (12 + j) = K.2 0 j ∧ c (22 + j) = K.2 1 j ∧ c (32 + j) = K.2 2 j) ∧ (∀ a b, a < K.1 0 → b < K.1 0 → c (52 + 10 * a + b) = K.2 3 (10 * a + b)) ∧
  (∀ p, p < K.1 1 → c (152 + p) = K.2 4 p) ∧ (∀ w, w < K.1 2 → c (158 + w) = nI (K.1 (100 + w)) ∧ c (164 + w) = nI (K.1 (200 + w))) ∧ (∀ q w, q < K.1 3 → w < K.1 2 → c (170 + 6 * q + w) = K.2 5 (6 * q + w))
def RepMH (c : Nat → Int32) (K : Co) (A : Ha) : Prop := c 10 = nI (A.1 0) ∧ c 11 = nI (A.1 1) ∧ c 7 = nI (A.1 2) ∧ c 6 = nI (A.1 3) ∧ c 8 = (if K.1 2 = 0 then -1 else nI (A.1 4)) ∧ c 9 = nI (A.1 5) ∧ (∀ j, j < K.1 0 → c (42 + j) = A.2.1 j) ∧ ∀ q, q < K.1 3 → c (194 + q) = A.2.2 q
def hallIx (j : Nat) : Prop := (6 ≤ j ∧ j ≤ 11) ∨ (42 ≤ j ∧ j < 52) ∨ (194 ≤ j ∧ j < 198)
def MFr (M M' : Mem) : Prop := M'.2 = M.2 ∧ (∀ c i, ¬ (c = 55 ∧ i = 0) → M'.1 c i = M.1 c i) ∧ ∀ j, ¬ hallIx j → M'.1 55 0 j = M.1 55 0 j
theorem MFr.rf {M : Mem} : MFr M M := ⟨rfl, fun _ _ _ => rfl, fun _ _ => rfl⟩
theorem MFr.tr {M M1 M2 : Mem} (a : MFr M M1) (b : MFr M1 M2) : MFr M M2 := ⟨b.1.trans a.1, fun c i hc => (b.2.1 c i hc).trans (a.2.1 c i hc), fun j hj => (b.2.2 j hj).trans (a.2.2 j hj)⟩
/-- one place of the row c -/
def putM (M : Mem) (j : Nat) (v : Int32) : Mem := sR M 55 0 (upd (M.1 55 0) j v)
theorem putM_at (M : Mem) (j : Nat) (v : Int32) : (putM M j v).1 55 0 = upd (M.1 55 0) j v := sR_at _ _ _ _
theorem putM_F {M : Mem} {j : Nat} {v : Int32} (hj : hallIx j) : MFr M (putM M j v) := by
  refine ⟨rfl, fun c i hc => sR_ne _ _ _ _ hc, fun i hi => ?_⟩
  rw [putM_at, upd_ne _ _ (fun z => hi (by rw [z]; exact hj))]
theorem RepMC.fr {c c' : Nat → Int32} {K : Co} (ok : OKC K) (h : ∀ j, ¬ hallIx j → c' j = c j) (r : RepMC c K) : RepMC c' K := by
  obtain ⟨k0, k1, k2, k3, -⟩ := ok
  have e : ∀ j, ¬ ((6 ≤ j ∧ j ≤ 11) ∨ (42 ≤ j ∧ j < 52) ∨ (194 ≤ j ∧ j < 198)) → c' j = c j := h
  obtain ⟨r1, r2, r3, r4, r5, r6, r7, r8⟩ := r
  refine ⟨fun j hj => ?_, ?_, ?_, fun j hj => ⟨?_, ?_, ?_⟩, fun a b ha hb => ?_, fun p hp => ?_, fun w hw => ⟨?_, ?_⟩, fun q w hq hw => ?_⟩
  · rw [e j (by omega)]; exact r1 j hj
  · rw [e 4 (by omega)]; exact r2
  · rw [e 5 (by omega)]; exact r3
  · rw [e _ (by omega)]; exact (r4 j hj).1
  · rw [e _ (by omega)]; exact (r4 j hj).2.1
  · rw [e _ (by omega)]; exact (r4 j hj).2.2
  · rw [e _ (by omega)]; exact r5 a b ha hb
  · rw [e _ (by omega)]; exact r6 p hp
  · rw [e _ (by omega)]; exact (r7 w hw).1
  · rw [e _ (by omega)]; exact (r7 w hw).2
  · rw [e _ (by omega)]; exact r8 q w hq hw
theorem putM_L {M : Mem} {i : Nat} {v : Int32} {K : Co} {A : Ha} (k0 : K.1 0 ≤ 10) (hi : i < K.1 0) (r : RepMH (M.1 55 0) K A) : RepMH ((putM M (42 + i) v).1 55 0) K (A.1, upd A.2.1 i v, A.2.2) := by
  obtain ⟨r1, r2, r3, r4, r5, r6, r7, r8⟩ := r
  rw [putM_at]
  refine ⟨?_, ?_, ?_, ?_, ?_, ?_, fun j hj => ?_, fun q hq => ?_⟩
  · rw [upd_ne _ _ (by omega)]; exact r1
  · rw [upd_ne _ _ (by omega)]; exact r2
  · rw [upd_ne _ _ (by omega)]; exact r3
  · rw [upd_ne _ _ (by omega)]; exact r4
  · rw [upd_ne _ _ (by omega)]; exact r5
  · rw [upd_ne _ _ (by omega)]; exact r6
  · by_cases e : j = i
    · subst e
      rw [upd_at]
      exact (upd_at A.2.1 j v).symm
    · rw [upd_ne _ _ (by omega)]
      exact (r7 j hj).trans (upd_ne A.2.1 v e).symm
  · rw [upd_ne _ _ (by omega)]; exact r8 q hq
theorem cut_eq (x : Int32) : f_X11_cut_ x = some (cutS x) := by
  unfold f_X11_cut_ jmax jmin cutS
  by_cases h : 99 < x
  · rw [if_pos h, if_neg (Int32.not_lt.mpr (Int32.le_of_lt h)), if_pos (by decide)]
  · rw [if_neg h]
    by_cases e : x = 99
    · subst e; decide
    · have h2 : x < 99 := Int32.lt_of_le_of_ne (Int32.not_lt.mp h) e
      rw [if_pos h2]
      by_cases h3 : x < -99
      · rw [if_pos h3, if_neg (Int32.not_lt.mpr (Int32.le_of_lt h3))]
      · rw [if_neg h3]
        by_cases e2 : x = -99
        · subst e2; decide
        · rw [if_pos (Int32.lt_of_le_of_ne (Int32.not_lt.mp h3) (fun z => e2 z.symm))]
theorem has_at {S i : Nat} (h : S < 1024) (hi : i < 11) : f_X11_has (nI S) (nI i) = some (if S.testBit i then 1 else 0) := by
  unfold f_X11_has
  rw [bit_at S h i hi]
  cases S.testBit i <;> rfl
theorem X11_isSeated_sp {M : Mem} {S i : Nat} (hS : M.1 55 0 10 = nI S) (h1 : S < 1024) (hi : i < 11) : f_X11_isSeated (nI i) M = some (if S.testBit i then 1 else 0) := by
  unfold f_X11_isSeated
  rw [hS, has_at h1 hi, Option.bind_some]
  cases S.testBit i <;> rfl
theorem vf_loop {M : Mem} {S J : Nat} {l : Nat → Int32} {sd : Int32} (hJ : J ≤ 10) (hJ0 : M.1 55 0 0 = nI J) (hS : M.1 55 0 10 = nI S) (h1 : S < 1024) (hl : ∀ j, j < J → M.1 55 0 (42 + j) = l j) : ∀ (k i n acc : Nat), i + k = J → k < n → acc ≤ i →
    f_X11_votesFor_4 sd M n (nI acc) (nI i) = some (nI (acc + cntR (fun i => S.testBit i && (decide (0 < l i) == decide (0 < sd))) i k))
  | k, i, 0, acc, _, hn, _ => by omega
  | 0, i, n + 1, acc, hi, _, _ => by
    have e : i = J := by omega
    subst e
    rw [f_X11_votesFor_4, hJ0, if_neg (by rw [lt_nI (by omega) (by omega)]; omega)]
    rfl
  | k + 1, i, n + 1, acc, hi, hn, ha => by
    have ih := vf_loop (sd := sd) hJ hJ0 hS h1 hl k (i + 1) n
    rw [f_X11_votesFor_4, hJ0, if_pos (by rw [lt_nI (by omega) (by omega)]; omega), X11_isSeated_sp hS h1 (by omega), Option.bind_some]
    rw [show nI i + (1 : Int32) = nI (i + 1) from add_nI i 1]
    have e : cntR (fun i => S.testBit i && (decide (0 < l i) == decide (0 < sd))) i (k + 1) = (if (S.testBit i && (decide (0 < l i) == decide (0 < sd))) = true then 1 else 0) + cntR (fun i => S.testBit i && (decide (0 < l i) == decide (0 < sd))) (i + 1) k := rfl
    rw [e]
    have z0 : nI acc + (0 : Int32) = nI acc := Int32.add_zero _
    have z1 : nI acc + (1 : Int32) = nI (acc + 1) := add_nI acc 1
    cases hb : S.testBit i with
    | false =>
      rw [ifb_f, z0, ih acc (by omega) (by omega) (by omega)]
      simp
    | true =>
      rw [ifb_t, show (42 : Int32) + nI i = nI (42 + i) from add_nI 42 i, inb_nI_t (by omega) (by decide), nI_clamp (by omega), hl i (by omega), if_pos rfl]
      unfold f_X11_votesFor_40
      rw [z0, z1, show nI i + (1 : Int32) = nI (i + 1) from add_nI i 1]
      by_cases c3 : 0 < l i
      · rw [if_pos c3]
        by_cases c4 : 0 < sd
        · rw [if_pos c4, if_pos rfl]; dsimp only; rw [ih (acc + 1) (by omega) (by omega) (by omega)]
          simp [c3, c4, Nat.add_assoc]
        · rw [if_neg c4, if_neg (by decide)]; dsimp only; rw [ih acc (by omega) (by omega) (by omega)]
          simp [c3, c4]
      · rw [if_neg c3]
        by_cases c4 : 0 < sd
        · rw [if_pos c4, if_neg (by decide)]; dsimp only; rw [ih acc (by omega) (by omega) (by omega)]
          simp [c3, c4]
        · rw [if_neg c4, if_pos rfl]; dsimp only; rw [ih (acc + 1) (by omega) (by omega) (by omega)]
          simp [c3, c4, Nat.add_assoc]
theorem OKC.J {K : Co} (o : OKC K) : K.1 0 ≤ 10 := o.1
theorem X11_votesFor_1 {M : Mem} {K : Co} {A : Ha} (rc : RepMC (M.1 55 0) K) (r : RepMH (M.1 55 0) K A) (o : OKH (K.1 0) A) : f_X11_votesFor 1 M = some (nI (votesS (K.1 0) (A.1 0) A.2.1)) := by
  unfold f_X11_votesFor
  have := vf_loop (M := M) (S := A.1 0) (l := A.2.1) (sd := 1) o.1 (rc.1 0 (by decide)) r.1 o.S r.2.2.2.2.2.2.1 (K.1 0) 0 FU 0 (by omega) (lt_FU (by have := o.1; omega)) (Nat.le_refl _)
  rw [show (0 : Int32) = nI 0 from rfl, this, Nat.zero_add]
  unfold votesS
  congr 2
  apply cntR_congr
  intro j _ _
  have : decide ((0 : Int32) < 1) = true := by decide
  rw [this]
  cases (A.1 0).testBit j <;> cases decide (0 < A.2.1 j) <;> rfl
theorem X11_votesFor_m {M : Mem} {K : Co} {A : Ha} (rc : RepMC (M.1 55 0) K) (r : RepMH (M.1 55 0) K A) (o : OKH (K.1 0) A) : f_X11_votesFor (-1) M = some (nI (seatsS (K.1 0) (A.1 0) - votesS (K.1 0) (A.1 0) A.2.1)) := by
  unfold f_X11_votesFor
  have := vf_loop (M := M) (S := A.1 0) (l := A.2.1) (sd := -1) o.1 (rc.1 0 (by decide)) r.1 o.S r.2.2.2.2.2.2.1 (K.1 0) 0 FU 0 (by omega) (lt_FU (by have := o.1; omega)) (Nat.le_refl _)
  rw [show (0 : Int32) = nI 0 from rfl, this, Nat.zero_add]
  have hs := cntR_split (p := fun i => (A.1 0).testBit i) (q := fun i => decide (0 < A.2.1 i)) (K.1 0) 0
  have e : cntR (fun i => (A.1 0).testBit i && (decide (0 < A.2.1 i) == decide ((0 : Int32) < -1))) 0 (K.1 0) = cntR (fun j => (A.1 0).testBit j && !decide (0 < A.2.1 j)) 0 (K.1 0) := by
    apply cntR_congr
    intro j _ _
    have : decide ((0 : Int32) < -1) = false := by decide
    rw [this]
    cases (A.1 0).testBit j <;> cases decide (0 < A.2.1 j) <;> rfl
  rw [e]
  congr 2
  unfold votesS seatsS
  omega
theorem X11_judged_sp {M : Mem} {K : Co} {A : Ha} (ok : OKC K) (rc : RepMC (M.1 55 0) K) (r : RepMH (M.1 55 0) K A) (o : OKH (K.1 0) A) : f_X11_judged M = some (verdS K A) := by
  have e1 := X11_votesFor_1 rc r o
  have e2 := X11_votesFor_m rc r o
  have h1 : seatsS (K.1 0) (A.1 0) ≤ K.1 0 := seats_le
  have h2 : votesS (K.1 0) (A.1 0) A.2.1 ≤ seatsS (K.1 0) (A.1 0) := votes_le
  have h3 : K.1 0 ≤ 10 := o.1
  have h4 : K.1 5 ≤ 2 := ok.2.2.2.2.2.1
  unfold f_X11_judged verdS
  generalize votesS (K.1 0) (A.1 0) A.2.1 = g at *
  generalize seatsS (K.1 0) (A.1 0) = f at *
  have e3 := judge_at (K.1 5) (by omega) g (by omega) (f - g) (by omega)
  rw [e1, Option.bind_some, e2, Option.bind_some, show M.1 55 0 5 = nI (K.1 5) from rc.2.2.1, e3, Option.bind_some]
theorem pm_loop {M : Mem} {S J j : Nat} {l w : Nat → Int32} {sb : Int32} (hJ : J ≤ 10) (hj : j < J) (hJ0 : M.1 55 0 0 = nI J) (hS : M.1 55 0 10 = nI S) (h1 : S < 1024) (hl : ∀ i, i < J → M.1 55 0 (42 + i) = l i) (hw : ∀ i, i < J → M.1 55 0 (52 + 10 * i + j) = w i) (hwj : w j = 0) (hsb : M.1 55 0 (22 + j) = sb) :
    ∀ (k i n : Nat) (acc : Int32), i + k = J → k < n → f_X11_pulled_4 (nI j) M n acc (nI i) =
      some (if sb < jabs (accR (fun i => if S.testBit i then (if 0 < l i then w i else if l i < 0 then -(w i) else 0) else 0) k i acc) then cutS (l j + accR (fun i => if S.testBit i then (if 0 < l i then w i else if l i < 0 then -(w i) else 0) else 0) k i acc) else l j)
  | k, i, 0, acc, _, hn => by omega
  | 0, i, n + 1, acc, hi, _ => by
    have e : i = J := by omega
    subst e
    rw [f_X11_pulled_4, hJ0, if_neg (by rw [lt_nI (by omega) (by omega)]; omega)]
    rw [show (22 : Int32) + nI j = nI (22 + j) from add_nI 22 j, show (42 : Int32) + nI j = nI (42 + j) from add_nI 42 j, inb_nI_t (show 22 + j < 2375 by omega) (by decide), inb_nI_t (show 42 + j < 2375 by omega) (by decide), nI_clamp (by omega), nI_clamp (by omega), hsb, hl j hj, if_pos rfl]
    show (if sb < jabs acc then (if true = true then (f_X11_cut_ (l j + acc)).bind fun r4 => some r4 else none) else (if true = true then some (l j) else none)) = some (if sb < jabs acc then cutS (l j + acc) else l j)
    by_cases c : sb < jabs acc
    · rw [if_pos c, if_pos c, if_pos rfl, cut_eq, Option.bind_some]
    · rw [if_neg c, if_neg c, if_pos rfl]
  | k + 1, i, n + 1, acc, hi, hn => by
    have ih := pm_loop hJ hj hJ0 hS h1 hl hw hwj hsb k (i + 1) n
    rw [f_X11_pulled_4, hJ0, if_pos (by rw [lt_nI (by omega) (by omega)]; omega)]
    rw [show nI i + (1 : Int32) = nI (i + 1) from add_nI i 1]
    have e : ∀ acc, accR (fun i => if S.testBit i then (if 0 < l i then w i else if l i < 0 then -(w i) else 0) else 0) (k + 1) i acc = accR (fun i => if S.testBit i then (if 0 < l i then w i else if l i < 0 then -(w i) else 0) else 0) k (i + 1) (acc + (if S.testBit i then (if 0 < l i then w i else if l i < 0 then -(w i) else 0) else 0)) := fun _ => rfl
    rw [e]
    by_cases cj : i = j
    · have z : (if S.testBit i then (if 0 < l i then w i else if l i < 0 then -(w i) else 0) else 0) = 0 := by
        rw [cj, hwj]
        simp
      rw [if_pos (by rw [cj]), ih acc (by omega) (by omega), z, Int32.add_zero]
    · rw [if_neg (by rw [eq_nI (by omega) (by omega)]; exact cj), X11_isSeated_sp hS h1 (by omega), Option.bind_some]
      obtain ⟨v, hv⟩ : ∃ v, v = (if S.testBit i then (if 0 < l i then w i else if l i < 0 then -(w i) else 0) else 0) := ⟨_, rfl⟩
      rw [← hv]
      cases hb : S.testBit i with
      | false =>
        have hv0 : v = 0 := by rw [hv, hb]; rfl
        rw [ifb_f, ih acc (by omega) (by omega), hv0, Int32.add_zero]
      | true =>
        have hv1 : v = (if 0 < l i then w i else if l i < 0 then -(w i) else 0) := by rw [hv, hb]; rfl
        have ex : (52 : Int32) + (10 : Int32) * nI i + nI j = nI (52 + 10 * i + j) := by
          rw [show (10 : Int32) = nI 10 from rfl, mul_nI, show (52 : Int32) = nI 52 from rfl, add_nI, add_nI]
        rw [ifb_t, ex, show (42 : Int32) + nI i = nI (42 + i) from add_nI 42 i, inb_nI_t (show 42 + i < 2375 by omega) (by decide), inb_nI_t (show 52 + 10 * i + j < 2375 by omega) (by decide), nI_clamp (by omega), nI_clamp (by omega), hl i (by omega), hw i (by omega)]
        simp only [if_true]
        by_cases c0 : l i = 0
        · have hv2 : v = 0 := by rw [hv1, c0]; rfl
          rw [if_pos c0, hv2, Int32.add_zero, ih _ (by omega) (by omega)]
        · rw [if_neg c0]
          by_cases c3 : 0 < l i
          · rw [if_pos c3, ih _ (by omega) (by omega), hv1, if_pos c3]
          · have c4 : l i < 0 := Int32.lt_of_le_of_ne (Int32.not_lt.mp c3) c0
            rw [if_neg c3, ih _ (by omega) (by omega), hv1, if_neg c3, if_pos c4]
theorem X11_pulled_sp {M : Mem} {j : Nat} {A : Ha} {K : Co} (ok : OKC K) (rc : RepMC (M.1 55 0) K) (r : RepMH (M.1 55 0) K A) (o : OKH (K.1 0) A) (hj : j < K.1 0) : f_X11_pulled (nI j) M = some (cutS (A.2.1 j + pullS K (A.1 0) A.2.1 j)) := by
  have hJ := o.1
  unfold f_X11_pulled
  have e := pm_loop (M := M) (S := A.1 0) (j := j) (l := A.2.1) (w := fun i => K.2 3 (10 * i + j)) (sb := K.2 1 j) hJ hj (rc.1 0 (by decide)) r.1 o.S r.2.2.2.2.2.2.1 (fun i hi => rc.2.2.2.2.1 i j hi hj) (ok.2.2.2.2.2.2.2.2.2.1 j hj) ((rc.2.2.2.1 j hj).2.1) (K.1 0) 0 FU 0 (by omega) (lt_FU (by omega))
  rw [show nI 0 = (0 : Int32) from rfl] at e
  rw [e]
  show some (if K.2 1 j < jabs (accR (swayS K (A.1 0) A.2.1 j) (K.1 0) 0 0) then cutS (A.2.1 j + accR (swayS K (A.1 0) A.2.1 j) (K.1 0) 0 0) else A.2.1 j) = some (cutS (A.2.1 j + pullS K (A.1 0) A.2.1 j))
  unfold pullS
  by_cases c : K.2 1 j < jabs (accR (swayS K (A.1 0) A.2.1 j) (K.1 0) 0 0)
  · rw [if_pos c, if_pos c]
  · rw [if_neg c, if_neg c, Int32.add_zero, cutS_id (o.2.2.2 j (by omega))]
theorem mh_loop {K : Co} {x3 : Int32} {S : Nat} (ok : OKC K) : ∀ (k i n : Nat) (M : Mem) (A : Ha), i + k = K.1 0 → k < n → RepMC (M.1 55 0) K → RepMH (M.1 55 0) K A → A.1 0 = S → S < 1024 →
    ∃ M', f_X11_talks_114 x3 n (nI i) M = some M' ∧ RepMH (M'.1 55 0) K (A.1, foldJ (fun l' i => if S.testBit i then upd l' i (cutS (l' i + x3)) else l') k i A.2.1, A.2.2) ∧ MFr M M'
  | k, i, 0, M, A, _, hn, _, _, _, _ => by omega
  | 0, i, n + 1, M, A, hi, _, rc, r, hA, hS => by
    have hJ := ok.J
    have e : i = K.1 0 := by omega
    subst e
    refine ⟨M, ?_, r, MFr.rf⟩
    rw [f_X11_talks_114, rc.1 0 (by decide), if_neg (by rw [lt_nI (by omega) (by omega)]; omega)]
  | k + 1, i, n + 1, M, A, hi, hn, rc, r, hA, hS => by
    have hJ := ok.J
    have ih := mh_loop (x3 := x3) (S := S) ok k (i + 1) n
    rw [f_X11_talks_114, rc.1 0 (by decide), if_pos (by rw [lt_nI (by omega) (by omega)]; omega)]
    rw [X11_isSeated_sp (S := S) (by rw [← hA]; exact r.1) hS (by omega), Option.bind_some]
    rw [show nI i + (1 : Int32) = nI (i + 1) from add_nI i 1]
    have e : ∀ l, foldJ (fun l' i => if S.testBit i then upd l' i (cutS (l' i + x3)) else l') (k + 1) i l = foldJ (fun l' i => if S.testBit i then upd l' i (cutS (l' i + x3)) else l') k (i + 1) (if S.testBit i then upd l i (cutS (l i + x3)) else l) := fun _ => rfl
    rw [e]
    cases hb : S.testBit i with
    | false =>
      rw [ifb_f]
      exact ih M A (by omega) (by omega) rc r hA hS
    | true =>
      rw [ifb_t, show (42 : Int32) + nI i = nI (42 + i) from add_nI 42 i, inb_nI_t (show 42 + i < 2375 by omega) (by decide), nI_clamp (by omega), if_pos rfl, r.2.2.2.2.2.2.1 i (by omega), cut_eq, Option.bind_some, if_pos rfl]
      have f1 : MFr M (putM M (42 + i) (cutS (A.2.1 i + x3))) := putM_F (by unfold hallIx; omega)
      obtain ⟨M', g1, g2, g3⟩ := ih (putM M (42 + i) (cutS (A.2.1 i + x3))) (A.1, upd A.2.1 i (cutS (A.2.1 i + x3)), A.2.2) (by omega) (by omega) (rc.fr ok f1.2.2) (putM_L hJ (by omega) r) hA hS
      exact ⟨M', g1, g2, f1.tr g3⟩
/-- where the reference keeps a hall's number -/
def posM (j : Nat) : Nat := if j = 0 then 10 else if j = 1 then 11 else if j = 2 then 7 else if j = 3 then 6 else 9
theorem putM_N {M : Mem} {j v : Nat} {K : Co} {A : Ha} (hj : j = 0 ∨ j = 1 ∨ j = 2 ∨ j = 3 ∨ j = 5) (r : RepMH (M.1 55 0) K A) : RepMH ((putM M (posM j) (nI v)).1 55 0) K (updN A.1 j v, A.2) := by
  obtain ⟨r1, r2, r3, r4, r5, r6, r7, r8⟩ := r
  rw [putM_at]
  have key : ∀ i, i < 6 → i ≠ 4 → ∀ z : Int32, (z = nI (A.1 i)) → (if posM i = posM j then nI v else z) = nI (updN A.1 j v i) := by
    intro i hi h4 z hz
    by_cases e : i = j
    · rw [e, if_pos rfl, updN_at]
    · rw [updN_ne _ _ e, hz, if_neg]
      unfold posM
      rcases hj with rfl | rfl | rfl | rfl | rfl <;> (repeat' split) <;> omega
  have hp : 6 ≤ posM j ∧ posM j ≤ 11 ∧ posM j ≠ 8 := by
    unfold posM
    rcases hj with rfl | rfl | rfl | rfl | rfl <;> simp
  refine ⟨?_, ?_, ?_, ?_, ?_, ?_, fun i hi => ?_, fun q hq => ?_⟩
  · exact key 0 (by decide) (by decide) _ r1
  · exact key 1 (by decide) (by decide) _ r2
  · exact key 2 (by decide) (by decide) _ r3
  · exact key 3 (by decide) (by decide) _ r4
  · rw [upd_ne _ _ (by omega), r5]
    show _ = if K.1 2 = 0 then -1 else nI (updN A.1 j v 4)
    rw [updN_ne _ _ (by omega)]
  · exact key 5 (by decide) (by decide) _ r6
  · rw [upd_ne _ _ (by omega)]; exact r7 i hi
  · rw [upd_ne _ _ (by omega)]; exact r8 q hq
theorem mt_loop {K : Co} {x1 : Int32} {S : Nat} (ok : OKC K) : ∀ (k i n : Nat) (M : Mem) (A : Ha), i + k = K.1 0 → k < n → RepMC (M.1 55 0) K → RepMH (M.1 55 0) K A → A.1 0 = S → OKH (K.1 0) A →
    ∃ n' M', f_X11_talks_13 x1 n (nI i) M = f_X11_talks_13 x1 (n' + 1) (nI (K.1 0)) M' ∧ RepMH (M'.1 55 0) K (A.1, foldJ (fun l i => if S.testBit i then upd l i (cutS (l i + pullS K S l i)) else l) k i A.2.1, A.2.2) ∧ MFr M M'
  | k, i, 0, M, A, _, hn, _, _, _, _ => by omega
  | 0, i, n + 1, M, A, hi, _, rc, r, hA, o => by
    have e : i = K.1 0 := by omega
    subst e
    exact ⟨n, M, rfl, r, MFr.rf⟩
  | k + 1, i, n + 1, M, A, hi, hn, rc, r, hA, o => by
    have hJ := ok.J
    have ih := mt_loop (x1 := x1) (S := S) ok k (i + 1) n
    rw [f_X11_talks_13, rc.1 0 (by decide), if_pos (by rw [lt_nI (by omega) (by omega)]; omega)]
    rw [X11_isSeated_sp (S := S) (by rw [← hA]; exact r.1) (by rw [← hA]; exact o.S) (by omega), Option.bind_some]
    rw [show nI i + (1 : Int32) = nI (i + 1) from add_nI i 1]
    have e : ∀ l, foldJ (fun l i => if S.testBit i then upd l i (cutS (l i + pullS K S l i)) else l) (k + 1) i l = foldJ (fun l i => if S.testBit i then upd l i (cutS (l i + pullS K S l i)) else l) k (i + 1) (if S.testBit i then upd l i (cutS (l i + pullS K S l i)) else l) := fun _ => rfl
    rw [e]
    cases hb : S.testBit i with
    | false =>
      rw [ifb_f]
      exact ih M A (by omega) (by omega) rc r hA o
    | true =>
      rw [ifb_t, X11_pulled_sp ok rc r o (by omega), Option.bind_some, show (42 : Int32) + nI i = nI (42 + i) from add_nI 42 i, inb_nI_t (show 42 + i < 2375 by omega) (by decide), nI_clamp (by omega), if_pos rfl, hA]
      have f1 : MFr M (putM M (42 + i) (cutS (A.2.1 i + pullS K S A.2.1 i))) := putM_F (by unfold hallIx; omega)
      obtain ⟨n', M', g1, g2, g3⟩ := ih (putM M (42 + i) (cutS (A.2.1 i + pullS K S A.2.1 i))) (A.1, upd A.2.1 i (cutS (A.2.1 i + pullS K S A.2.1 i)), A.2.2) (by omega) (by omega) (rc.fr ok f1.2.2) (putM_L hJ (by omega) r) hA (o.lean (inL_upd o.toL (cutS_in _)))
      exact ⟨n', M', g1, g2, f1.tr g3⟩
theorem X11_talks_sp {M : Mem} {b : Nat} {A : Ha} {K : Co} (hb : b ≤ 1) (ok : OKC K) (rc : RepMC (M.1 55 0) K) (r : RepMH (M.1 55 0) K A) (o : OKH (K.1 0) A) (hbig : A.1 2 + 1 < 16777216) :
    ∃ M', f_X11_talks (nI b) M = some M' ∧ RepMH (M'.1 55 0) K (roundS K (decide (b = 1) && decide (0 < K.1 4)) A) ∧ MFr M M' := by
  have hJ := ok.J
  have h4 : K.1 4 ≤ 99 := ok.2.2.2.2.1
  unfold f_X11_talks
  rw [r.2.2.1, show nI (A.1 2) + (1 : Int32) = nI (A.1 2 + 1) from add_nI _ 1]
  have q1 := putM_N (j := 2) (v := A.1 2 + 1) (by omega) r
  have f1 : MFr M (putM M (posM 2) (nI (A.1 2 + 1))) := putM_F (by unfold hallIx posM; simp)
  have o1 : OKH (K.1 0) (updN A.1 2 (A.1 2 + 1), A.2) := by
    refine ⟨o.1, o.2.1, fun j hj => ?_, o.2.2.2⟩
    show updN A.1 2 (A.1 2 + 1) j < _
    unfold updN
    by_cases e : j = 2
    · rw [if_pos e]; exact hbig
    · rw [if_neg e]; exact o.2.2.1 j hj
  show ∃ M', f_X11_talks_13 (nI b) FU (0 : Int32) (putM M (posM 2) (nI (A.1 2 + 1))) = some M' ∧ _
  generalize putM M (posM 2) (nI (A.1 2 + 1)) = M1 at *
  have rc1 := rc.fr ok f1.2.2
  obtain ⟨n', M2, g1, g2, g3⟩ := mt_loop (x1 := nI b) (S := A.1 0) ok (K.1 0) 0 FU M1 _ (by omega) (lt_FU (by omega)) rc1 q1 rfl o1
  have rc2 := rc1.fr ok g3.2.2
  have o2 : OKH (K.1 0) (updN A.1 2 (A.1 2 + 1), talkL K (A.1 0) A.2.1, A.2.2) := o1.lean (talkL_in o.toL)
  have g2 : RepMH (M2.1 55 0) K (updN A.1 2 (A.1 2 + 1), talkL K (A.1 0) A.2.1, A.2.2) := g2
  rw [show (0 : Int32) = nI 0 from rfl, g1, f_X11_talks_13, rc2.1 0 (by decide), if_neg (by rw [lt_nI (by omega) (by omega)]; omega)]
  rw [rc2.2.1, g2.2.2.1]
  have hu : (updN A.1 2 (A.1 2 + 1), talkL K (A.1 0) A.2.1, A.2.2).1 2 = A.1 2 + 1 := updN_at A.1 2 (A.1 2 + 1)
  have t0 : ∀ e : Bool, (e && decide (K.1 4 ≤ A.1 2 + 1)) = false → (roundS K e A) = (updN A.1 2 (A.1 2 + 1), talkL K (A.1 0) A.2.1, A.2.2) := by
    intro e he; unfold roundS; rw [he]; rfl
  rw [hu]
  by_cases c1 : b = 0
  · rw [if_pos (by rw [c1]; rfl)]
    refine ⟨M2, rfl, ?_, f1.tr g3⟩
    rw [t0 _ (by simp [c1])]
    exact g2
  · rw [if_neg (by rw [nI_z (by omega)]; exact c1)]
    by_cases c2 : K.1 4 = 0
    · rw [if_pos (by rw [c2]; rfl)]
      refine ⟨M2, rfl, ?_, f1.tr g3⟩
      rw [t0 _ (by simp [c2])]
      exact g2
    · rw [if_neg (by rw [nI_z (by omega)]; exact c2)]
      by_cases c3 : A.1 2 + 1 < K.1 4
      · rw [if_pos (by rw [lt_nI (by omega) (by omega)]; exact c3)]
        refine ⟨M2, rfl, ?_, f1.tr g3⟩
        rw [t0 _ (by simp; omega)]
        exact g2
      · rw [if_neg (by rw [lt_nI (by omega) (by omega)]; exact c3)]
        have hb1 : b = 1 := by omega
        have er : roundS K (decide (b = 1) && decide (0 < K.1 4)) A = (updN A.1 2 (A.1 2 + 1), hungL K (A.1 0) (talkL K (A.1 0) A.2.1), A.2.2) := by
          unfold roundS
          rw [if_pos (by simp; omega)]
        have e1 := X11_votesFor_1 rc2 g2 o2
        have e2 := X11_votesFor_m rc2 g2 o2
        rw [e1, Option.bind_some, e2, Option.bind_some]
        have h1 : seatsS (K.1 0) (A.1 0) ≤ K.1 0 := seats_le
        have h2 : votesS (K.1 0) (A.1 0) (talkL K (A.1 0) A.2.1) ≤ seatsS (K.1 0) (A.1 0) := votes_le
        have fin : ∀ x3, x3 = sideS (K.1 0) (A.1 0) (talkL K (A.1 0) A.2.1) → ∃ M', f_X11_talks_114 x3 FU (nI 0) M2 = some M' ∧ RepMH (M'.1 55 0) K (roundS K (decide (b = 1) && decide (0 < K.1 4)) A) ∧ MFr M M' := by
          intro x3 hx
          obtain ⟨M3, k1, k2, k3⟩ := mh_loop (x3 := x3) (S := A.1 0) ok (K.1 0) 0 FU M2 _ (by omega) (lt_FU (by omega)) rc2 g2 rfl o.S
          refine ⟨M3, k1, ?_, (f1.tr g3).tr k3⟩
          rw [er]
          rw [hx] at k2
          exact k2
        have hs : sideS (K.1 0) (A.1 0) (talkL K (A.1 0) A.2.1) = if 2 * votesS (K.1 0) (A.1 0) (talkL K (A.1 0) A.2.1) < seatsS (K.1 0) (A.1 0) then -1 else if 2 * votesS (K.1 0) (A.1 0) (talkL K (A.1 0) A.2.1) = seatsS (K.1 0) (A.1 0) then 0 else 1 := rfl
        show ∃ M', (if 0 < nI (votesS (K.1 0) (A.1 0) (talkL K (A.1 0) A.2.1)) - nI (seatsS (K.1 0) (A.1 0) - votesS (K.1 0) (A.1 0) (talkL K (A.1 0) A.2.1)) then f_X11_talks_114 1 FU (nI 0) M2 else if nI (votesS (K.1 0) (A.1 0) (talkL K (A.1 0) A.2.1)) - nI (seatsS (K.1 0) (A.1 0) - votesS (K.1 0) (A.1 0) (talkL K (A.1 0) A.2.1)) < 0 then f_X11_talks_114 (-1) FU (nI 0) M2 else f_X11_talks_114 0 FU (nI 0) M2) = some M' ∧ _
        generalize votesS (K.1 0) (A.1 0) (talkL K (A.1 0) A.2.1) = g at *
        generalize seatsS (K.1 0) (A.1 0) = f at *
        have dd : ∀ g, g < 11 → ∀ h, h < 11 → (0 < nI g - nI h ↔ h < g) ∧ (nI g - nI h < 0 ↔ g < h) := by decide +kernel
        have d1 := dd g (by omega) (f - g) (by omega)
        by_cases q1 : 2 * g < f
        · rw [if_neg (fun z => by have := d1.1.mp z; omega), if_pos (d1.2.mpr (by omega))]
          exact fin _ (by rw [hs, if_pos q1])
        · by_cases q2 : 2 * g = f
          · rw [if_neg (fun z => by have := d1.1.mp z; omega), if_neg (fun z => by have := d1.2.mp z; omega)]
            exact fin _ (by rw [hs, if_neg q1, if_pos q2])
          · rw [if_pos (d1.1.mpr (by omega))]
            exact fin _ (by rw [hs, if_neg q1, if_neg q2])
theorem tf_loop {K : Co} {R : Nat} (ok : OKC K) (hR : R < 1000) : ∀ (k i n : Nat) (M : Mem) (A : Ha), i + k = R → k < n → RepMC (M.1 55 0) K → RepMH (M.1 55 0) K A → OKH (K.1 0) A → A.1 2 + k < 16777216 →
    ∃ M', f_X11_talksFor_2 (nI R) n (nI i) M = some M' ∧ RepMH (M'.1 55 0) K (roundsS K (decide (0 < K.1 4)) k A) ∧ MFr M M'
  | k, i, 0, M, A, _, hn, _, _, _, _ => by omega
  | 0, i, n + 1, M, A, hi, _, rc, r, o, _ => by
    have e : i = R := by omega
    subst e
    refine ⟨M, ?_, r, MFr.rf⟩
    rw [f_X11_talksFor_2, if_neg (by rw [lt_nI (by omega) (by omega)]; omega)]
  | k + 1, i, n + 1, M, A, hi, hn, rc, r, o, hbig => by
    obtain ⟨M1, g1, g2, g3⟩ := X11_talks_sp (b := 1) (Nat.le_refl _) ok rc r o (by omega)
    rw [f_X11_talksFor_2, if_pos (by rw [lt_nI (by omega) (by omega)]; omega), show (1 : Int32) = nI 1 from rfl, g1, Option.bind_some, add_nI]
    have e1 : (decide ((1 : Nat) = 1) && decide (0 < K.1 4)) = decide (0 < K.1 4) := by simp
    rw [e1] at g2
    obtain ⟨M', k1, k2, k3⟩ := tf_loop ok hR k (i + 1) n M1 _ (by omega) (by omega) (rc.fr ok g3.2.2) g2 (roundS_ok o (by omega)) (by show updN A.1 2 (A.1 2 + 1) 2 + k < _; rw [updN_at]; omega)
    exact ⟨M', k1, k2, g3.tr k3⟩
theorem X11_talksFor_sp {M : Mem} {R : Nat} {A : Ha} {K : Co} (ok : OKC K) (rc : RepMC (M.1 55 0) K) (r : RepMH (M.1 55 0) K A) (o : OKH (K.1 0) A) (hR : R < 1000) (hbig : A.1 2 + R < 16777216) :
    ∃ M', f_X11_talksFor (nI R) M = some M' ∧ RepMH (M'.1 55 0) K (roundsS K (decide (0 < K.1 4)) R A) ∧ MFr M M' := by
  unfold f_X11_talksFor
  exact tf_loop ok hR R 0 FU M A (by omega) (lt_FU (by omega)) rc r o hbig
