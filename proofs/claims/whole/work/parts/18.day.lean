/-! ===== days, deeds, evidence: the class's side ===== -/
def openS (K : Co) (A : Ha) : Ha := (updN (updN (updN A.1 0 (2 ^ K.1 0 - 1)) 1 0) 2 0, (fun j => if j < K.1 0 then K.2 0 j else A.2.1 j), A.2.2)
def behS (K : Co) (w : Nat) (v : Int32) : Nat := if v = 0 then w else if v = 1 then K.1 (100 + w) else K.1 (200 + w)
def growS (K : Co) (A : Ha) : Nat → Int32 := if K.1 2 = 0 then A.2.2 else fun q => if q < K.1 3 then A.2.2 q + K.2 5 (6 * q + A.1 4) else A.2.2 q
def dayS (K : Co) (A : Ha) : Ha := openS K (updN (updN A.1 4 (if K.1 2 = 0 then A.1 4 else behS K (A.1 4) (verdS K A))) 3 (A.1 3 + 1), A.2.1, growS K A)
theorem X3_copyFrom_sp {M : Mem} {h i : Nat} {A : Ha} (hne : ¬ i = h) (r : RepH M i A) : ∃ M', f_X3_copyFrom h i M = some M' ∧ RepH M' h A ∧ HFr h M M' := by
  unfold f_X3_copyFrom
  refine ⟨_, rfl, ?_, ?_⟩
  · obtain ⟨r1, r2, r3⟩ := r
    have g0 := r1 0 (by decide); have g1 := r1 1 (by decide); have g2 := r1 2 (by decide); have g3 := r1 3 (by decide); have g4 := r1 4 (by decide); have g5 := r1 5 (by decide)
    simp only [Nat.zero_add, Nat.reduceAdd] at g0 g1 g2 g3 g4 g5
    have e : ∀ (M : Mem) (c : Nat) (f : Nat → Int32) (a : Nat), (sR M c h f).1 a i = M.1 a i := fun M c f a => sR_ne _ _ _ _ (fun z => hne z.2)
    refine ⟨fun j hj => ?_, fun j hj => ?_, fun j hj => ?_⟩
    · simp only [sR_at, e, g0, g1, g2, g3, g4, g5]
      match j, hj with
      | 0, _ => rfl
      | 1, _ => rfl
      | 2, _ => rfl
      | 3, _ => rfl
      | 4, _ => rfl
      | 5, _ => rfl
    · rw [sR_ne _ _ _ _ (fun z => absurd z.1 (by decide)), sR_ne _ _ _ _ (fun z => absurd z.1 (by decide)), sR_ne _ _ _ _ (fun z => absurd z.1 (by decide)), sR_ne _ _ _ _ (fun z => absurd z.1 (by decide)), sR_ne _ _ _ _ (fun z => absurd z.1 (by decide)), sR_ne _ _ _ _ (fun z => absurd z.1 (by decide)), sR_ne _ _ _ _ (fun z => absurd z.1 (by decide)), sR_at]
      unfold va_cpy
      rw [if_pos (by omega)]
      simp only [Nat.zero_add, Nat.sub_zero]
      exact r2 j hj
    · rw [sR_ne _ _ _ _ (fun z => absurd z.1 (by decide)), sR_ne _ _ _ _ (fun z => absurd z.1 (by decide)), sR_ne _ _ _ _ (fun z => absurd z.1 (by decide)), sR_ne _ _ _ _ (fun z => absurd z.1 (by decide)), sR_ne _ _ _ _ (fun z => absurd z.1 (by decide)), sR_ne _ _ _ _ (fun z => absurd z.1 (by decide)), sR_at, e]
      unfold va_cpy
      rw [if_pos (by omega)]
      simp only [Nat.zero_add, Nat.sub_zero]
      exact r3 j hj
  · exact ((((((((HFr.set (Or.inr (Or.inl rfl))).tr (HFr.set (Or.inr (Or.inr rfl)))).tr setN_F).tr setN_F).tr setN_F).tr setN_F).tr setN_F).tr setN_F)
theorem od_loop {h k : Nat} {K : Co} (hJ : K.1 0 ≤ 10) : ∀ (kk i n : Nat) (M : Mem) (A : Ha), i + kk = K.1 0 → kk < n → RepC M k K → RepH M h A →
    ∃ M', f_X3_openDay_9 h k (nI (K.1 0)) n (nI i) M = some M' ∧ RepH M' h (updN (updN (updN A.1 0 (2 ^ K.1 0 - 1)) 1 0) 2 0, (fun j => if i ≤ j ∧ j < K.1 0 then K.2 0 j else A.2.1 j), A.2.2) ∧ HFr h M M'
  | kk, i, 0, M, A, _, hn, _, _ => by omega
  | 0, i, n + 1, M, A, hi, _, rc, r => by
    have e : i = K.1 0 := by omega
    subst e
    rw [f_X3_openDay_9, if_neg (by rw [lt_nI (by omega) (by omega)]; omega)]
    rw [shl_1 _ (by omega), show nI (2 ^ K.1 0) - (1 : Int32) = nI (2 ^ K.1 0 - 1) from sub_nI (Nat.two_pow_pos _)]
    refine ⟨_, rfl, ?_, (setN_F.tr setN_F).tr setN_F⟩
    have el : (fun j => if K.1 0 ≤ j ∧ j < K.1 0 then K.2 0 j else A.2.1 j) = A.2.1 := by
      funext j
      rw [if_neg (by omega)]
    rw [el]
    exact setN_H (j := 2) (v := 0) (by decide) (setN_H (j := 1) (v := 0) (by decide) (setN_H (j := 0) (v := 2 ^ K.1 0 - 1) (by decide) r))
  | kk + 1, i, n + 1, M, A, hi, hn, rc, r => by
    rw [f_X3_openDay_9, if_pos (by rw [lt_nI (by omega) (by omega)]; omega), inb_nI_t (show i < 10 by omega) (by decide), if_pos rfl, if_pos rfl, nI_clamp (by omega), show M.1 11 k i = K.2 0 i from (rc.2.2.2.1 i (by omega)).1, show nI i + (1 : Int32) = nI (i + 1) from add_nI i 1]
    obtain ⟨M', g1, g2, g3⟩ := od_loop hJ kk (i + 1) n (putL M h i (K.2 0 i)) _ (by omega) (by omega) (rc.fr putL_F) (putL_H r)
    refine ⟨M', g1, ?_, putL_F.tr g3⟩
    have el : (fun j => if i + 1 ≤ j ∧ j < K.1 0 then K.2 0 j else (A.1, upd A.2.1 i (K.2 0 i), A.2.2).2.1 j) = (fun j => if i ≤ j ∧ j < K.1 0 then K.2 0 j else A.2.1 j) := by
      funext j
      show (if i + 1 ≤ j ∧ j < K.1 0 then K.2 0 j else upd A.2.1 i (K.2 0 i) j) = _
      by_cases e : j = i
      · subst e
        rw [if_neg (by omega), if_pos (by omega), upd_at]
      · rw [upd_ne _ _ e]
        by_cases c : i + 1 ≤ j ∧ j < K.1 0
        · rw [if_pos c, if_pos (by omega)]
        · rw [if_neg c, if_neg (by omega)]
    rw [el] at g2
    exact g2
theorem X3_openDay_sp {M : Mem} {h k : Nat} {A : Ha} {K : Co} (hJ : K.1 0 ≤ 10) (rc : RepC M k K) (r : RepH M h A) : ∃ M', f_X3_openDay h k M = some M' ∧ RepH M' h (openS K A) ∧ HFr h M M' := by
  unfold f_X3_openDay
  rw [show M.1 9 k 0 = nI (K.1 0) from rc.1 0 (by decide)]
  obtain ⟨M', g1, g2, g3⟩ := od_loop (h := h) (k := k) hJ (K.1 0) 0 FU M A (by omega) (lt_FU (by omega)) rc r
  refine ⟨M', g1, ?_, g3⟩
  have el : (fun j => if 0 ≤ j ∧ j < K.1 0 then K.2 0 j else A.2.1 j) = (fun j => if j < K.1 0 then K.2 0 j else A.2.1 j) := by
    funext j
    by_cases c : j < K.1 0
    · rw [if_pos c, if_pos ⟨Nat.zero_le _, c⟩]
    · rw [if_neg c, if_neg (fun z => c z.2)]
  rw [el] at g2
  exact g2
theorem X1_growthOf_sp {M : Mem} {k q w : Nat} {K : Co} (ok : OKC K) (rc : RepC M k K) (hq : q < K.1 3) (hw : w < K.1 2) : f_X1_growthOf k (nI q) (nI w) M = some (K.2 5 (6 * q + w)) := by
  obtain ⟨-, -, k2, k3, -⟩ := ok
  unfold f_X1_growthOf
  have ex : nI q * (6 : Int32) + nI w = nI (6 * q + w) := by rw [show (6 : Int32) = nI 6 from rfl, mul_nI, add_nI, Nat.mul_comm]
  rw [ex, inb_nI_t (by omega) (by decide), if_pos rfl, nI_clamp (by omega)]
  exact congrArg some (rc.2.2.2.2.2.2.2.2 q w hq hw)
theorem X1_weatherBehind_sp {M : Mem} {k w : Nat} {v : Int32} {K : Co} (ok : OKC K) (rc : RepC M k K) (hw : w < K.1 2) : f_X1_weatherBehind k (nI w) v M = some (nI (behS K w v)) := by
  obtain ⟨-, -, k2, k3, -⟩ := ok
  unfold f_X1_weatherBehind behS
  rw [inb_nI_t (show w < 6 by omega) (by decide), nI_clamp (by omega), show M.1 17 k w = _ from (rc.2.2.2.2.2.2.2.1 w hw).1, show M.1 18 k w = _ from (rc.2.2.2.2.2.2.2.1 w hw).2]
  by_cases c : v = 0
  · rw [if_pos c, if_pos c]
  · rw [if_neg c, if_neg c]
    by_cases c2 : v = 1
    · rw [if_pos c2, if_pos c2, if_pos rfl]
    · rw [if_neg c2, if_neg c2, if_pos rfl]
/-- one place of the row grown -/
theorem setG_H {M : Mem} {h q : Nat} {v : Int32} {A : Ha} (r : RepH M h A) : RepH (sR M 22 h (upd (M.1 22 h) q v)) h (A.1, A.2.1, upd A.2.2 q v) := by
  obtain ⟨r1, r2, r3⟩ := r
  refine ⟨fun j hj => ?_, fun j hj => ?_, fun j hj => ?_⟩
  · rw [sR_ne _ _ _ _ (fun z => absurd z.1 (by decide))]; exact r1 j hj
  · rw [sR_ne _ _ _ _ (fun z => absurd z.1 (by decide))]; exact r2 j hj
  · rw [sR_at]
    show upd (M.1 22 h) q v j = upd A.2.2 q v j
    by_cases e : j = q
    · subst e; rw [upd_at, upd_at]
    · rw [upd_ne _ _ e, upd_ne _ _ e]; exact r3 j hj
theorem setG_F {M : Mem} {h : Nat} {f : Nat → Int32} : HFr h M (sR M 22 h f) := HFr.set (Or.inr (Or.inr rfl))
theorem cd_loop {h k : Nat} {v : Int32} {K : Co} (ok : OKC K) : ∀ (kk i n : Nat) (M : Mem) (A : Ha), i + kk = K.1 3 → kk < n → RepC M k K → RepH M h A → A.1 4 < K.1 2 →
    ∃ n' M', f_X3_closeDay_20 h k v n (nI i) M = f_X3_closeDay_20 h k v (n' + 1) (nI (K.1 3)) M' ∧ RepH M' h (A.1, A.2.1, (fun q => if i ≤ q ∧ q < K.1 3 then A.2.2 q + K.2 5 (6 * q + A.1 4) else A.2.2 q)) ∧ HFr h M M'
  | kk, i, 0, M, A, _, hn, _, _, _ => by omega
  | 0, i, n + 1, M, A, hi, _, rc, r, _ => by
    have e : i = K.1 3 := by omega
    subst e
    refine ⟨n, M, rfl, ?_, HFr.rf⟩
    have el : (fun q => if K.1 3 ≤ q ∧ q < K.1 3 then A.2.2 q + K.2 5 (6 * q + A.1 4) else A.2.2 q) = A.2.2 := by
      funext j
      rw [if_neg (by omega)]
    rw [el]
    exact r
  | kk + 1, i, n + 1, M, A, hi, hn, rc, r, hw => by
    have k3 : K.1 3 ≤ 4 := ok.2.2.2.1
    have k2 : K.1 2 ≤ 6 := ok.2.2.1
    rw [f_X3_closeDay_20, show M.1 9 k 3 = nI (K.1 3) from rc.1 3 (by decide), if_pos (by rw [lt_nI (by omega) (by omega)]; omega), inb_nI_t (show i < 4 by omega) (by decide), if_pos rfl, show M.1 20 h 6 = nI (A.1 4) from r.1 4 (by decide), X1_growthOf_sp ok rc (by omega) hw, Option.bind_some, if_pos rfl, nI_clamp (by omega), show M.1 22 h i = A.2.2 i from r.2.2 i (by omega), show nI i + (1 : Int32) = nI (i + 1) from add_nI i 1]
    obtain ⟨n', M', g1, g2, g3⟩ := cd_loop (h := h) (k := k) (v := v) ok kk (i + 1) n _ _ (by omega) (by omega) (rc.fr setG_F) (setG_H (q := i) (v := A.2.2 i + K.2 5 (6 * i + A.1 4)) r) hw
    refine ⟨n', M', g1, ?_, setG_F.tr g3⟩
    have el : (fun q => if i + 1 ≤ q ∧ q < K.1 3 then (upd A.2.2 i (A.2.2 i + K.2 5 (6 * i + A.1 4))) q + K.2 5 (6 * q + A.1 4) else upd A.2.2 i (A.2.2 i + K.2 5 (6 * i + A.1 4)) q) = (fun q => if i ≤ q ∧ q < K.1 3 then A.2.2 q + K.2 5 (6 * q + A.1 4) else A.2.2 q) := by
      funext j
      by_cases e : j = i
      · subst e
        rw [if_neg (by omega), if_pos (by omega), upd_at]
      · rw [upd_ne _ _ e]
        by_cases c : i + 1 ≤ j ∧ j < K.1 3
        · rw [if_pos c, if_pos (by omega)]
        · rw [if_neg c, if_neg (by omega)]
    rw [← el]
    exact g2
theorem X3_closeDay_sp {M : Mem} {h k : Nat} {A : Ha} {K : Co} (ok : OKC K) (rc : RepC M k K) (r : RepH M h A) (o : OKH (K.1 0) A) (hw : K.1 2 = 0 ∨ A.1 4 < K.1 2) : ∃ M', f_X3_closeDay h k M = some (verdS K A, M') ∧ RepH M' h (dayS K A) ∧ HFr h M M' := by
  have k2 : K.1 2 ≤ 6 := ok.2.2.1
  have k5 : K.1 5 ≤ 2 := ok.2.2.2.2.2.1
  unfold f_X3_closeDay
  have er0 : f_X3_ruling h (nI (K.1 5)) M = some (verdS K A) := X3_ruling_sp r o k5
  rw [show M.1 8 k 12 = nI (K.1 5) from rc.2.2.1, er0, Option.bind_some, show M.1 9 k 2 = nI (K.1 2) from rc.1 2 (by decide)]
  by_cases c : 0 < K.1 2
  · rw [if_pos (by rw [nI_pz (by omega)]; exact c)]
    have hw : A.1 4 < K.1 2 := by omega
    obtain ⟨n', M1, g1, g2, g3⟩ := cd_loop (h := h) (k := k) (v := verdS K A) ok (K.1 3) 0 FU M A (by omega) (lt_FU (by have := ok.2.2.2.1; omega)) rc r hw
    have rc1 := rc.fr g3
    have e4 : M1.1 20 h 6 = nI (A.1 4) := g2.1 4 (by decide)
    rw [show (0 : Int32) = nI 0 from rfl, g1, f_X3_closeDay_20, show M1.1 9 k 3 = nI (K.1 3) from rc1.1 3 (by decide), if_neg (by rw [lt_nI (by have := ok.2.2.2.1; omega) (by have := ok.2.2.2.1; omega)]; omega), e4, X1_weatherBehind_sp ok rc1 hw, Option.bind_some]
    have q1 := setN_H (j := 4) (v := behS K (A.1 4) (verdS K A)) (by decide) g2
    have ed : (sR M1 20 h (upd (M1.1 20 h) 6 (nI (behS K (A.1 4) (verdS K A))))).1 20 h 5 + (1 : Int32) = nI (A.1 3 + 1) := by
      have e3 : (sR M1 20 h (upd (M1.1 20 h) 6 (nI (behS K (A.1 4) (verdS K A))))).1 20 h 5 = nI (A.1 3) := (q1.1 3 (by decide)).trans (congrArg nI (updN_ne A.1 (behS K (A.1 4) (verdS K A)) (by decide : ¬ (3 : Nat) = 4)))
      rw [e3]
      exact add_nI _ 1
    simp only
    rw [ed]
    have q2 := setN_H (j := 3) (v := A.1 3 + 1) (by decide) q1
    have f2 : HFr h M (sR (sR M1 20 h (upd (M1.1 20 h) 6 (nI (behS K (A.1 4) (verdS K A))))) 20 h (upd ((sR M1 20 h (upd (M1.1 20 h) 6 (nI (behS K (A.1 4) (verdS K A))))).1 20 h) 5 (nI (A.1 3 + 1)))) := (g3.tr setN_F).tr setN_F
    obtain ⟨M3, k1, k2', k3⟩ := X3_openDay_sp (h := h) (k := k) ok.J (rc.fr f2) q2
    refine ⟨M3, by rw [k1, Option.bind_some], ?_, f2.tr k3⟩
    unfold dayS growS
    rw [if_neg (by omega), if_neg (by omega)]
    have el : (fun q => if 0 ≤ q ∧ q < K.1 3 then A.2.2 q + K.2 5 (6 * q + A.1 4) else A.2.2 q) = (fun q => if q < K.1 3 then A.2.2 q + K.2 5 (6 * q + A.1 4) else A.2.2 q) := by
      funext j
      by_cases c : j < K.1 3
      · rw [if_pos c, if_pos ⟨Nat.zero_le _, c⟩]
      · rw [if_neg c, if_neg (fun z => c z.2)]
    rw [el] at k2'
    exact k2'
  · rw [if_neg (by rw [nI_pz (by omega)]; exact c)]
    have er : M.1 20 h 5 + (1 : Int32) = nI (A.1 3 + 1) := by
      rw [show M.1 20 h 5 = nI (A.1 3) from r.1 3 (by decide)]; exact add_nI _ 1
    rw [er]
    have q1 := setN_H (j := 3) (v := A.1 3 + 1) (by decide) r
    obtain ⟨M3, k1, k2', k3⟩ := X3_openDay_sp (h := h) (k := k) ok.J (rc.fr setN_F) q1
    refine ⟨M3, by simp only; rw [k1, Option.bind_some], ?_, setN_F.tr k3⟩
    unfold dayS growS
    rw [if_pos (by omega), if_pos (by omega), updN_same]
    exact k2'
theorem X3_unseat_sp {M : Mem} {h i : Nat} {A : Ha} (r : RepH M h A) (hi : i < 10) (hS : A.1 0 < 1024) : ∃ M', f_X3_unseat h (nI i) M = some M' ∧ RepH M' h (updN A.1 0 (A.1 0 &&& (1023 ^^^ 2 ^ i)), A.2) ∧ HFr h M M' := by
  unfold f_X3_unseat
  have e : (M.1 20 h 2) &&& (((1 : Int32) <<< (nI i &&& 31)) ^^^ (-1 : Int32)) = nI (A.1 0 &&& (1023 ^^^ 2 ^ i)) := by
    rw [show M.1 20 h 2 = nI (A.1 0) from r.1 0 (by decide)]
    exact andn_at (A.1 0) hS i hi
  rw [e]
  exact ⟨_, rfl, setN_H (j := 0) (by decide) r, setN_F⟩
theorem X3_reseat_sp {M : Mem} {h i : Nat} {A : Ha} (r : RepH M h A) (hi : i < 10) : ∃ M', f_X3_reseat h (nI i) M = some M' ∧ RepH M' h (updN A.1 0 (A.1 0 ||| 2 ^ i), A.2) ∧ HFr h M M' := by
  unfold f_X3_reseat
  rw [show M.1 20 h 2 = nI (A.1 0) from r.1 0 (by decide), shl_1 i (by omega), or_nI]
  exact ⟨_, rfl, setN_H (j := 0) (by decide) r, setN_F⟩
theorem X3_wasShown_sp {M : Mem} {h p : Nat} {A : Ha} (r : RepH M h A) (hp : p < 11) (hS : A.1 1 < 1024) : f_X3_wasShown h (nI p) M = some (if (A.1 1).testBit p then 1 else 0) := by
  unfold f_X3_wasShown
  rw [show M.1 20 h 3 = nI (A.1 1) from r.1 1 (by decide), bit_at _ hS p hp]
  cases (A.1 1).testBit p <;> rfl
/-- one juror before a proof of weight w -/
def byS (K : Co) (w : Int32) (i : Nat) : Int32 := if w < 0 then -(jmax 0 (jabs w - K.2 1 i)) else jmax 0 (jabs w - K.2 1 i)
def showF (K : Co) (S : Nat) (w : Int32) (x : (Nat → Int32) × Nat) (i : Nat) : (Nat → Int32) × Nat := if S.testBit i then (upd x.1 i (cutS (x.1 i + byS K w i)), x.2 + if cutS (x.1 i + byS K w i) = x.1 i then 0 else 1) else x
def showX (K : Co) (p : Nat) (A : Ha) : (Nat → Int32) × Nat := foldJ (showF K (A.1 0) (K.2 4 p)) (K.1 0) 0 (A.2.1, 0)
def showS (K : Co) (p : Nat) (A : Ha) : Ha := (updN A.1 1 (A.1 1 ||| 2 ^ p), (showX K p A).1, A.2.2)
theorem sp_loop {h k p : Nat} {w : Int32} {S : Nat} {K : Co} (hJ : K.1 0 ≤ 10) : ∀ (kk i n a : Nat) (M : Mem) (A : Ha), i + kk = K.1 0 → kk < n → RepC M k K → RepH M h A → A.1 0 = S → S < 1024 →
    ∃ n' M', f_X3_present_13 h k (nI p) w n (nI a) (nI i) M = f_X3_present_13 h k (nI p) w (n' + 1) (nI (foldJ (showF K S w) kk i (A.2.1, a)).2) (nI (K.1 0)) M' ∧ RepH M' h (A.1, (foldJ (showF K S w) kk i (A.2.1, a)).1, A.2.2) ∧ HFr h M M'
  | kk, i, 0, a, M, A, _, hn, _, _, _, _ => by omega
  | 0, i, n + 1, a, M, A, hi, _, rc, r, hA, hS => by
    have e : i = K.1 0 := by omega
    subst e
    exact ⟨n, M, rfl, r, HFr.rf⟩
  | kk + 1, i, n + 1, a, M, A, hi, hn, rc, r, hA, hS => by
    have ih := sp_loop (h := h) (k := k) (p := p) (w := w) (S := S) hJ kk (i + 1) n
    rw [f_X3_present_13, show M.1 9 k 0 = nI (K.1 0) from rc.1 0 (by decide), if_pos (by rw [lt_nI (by omega) (by omega)]; omega)]
    rw [X3_isSeated_sp (S := S) (by rw [← hA]; exact r.1 0 (by decide)) hS (by omega), Option.bind_some]
    rw [show nI i + (1 : Int32) = nI (i + 1) from add_nI i 1]
    have e : ∀ x, foldJ (showF K S w) (kk + 1) i x = foldJ (showF K S w) kk (i + 1) (showF K S w x i) := fun _ => rfl
    rw [e]
    unfold showF
    cases hb : S.testBit i with
    | false =>
      rw [ifb_f]
      exact ih a M A (by omega) (by omega) rc r hA hS
    | true =>
      rw [ifb_t, inb_nI_t (show i < 10 by omega) (by decide), if_pos rfl, nI_clamp (by omega), show M.1 12 k i = K.2 1 i from (rc.2.2.2.1 i (by omega)).2.1]
      have e2 : (if w < 0 then ((f_X3_shift h (nI i) (-(jmax 0 (jabs w - K.2 1 i))) M).bind fun q8 => f_X3_present_13 h k (nI p) w n (nI a + q8.1) (nI (i + 1)) q8.2) else ((f_X3_shift h (nI i) (jmax 0 (jabs w - K.2 1 i)) M).bind fun q7 => f_X3_present_13 h k (nI p) w n (nI a + q7.1) (nI (i + 1)) q7.2)) = ((f_X3_shift h (nI i) (byS K w i) M).bind fun q8 => f_X3_present_13 h k (nI p) w n (nI a + q8.1) (nI (i + 1)) q8.2) := by
        unfold byS
        by_cases c : w < 0
        · rw [if_pos c, if_pos c]
        · rw [if_neg c, if_neg c]
      have e3 := X3_shift_sp (M := M) (h := h) (by_ := byS K w i) (show i < 10 by omega)
      rw [r.2.1 i (by omega)] at e3
      have e4 : (if cutS (A.2.1 i + byS K w i) = A.2.1 i then (0 : Int32) else 1) = nI (if cutS (A.2.1 i + byS K w i) = A.2.1 i then 0 else 1) := by split <;> rfl
      rw [e4] at e3
      show ∃ n' M', (if w < 0 then ((f_X3_shift h (nI i) (-(jmax 0 (jabs w - K.2 1 i))) M).bind fun q8 => f_X3_present_13 h k (nI p) w n (nI a + q8.1) (nI (i + 1)) q8.2) else ((f_X3_shift h (nI i) (jmax 0 (jabs w - K.2 1 i)) M).bind fun q7 => f_X3_present_13 h k (nI p) w n (nI a + q7.1) (nI (i + 1)) q7.2)) = _ ∧ _
      rw [e2, e3, Option.bind_some]
      simp only
      rw [add_nI]
      obtain ⟨n', M', g1, g2, g3⟩ := ih (a + if cutS (A.2.1 i + byS K w i) = A.2.1 i then 0 else 1) _ _ (by omega) (by omega) (rc.fr putL_F) (putL_H (i := i) (v := cutS (A.2.1 i + byS K w i)) r) hA hS
      exact ⟨n', M', g1, g2, putL_F.tr g3⟩
theorem X3_present_sp {M : Mem} {h k p : Nat} {A : Ha} {K : Co} (ok : OKC K) (rc : RepC M k K) (r : RepH M h A) (o : OKH (K.1 0) A) (hp : p < K.1 1) : ∃ M', f_X3_present h k (nI p) M = some (nI (showX K p A).2, M') ∧ RepH M' h (showS K p A) ∧ HFr h M M' := by
  have k1 : K.1 1 ≤ 6 := ok.2.1
  unfold f_X3_present
  rw [inb_nI_t (show p < 6 by omega) (by decide), if_pos rfl, nI_clamp (by omega), show M.1 16 k p = K.2 4 p from rc.2.2.2.2.2.2.1 p hp]
  obtain ⟨n', M1, g1, g2, g3⟩ := sp_loop (h := h) (k := k) (p := p) (w := K.2 4 p) (S := A.1 0) ok.J (K.1 0) 0 FU 0 M A (by omega) (lt_FU (by have := ok.J; omega)) rc r rfl o.S
  have rc1 := rc.fr g3
  have hJ := ok.J
  show ∃ M', f_X3_present_13 h k (nI p) (K.2 4 p) FU (nI 0) (nI 0) M = _ ∧ _
  rw [g1, f_X3_present_13, show M1.1 9 k 0 = nI (K.1 0) from rc1.1 0 (by decide), if_neg (by rw [lt_nI (by omega) (by omega)]; omega), show M1.1 20 h 3 = nI (A.1 1) from g2.1 1 (by decide), shl_1 p (by omega), or_nI]
  exact ⟨_, rfl, setN_H (j := 1) (by decide) g2, g3.tr setN_F⟩
theorem X3_canPay_sp {M : Mem} {h k j : Nat} {A : Ha} {K : Co} (ok : OKC K) (rc : RepC M k K) (r : RepH M h A) (hj : j < K.1 0) : f_X3_canPay h k (nI j) M = some (if (9999 : Int32) < nI (A.1 5) + K.2 2 j then 0 else 1) := by
  have hJ := ok.J
  unfold f_X3_canPay
  rw [inb_nI_t (show j < 10 by omega) (by decide), if_pos rfl, nI_clamp (by omega), show M.1 13 k j = K.2 2 j from (rc.2.2.2.1 j hj).2.2, show M.1 20 h 7 = nI (A.1 5) from r.1 5 (by decide)]
  by_cases c : (9999 : Int32) < nI (A.1 5) + K.2 2 j
  · rw [if_pos c, if_pos c]
  · rw [if_neg c, if_neg c]
