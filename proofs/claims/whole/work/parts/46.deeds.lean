/-! ===== one step of the weeks that is done at once, on both ===== -/
def okL (K : Co) (A : Ha) : Prop := OKH (K.1 0) A ∧ (K.1 2 = 0 ∨ A.1 4 < K.1 2) ∧ A.1 1 < 2 ^ K.1 1 ∧ A.1 2 ≤ 9999 ∧ A.1 3 ≤ 9999 ∧ A.1 5 ≤ 9999
def drawN (d : Int32) : Int32 := jrem (d * (2927 : Int32) + (10627 : Int32)) (65536 : Int32)
def moodF (S : Nat) (x : (Nat → Int32) × Int32) (i : Nat) : (Nat → Int32) × Int32 := if S.testBit i = true then (upd x.1 i (cutS (x.1 i + (jrem (drawN x.2 / (8 : Int32)) (9 : Int32) - (4 : Int32)))), drawN x.2) else x
def moodX (K : Co) (A : Ha) (d : Int32) : (Nat → Int32) × Int32 := foldJ (moodF (A.1 0)) (K.1 0) 0 (A.2.1, d)
def dayC (c : Nat → Int32) (v : Int32) : Nat → Int32 := upd (upd (upd c 2 (c 2 + 1)) 3 (c 3 + (if v = 1 then 1 else 0))) 4 (c 4 + (if v = 0 then 1 else 0))
def doR (K : Co) (q k : Nat) (sd : Int32) (A : Ha) (c : Nat → Int32) : Bool × Ha × (Nat → Int32) :=
  if q = 0 then (if (A.1 1).testBit k = true then (false, A, c) else (true, showS K k A, c))
  else if q = 1 then (if 9999 < A.1 2 + k then (false, A, c) else (true, roundsS K (effK K) k A, c))
  else if q = 2 then (if A.1 3 < 9999 then (true, dayS K A, dayC c (verdS K A)) else (false, A, c))
  else if q = 3 then (if (A.1 0).testBit k = true then (true, (updN A.1 0 (A.1 0 &&& (1023 ^^^ 2 ^ k)), A.2), c) else (false, A, c))
  else if q = 4 then (if (A.1 0).testBit k = true then (false, A, c) else (true, (updN A.1 0 (A.1 0 ||| 2 ^ k), A.2), c))
  else if q = 5 then (if (A.1 0).testBit k = true ∧ ¬ (9999 : Int32) < nI (A.1 5) + K.2 2 k then (true, buyS K k (sd * 99) A, c) else (false, A, c))
  else (true, (A.1, (moodX K A (c 0)).1, A.2.2), upd c 0 (moodX K A (c 0)).2)
def argOK (K : Co) (q k : Nat) (sd : Int32) : Prop := (q = 0 → k < K.1 1) ∧ (q = 1 → k ≤ 99) ∧ (q = 3 ∨ q = 4 ∨ q = 5 → k < K.1 0) ∧ (q = 5 → sd = 1 ∨ sd = -1)
def CtX (M : Mem) (i0 : Nat) (c : Nat → Int32) : Prop := M.1 44 i0 1 = c 0 ∧ M.1 44 i0 3 = c 1 ∧ M.1 44 i0 4 = c 2 ∧ M.1 44 i0 5 = c 3 ∧ M.1 44 i0 6 = c 4
def DFr (i0 h : Nat) (M M' : Mem) : Prop := M'.2 = M.2 ∧ (∀ c i, ¬ (c = 44 ∧ i = i0) → ¬ (i = h ∧ (c = 20 ∨ c = 21 ∨ c = 22)) → M'.1 c i = M.1 c i) ∧ ∀ j, j = 2 ∨ j = 7 → M'.1 44 i0 j = M.1 44 i0 j
set_option maxHeartbeats 400000 in
theorem DFr.rf {i0 h : Nat} {M : Mem} : DFr i0 h M M := ⟨rfl, fun _ _ _ _ => rfl, fun _ _ => rfl⟩
set_option maxHeartbeats 400000 in
theorem DFr.tr {i0 h : Nat} {M M1 M2 : Mem} (a : DFr i0 h M M1) (b : DFr i0 h M1 M2) : DFr i0 h M M2 := ⟨b.1.trans a.1, fun c i h1 h2 => (b.2.1 c i h1 h2).trans (a.2.1 c i h1 h2), fun j h => (b.2.2 j h).trans (a.2.2 j h)⟩
set_option maxHeartbeats 400000 in
theorem HFr.d {i0 h : Nat} {M M' : Mem} (f : HFr h M M') : DFr i0 h M M' := ⟨f.1, fun c i _ h => f.2 c i h, fun j _ => by rw [f.2 44 i0 (by omega)]⟩
set_option maxHeartbeats 400000 in
theorem HFr.ct {i0 h : Nat} {M M' : Mem} {c : Nat → Int32} (f : HFr h M M') (k : CtX M i0 c) : CtX M' i0 c := by
  unfold CtX
  rw [f.2 44 i0 (by omega)]
  exact k
set_option maxHeartbeats 400000 in
theorem DFr.put {i0 h p : Nat} {M : Mem} {v : Int32} (hp : ¬ p = 2) (hp7 : ¬ p = 7) : DFr i0 h M (sR M 44 i0 (upd (M.1 44 i0) p v)) := ⟨rfl, fun c i h _ => sR_ne _ _ _ _ h, fun j hj => by rw [sR_at, upd_ne _ _ (by omega)]⟩
set_option maxHeartbeats 400000 in
theorem DFr.H {i0 h p : Nat} {M : Mem} {v : Int32} {A : Ha} (r : RepH M h A) : RepH (sR M 44 i0 (upd (M.1 44 i0) p v)) h A := by
  unfold RepH at r ⊢
  rw [sR_ne _ _ _ _ (by omega), sR_ne _ _ _ _ (by omega), sR_ne _ _ _ _ (by omega)]
  exact r
set_option maxHeartbeats 400000 in
theorem countDay_sp {M : Mem} {i0 h : Nat} {c : Nat → Int32} {v : Int32} (k : CtX M i0 c) (hv : v = 0 ∨ v = 1 ∨ v = -1) : ∃ M', f_X4_countDay i0 v M = some M' ∧ CtX M' i0 (dayC c v) ∧ DFr i0 h M M' ∧ ∀ A, RepH M h A → RepH M' h A := by
  obtain ⟨k0, k1, k2, k3, k4⟩ := k
  refine ⟨sR (sR (sR M 44 i0 (upd (M.1 44 i0) 4 (c 2 + 1))) 44 i0 (upd ((sR M 44 i0 (upd (M.1 44 i0) 4 (c 2 + 1))).1 44 i0) 5 (c 3 + (if v = 1 then 1 else 0)))) 44 i0 (upd ((sR (sR M 44 i0 (upd (M.1 44 i0) 4 (c 2 + 1))) 44 i0 (upd ((sR M 44 i0 (upd (M.1 44 i0) 4 (c 2 + 1))).1 44 i0) 5 (c 3 + (if v = 1 then 1 else 0)))).1 44 i0) 6 (c 4 + (if v = 0 then 1 else 0))), ?_, ?_, ((DFr.put (by decide) (by decide)).tr (DFr.put (by decide) (by decide))).tr (DFr.put (by decide) (by decide)), fun A r => DFr.H (DFr.H (DFr.H r))⟩
  · unfold f_X4_countDay
    have e5 : M.1 44 i0 5 = c 3 := k3
    have e6 : M.1 44 i0 6 = c 4 := k4
    simp only [sR_at, k2, upd_ne _ _ (show ¬ (5 : Nat) = 4 by decide), upd_ne _ _ (show ¬ (6 : Nat) = 5 by decide), upd_ne _ _ (show ¬ (6 : Nat) = 4 by decide), e5, e6]
    rcases hv with h | h | h <;> subst h <;> rfl
  · refine ⟨?_, ?_, ?_, ?_, ?_⟩
    · rw [sR_at, upd_ne _ _ (by decide), sR_at, upd_ne _ _ (by decide), sR_at, upd_ne _ _ (by decide), k0]; rfl
    · rw [sR_at, upd_ne _ _ (by decide), sR_at, upd_ne _ _ (by decide), sR_at, upd_ne _ _ (by decide), k1]; rfl
    · rw [sR_at, upd_ne _ _ (by decide), sR_at, upd_ne _ _ (by decide), sR_at, upd_at]; rfl
    · rw [sR_at, upd_ne _ _ (by decide), sR_at, upd_at]; rfl
    · rw [sR_at, upd_at]; rfl
set_option maxHeartbeats 400000 in
theorem mdx_loop {K : Co} {i0 h S : Nat} {c : Nat → Int32} (ok : OKC K) (hS : S < 1024) : ∀ (k i fu : Nat) (M : Mem) (A : Ha) (d : Int32), i + k = K.1 0 → k < fu → RepC M 0 K → RepH M h A → A.1 0 = S → CtX M i0 (upd c 0 d) →
    ∃ M', f_X4_feelMood_2 i0 0 h fu (nI i) M = some M' ∧ RepH M' h (A.1, (foldJ (moodF S) k i (A.2.1, d)).1, A.2.2) ∧ CtX M' i0 (upd c 0 (foldJ (moodF S) k i (A.2.1, d)).2) ∧ DFr i0 h M M'
  | k, i, 0, M, A, d, _, h, _, _, _, _ => by omega
  | 0, i, fu + 1, M, A, d, hi, _, rc, r, hA, ct => by
    have hJ := ok.J
    refine ⟨M, ?_, r, ct, DFr.rf⟩
    rw [f_X4_feelMood_2, show M.1 9 0 0 = nI (K.1 0) from rc.1 0 (by decide), if_neg (by rw [lt_nI (by omega) (by omega)]; omega)]
  | k + 1, i, fu + 1, M, A, d, hi, hk, rc, r, hA, ct => by
    have hJ := ok.J
    have fold : foldJ (moodF S) (k + 1) i (A.2.1, d) = foldJ (moodF S) k (i + 1) (moodF S (A.2.1, d) i) := rfl
    rw [f_X4_feelMood_2, show M.1 9 0 0 = nI (K.1 0) from rc.1 0 (by decide), if_pos (by rw [lt_nI (by omega) (by omega)]; omega), X3_isSeated_sp (S := S) (by rw [← hA]; exact r.1 0 (by decide)) hS (by omega), Option.bind_some, show nI i + (1 : Int32) = nI (i + 1) from add_nI i 1, fold]
    cases hb : S.testBit i with
    | false =>
      have e : moodF S (A.2.1, d) i = (A.2.1, d) := by unfold moodF; exact if_neg (by rw [hb]; decide)
      rw [ifb_f, e]
      exact mdx_loop ok hS k (i + 1) fu M A d (by omega) (by omega) rc r hA ct
    | true =>
      have e : moodF S (A.2.1, d) i = (upd A.2.1 i (cutS (A.2.1 i + (jrem (drawN d / (8 : Int32)) (9 : Int32) - (4 : Int32)))), drawN d) := by unfold moodF; exact if_pos hb
      have ed : f_X4_drawBy i0 (9 : Int32) M = some (jrem (drawN d / (8 : Int32)) (9 : Int32), sR M 44 i0 (upd (M.1 44 i0) 1 (drawN d))) := by
        unfold f_X4_drawBy
        rw [ct.1, upd_at]
        simp only [sR_at, upd_at]
        rw [if_pos (by decide), if_neg (by decide)]
        rfl
      have r1 : RepH (sR M 44 i0 (upd (M.1 44 i0) 1 (drawN d))) h A := DFr.H r
      have F1 : DFr i0 h M (sR M 44 i0 (upd (M.1 44 i0) 1 (drawN d))) := DFr.put (by decide) (by decide)
      have rc1 : RepC (sR M 44 i0 (upd (M.1 44 i0) 1 (drawN d))) 0 K := RepCR.congr (fun x h1 h2 => sR_ne _ _ _ _ (by omega)) rc
      have ct1 : CtX (sR M 44 i0 (upd (M.1 44 i0) 1 (drawN d))) i0 (upd c 0 (drawN d)) := by
        obtain ⟨_, c1, c2, c3, c4⟩ := ct
        rw [upd_ne _ _ (by decide)] at c1 c2 c3 c4
        refine ⟨?_, ?_, ?_, ?_, ?_⟩
        · rw [sR_at, upd_at, upd_at]
        · rw [sR_at, upd_ne _ _ (by decide), upd_ne _ _ (by decide)]; exact c1
        · rw [sR_at, upd_ne _ _ (by decide), upd_ne _ _ (by decide)]; exact c2
        · rw [sR_at, upd_ne _ _ (by decide), upd_ne _ _ (by decide)]; exact c3
        · rw [sR_at, upd_ne _ _ (by decide), upd_ne _ _ (by decide)]; exact c4
      obtain ⟨f, M2, s1, -, s3, s4, -⟩ := X3_shift_H (J := K.1 0) (by_ := jrem (drawN d / (8 : Int32)) (9 : Int32) - (4 : Int32)) r1 (show i < 10 by omega)
      obtain ⟨M3, a1, a2, a3, a4⟩ := mdx_loop (c := c) (i0 := i0) ok hS k (i + 1) fu M2 _ (drawN d) (by omega) (by omega) (RepC.fr s4 rc1) s3 hA (HFr.ct s4 ct1)
      rw [ifb_t, ed, Option.bind_some]
      simp only
      rw [s1, Option.bind_some, e]
      exact ⟨M3, a1, a2, a3, (F1.tr s4.d).tr a4⟩
set_option maxHeartbeats 400000 in
theorem mood_in {K : Co} {A : Ha} {d : Int32} (h : inL A.2.1) : inL (moodX K A d).1 := by
  unfold moodX
  refine foldJ_inv (P := fun x : (Nat → Int32) × Int32 => inL x.1) _ _ _ h (fun x m _ _ hx => ?_)
  unfold moodF
  split
  · exact inL_upd hx (cutS_in _)
  · exact hx
set_option maxHeartbeats 400000 in
theorem doR_ok {K : Co} {q k : Nat} {sd : Int32} {A : Ha} {c : Nat → Int32} (ok : OKC K) (ha : argOK K q k sd) (o : okL K A) : okL K (doR K q k sd A c).2.1 := by
  have k1 := ok.2.1
  have hJ := ok.J
  obtain ⟨oh, ow, o1, o2, o3, o5⟩ := o
  unfold doR
  by_cases q0 : q = 0
  · rw [if_pos q0]
    by_cases z : (A.1 1).testBit k = true
    · rw [if_pos z]; exact ⟨oh, ow, o1, o2, o3, o5⟩
    · rw [if_neg z]
      have b := okB.show ok (ha.1 q0) ⟨oh, o1⟩
      exact ⟨b.1, ow, b.2, o2, o3, o5⟩
  · rw [if_neg q0]
    by_cases q1 : q = 1
    · rw [if_pos q1]
      by_cases z : 9999 < A.1 2 + k
      · rw [if_pos z]; exact ⟨oh, ow, o1, o2, o3, o5⟩
      · rw [if_neg z]
        have r := rounds_hall (K := K) (e := effK K) k A (K.1 0) oh (by omega)
        refine ⟨r.1, ?_, ?_, ?_, ?_, ?_⟩
        · show _ ∨ (roundsS K (effK K) k A).1 4 < _
          rw [r.2.1, updN_ne _ _ (by decide)]; exact ow
        · show (roundsS K (effK K) k A).1 1 < _
          rw [r.2.1, updN_ne _ _ (by decide)]; exact o1
        · show (roundsS K (effK K) k A).1 2 ≤ _
          rw [r.2.1, updN_at]; omega
        · show (roundsS K (effK K) k A).1 3 ≤ _
          rw [r.2.1, updN_ne _ _ (by decide)]; exact o3
        · show (roundsS K (effK K) k A).1 5 ≤ _
          rw [r.2.1, updN_ne _ _ (by decide)]; exact o5
    · rw [if_neg q1]
      by_cases q2 : q = 2
      · rw [if_pos q2]
        by_cases z : A.1 3 < 9999
        · rw [if_pos z]; exact day_hall ok oh ow (by omega) o5
        · rw [if_neg z]; exact ⟨oh, ow, o1, o2, o3, o5⟩
      · rw [if_neg q2]
        have seat : ∀ T, T < 2 ^ K.1 0 → okL K (updN A.1 0 T, A.2) := by
          intro T hT
          refine ⟨oh.seat hT, ?_, ?_, ?_, ?_, ?_⟩
          · show _ ∨ updN A.1 0 T 4 < _
            rw [updN_ne _ _ (by decide)]; exact ow
          · show updN A.1 0 T 1 < _
            rw [updN_ne _ _ (by decide)]; exact o1
          · show updN A.1 0 T 2 ≤ _
            rw [updN_ne _ _ (by decide)]; exact o2
          · show updN A.1 0 T 3 ≤ _
            rw [updN_ne _ _ (by decide)]; exact o3
          · show updN A.1 0 T 5 ≤ _
            rw [updN_ne _ _ (by decide)]; exact o5
        by_cases q3 : q = 3
        · rw [if_pos q3]
          by_cases z : (A.1 0).testBit k = true
          · rw [if_pos z]; exact seat _ (Nat.lt_of_le_of_lt Nat.and_le_left oh.2.1)
          · rw [if_neg z]; exact ⟨oh, ow, o1, o2, o3, o5⟩
        · rw [if_neg q3]
          by_cases q4 : q = 4
          · rw [if_pos q4]
            by_cases z : (A.1 0).testBit k = true
            · rw [if_pos z]; exact ⟨oh, ow, o1, o2, o3, o5⟩
            · rw [if_neg z]; exact seat _ (or_lt oh.2.1 (ha.2.2.1 (Or.inr (Or.inl q4))))
          · rw [if_neg q4]
            by_cases q5 : q = 5
            · rw [if_pos q5]
              by_cases z : (A.1 0).testBit k = true ∧ ¬ (9999 : Int32) < nI (A.1 5) + K.2 2 k
              · rw [if_pos z]
                have hk := ha.2.2.1 (Or.inr (Or.inr q5))
                obtain ⟨p1, p2⟩ := price_nat ok hk
                have z2 : ¬ 9999 < A.1 5 + (K.2 2 k).toNatClampNeg := by
                  intro y
                  apply z.2
                  rw [p1, add_nI]
                  show nI 9999 < _
                  rw [lt_nI (by omega) (by omega)]
                  exact y
                have hv := side_in (ha.2.2.2 q5)
                refine ⟨⟨hJ, ?_, fun j hj => ?_, inL_upd oh.toL hv⟩, ?_, ?_, ?_, ?_, ?_⟩
                · show updN A.1 5 (A.1 5 + (K.2 2 k).toNatClampNeg) 0 < _
                  rw [updN_ne _ _ (by decide)]; exact oh.2.1
                · show updN A.1 5 (A.1 5 + (K.2 2 k).toNatClampNeg) j < _
                  by_cases e : j = 5
                  · rw [e, updN_at]; omega
                  · rw [updN_ne _ _ e]; exact oh.2.2.1 j hj
                · show _ ∨ updN A.1 5 (A.1 5 + (K.2 2 k).toNatClampNeg) 4 < _
                  rw [updN_ne _ _ (by decide)]; exact ow
                · show updN A.1 5 (A.1 5 + (K.2 2 k).toNatClampNeg) 1 < _
                  rw [updN_ne _ _ (by decide)]; exact o1
                · show updN A.1 5 (A.1 5 + (K.2 2 k).toNatClampNeg) 2 ≤ _
                  rw [updN_ne _ _ (by decide)]; exact o2
                · show updN A.1 5 (A.1 5 + (K.2 2 k).toNatClampNeg) 3 ≤ _
                  rw [updN_ne _ _ (by decide)]; exact o3
                · show updN A.1 5 (A.1 5 + (K.2 2 k).toNatClampNeg) 5 ≤ _
                  rw [updN_at]; omega
              · rw [if_neg z]; exact ⟨oh, ow, o1, o2, o3, o5⟩
            · rw [if_neg q5]
              exact ⟨oh.lean (mood_in oh.toL), ow, o1, o2, o3, o5⟩
def nB (b : Bool) : Int32 := if b = true then 1 else 0
set_option maxHeartbeats 400000 in
theorem X4_does_sp {M : Mem} {K : Co} {q k i0 h r : Nat} {sd : Int32} {A : Ha} {c : Nat → Int32} (ok : OKC K) (hq : q < 7) (ha : argOK K q k sd) (o : okL K A) (hr : r < 60) (h24 : M.1 24 0 r = nI (18 + q)) (h25 : ¬ q = 2 → ¬ q = 6 → M.1 25 0 r = nI k) (h27 : q = 5 → M.1 27 0 r = sd) (rc : RepC M 0 K) (rh : RepH M h A) (ct : CtX M i0 c) :
    ∃ M', f_X4_does i0 0 0 h (nI r) M = some (nB (doR K q k sd A c).1, M') ∧ RepH M' h (doR K q k sd A c).2.1 ∧ CtX M' i0 (doR K q k sd A c).2.2 ∧ DFr i0 h M M' := by
  have k1 := ok.2.1
  have hJ := ok.J
  obtain ⟨oh, ow, o1, o2, o3, o5⟩ := o
  have hS1 : A.1 1 < 1024 := Nat.lt_of_lt_of_le o1 (p2_le (by omega))
  have go : f_X4_does i0 0 0 h (nI r) M = (f_X4_canDo 0 h (nI (18 + q)) (M.1 25 0 r) M).bind fun r5 => if r5 = 0 then some ((0 : Int32), M) else
      if nI (18 + q) = (18 : Int32) then (f_X3_present h 0 (M.1 25 0 r) M).bind fun q6 => some ((1 : Int32), q6.2)
      else if nI (18 + q) = (19 : Int32) then (f_X3_talkOn h 0 (M.1 25 0 r) M).bind fun M8 => some ((1 : Int32), M8)
      else if nI (18 + q) = (20 : Int32) then (f_X3_closeDay h 0 M).bind fun q10 => (f_X4_countDay i0 q10.1 q10.2).bind fun M11 => some ((1 : Int32), M11)
      else if nI (18 + q) = (21 : Int32) then (f_X3_unseat h (M.1 25 0 r) M).bind fun M13 => some ((1 : Int32), M13)
      else if nI (18 + q) = (22 : Int32) then (f_X3_reseat h (M.1 25 0 r) M).bind fun M15 => some ((1 : Int32), M15)
      else if nI (18 + q) = (23 : Int32) then (f_X3_buy h 0 (M.1 25 0 r) (M.1 27 0 r) M).bind fun M18 => some ((1 : Int32), M18)
      else (f_X4_feelMood i0 0 h M).bind fun M20 => some ((1 : Int32), M20) := by
    unfold f_X4_does
    rw [inb_nI_t hr (by decide), if_pos rfl, nI_clamp (by omega), h24]
    simp only [if_true]
  rw [go]
  match q, hq with
  | 0, _ =>
    have hk := ha.1 rfl
    rw [h25 (by decide) (by decide)]
    unfold f_X4_canDo doR
    rw [if_pos (by decide), X3_wasShown_sp rh (by omega) hS1, Option.bind_some, if_pos rfl]
    cases hb : (A.1 1).testBit k with
    | true => exact ⟨M, rfl, rh, ct, DFr.rf⟩
    | false =>
      obtain ⟨M1, e1, r1, f1⟩ := X3_present_sp ok rc rh oh hk
      refine ⟨M1, ?_, r1, f1.ct ct, f1.d⟩
      rw [ifb_f, Option.bind_some, if_neg (by decide), if_pos (by decide), e1]
      rfl
  | 1, _ =>
    have hk := ha.2.1 rfl
    rw [h25 (by decide) (by decide)]
    unfold f_X4_canDo doR
    rw [if_neg (by decide), if_pos (by decide), show M.1 20 h 4 = nI (A.1 2) from rh.1 2 (by decide), add_nI, if_neg (show ¬ 1 = 0 by decide), if_pos (show 1 = 1 from rfl)]
    by_cases z : 9999 < A.1 2 + k
    · rw [if_pos (show (9999 : Int32) < nI (A.1 2 + k) from by show nI 9999 < _; rw [lt_nI (by omega) (by omega)]; exact z), if_pos z]
      exact ⟨M, rfl, rh, ct, DFr.rf⟩
    · obtain ⟨M1, e1, r1, f1⟩ := X3_talkOn_sp (R := k) rc rh oh ok.2.2.2.2.1 (by omega) (by omega)
      rw [if_neg (show ¬ (9999 : Int32) < nI (A.1 2 + k) from by show ¬ nI 9999 < _; rw [lt_nI (by omega) (by omega)]; exact z), if_neg z]
      refine ⟨M1, ?_, r1, f1.ct ct, f1.d⟩
      rw [Option.bind_some, if_neg (by decide), if_neg (by decide), if_pos (by decide), e1]
      rfl
  | 2, _ =>
    unfold f_X4_canDo doR
    rw [if_neg (by decide), if_neg (by decide), if_pos (by decide), show M.1 20 h 5 = nI (A.1 3) from rh.1 3 (by decide), if_neg (show ¬ 2 = 0 by decide), if_neg (show ¬ 2 = 1 by decide), if_pos (show 2 = 2 from rfl)]
    by_cases z : A.1 3 < 9999
    · obtain ⟨M1, e1, r1, f1⟩ := X3_closeDay_sp ok rc rh oh ow
      obtain ⟨M2, e2, c2, f2, r2⟩ := countDay_sp (h := h) (f1.ct ct) (verdS_in K A)
      rw [if_pos (show nI (A.1 3) < (9999 : Int32) from by show _ < nI 9999; rw [lt_nI (by omega) (by omega)]; exact z), if_pos z]
      refine ⟨M2, ?_, r2 _ r1, c2, f1.d.tr f2⟩
      rw [Option.bind_some, if_neg (by decide), if_neg (by decide), if_neg (by decide), if_pos (by decide), e1, Option.bind_some, e2]
      rfl
    · rw [if_neg (show ¬ nI (A.1 3) < (9999 : Int32) from by show ¬ _ < nI 9999; rw [lt_nI (by omega) (by omega)]; exact z), if_neg z]
      exact ⟨M, rfl, rh, ct, DFr.rf⟩
  | 3, _ =>
    have hk := ha.2.2.1 (Or.inl rfl)
    rw [h25 (by decide) (by decide)]
    unfold f_X4_canDo doR
    rw [if_neg (by decide), if_neg (by decide), if_neg (by decide), if_pos (by decide), X3_isSeated_sp (rh.1 0 (by decide)) oh.S (by omega), Option.bind_some, if_neg (show ¬ 3 = 0 by decide), if_neg (show ¬ 3 = 1 by decide), if_neg (show ¬ 3 = 2 by decide), if_pos (show 3 = 3 from rfl)]
    cases hb : (A.1 0).testBit k with
    | false => exact ⟨M, rfl, rh, ct, DFr.rf⟩
    | true =>
      obtain ⟨M1, e1, r1, f1⟩ := X3_unseat_sp rh (show k < 10 by omega) oh.S
      refine ⟨M1, ?_, r1, f1.ct ct, f1.d⟩
      rw [if_pos (show isB (if true = true then (1 : Int32) else 0) = true from rfl), Option.bind_some, ifb_t, if_neg (by decide), if_neg (by decide), if_neg (by decide), if_pos (by decide), e1]
      rfl
  | 4, _ =>
    have hk := ha.2.2.1 (Or.inr (Or.inl rfl))
    rw [h25 (by decide) (by decide)]
    unfold f_X4_canDo doR
    rw [if_neg (by decide), if_neg (by decide), if_neg (by decide), if_neg (by decide), if_pos (by decide), X3_isSeated_sp (rh.1 0 (by decide)) oh.S (by omega), Option.bind_some, if_neg (show ¬ 4 = 0 by decide), if_neg (show ¬ 4 = 1 by decide), if_neg (show ¬ 4 = 2 by decide), if_neg (show ¬ 4 = 3 by decide), if_pos (show 4 = 4 from rfl)]
    cases hb : (A.1 0).testBit k with
    | true => exact ⟨M, rfl, rh, ct, DFr.rf⟩
    | false =>
      obtain ⟨M1, e1, r1, f1⟩ := X3_reseat_sp rh (show k < 10 by omega)
      refine ⟨M1, ?_, r1, f1.ct ct, f1.d⟩
      rw [ifb_f, Option.bind_some, if_neg (by decide), if_neg (by decide), if_neg (by decide), if_neg (by decide), if_neg (by decide), if_pos (by decide), e1]
      rfl
  | 5, _ =>
    have hk := ha.2.2.1 (Or.inr (Or.inr rfl))
    rw [h25 (by decide) (by decide), h27 rfl]
    unfold f_X4_canDo doR
    rw [if_neg (by decide), if_neg (by decide), if_neg (by decide), if_neg (by decide), if_neg (by decide), if_pos (by decide), X3_isSeated_sp (rh.1 0 (by decide)) oh.S (by omega), Option.bind_some, if_neg (show ¬ 5 = 0 by decide), if_neg (show ¬ 5 = 1 by decide), if_neg (show ¬ 5 = 2 by decide), if_neg (show ¬ 5 = 3 by decide), if_neg (show ¬ 5 = 4 by decide), if_pos (show 5 = 5 from rfl), X3_canPay_sp ok rc rh hk]
    cases hb : (A.1 0).testBit k with
    | false =>
      rw [if_neg (show ¬ (false = true ∧ ¬ (9999 : Int32) < nI (A.1 5) + K.2 2 k) from fun z => by cases z.1)]
      exact ⟨M, rfl, rh, ct, DFr.rf⟩
    | true =>
      by_cases z : (9999 : Int32) < nI (A.1 5) + K.2 2 k
      · rw [if_neg (show ¬ (true = true ∧ ¬ (9999 : Int32) < nI (A.1 5) + K.2 2 k) from fun y => y.2 z), ifb_t, if_pos z]
        exact ⟨M, rfl, rh, ct, DFr.rf⟩
      · obtain ⟨M1, e1, r1, f1⟩ := X3_buy_sp (side := sd) ok rc rh hk
        rw [if_pos (show true = true ∧ ¬ (9999 : Int32) < nI (A.1 5) + K.2 2 k from ⟨rfl, z⟩), ifb_t, if_neg z]
        refine ⟨M1, ?_, r1, f1.ct ct, f1.d⟩
        rw [Option.bind_some, if_neg (by decide), Option.bind_some, if_neg (by decide), if_neg (by decide), if_neg (by decide), if_neg (by decide), if_neg (by decide), if_neg (by decide), if_pos (by decide), e1]
        rfl
  | 6, _ =>
    unfold f_X4_canDo doR
    rw [if_neg (by decide), if_neg (by decide), if_neg (by decide), if_neg (by decide), if_neg (by decide), if_neg (by decide), Option.bind_some, if_neg (show ¬ 6 = 0 by decide), if_neg (show ¬ 6 = 1 by decide), if_neg (show ¬ 6 = 2 by decide), if_neg (show ¬ 6 = 3 by decide), if_neg (show ¬ 6 = 4 by decide), if_neg (show ¬ 6 = 5 by decide)]
    obtain ⟨M1, e1, r1, c1, f1⟩ := mdx_loop (c := c) (i0 := i0) (h := h) ok oh.S (K.1 0) 0 FU M A (c 0) (by omega) (lt_FU (by omega)) rc rh rfl (by rw [upd_same]; exact ct)
    refine ⟨M1, ?_, r1, c1, f1⟩
    unfold f_X4_feelMood
    rw [if_neg (by decide), if_neg (by decide), if_neg (by decide), if_neg (by decide), if_neg (by decide), if_neg (by decide), if_neg (by decide), show f_X4_feelMood_2 i0 0 h FU (0 : Int32) M = some M1 from e1]
    rfl
-- the reference
def CtM (M : Mem) (c : Nat → Int32) : Prop := M.1 50 0 39 = c 0 ∧ M.1 50 0 41 = c 1 ∧ M.1 50 0 42 = c 2 ∧ M.1 50 0 43 = c 3 ∧ M.1 50 0 44 = c 4
def NFr (M M' : Mem) : Prop := M'.2 = M.2 ∧ (∀ c i, ¬ ((c = 50 ∨ c = 55) ∧ i = 0) → M'.1 c i = M.1 c i) ∧ (∀ j, ¬ hallIx j → M'.1 55 0 j = M.1 55 0 j) ∧ ∀ j, ¬ (j = 39 ∨ j = 42 ∨ j = 43 ∨ j = 44) → M'.1 50 0 j = M.1 50 0 j
set_option maxHeartbeats 400000 in
theorem NFr.rf {M : Mem} : NFr M M := ⟨rfl, fun _ _ _ => rfl, fun _ _ => rfl, fun _ _ => rfl⟩
set_option maxHeartbeats 400000 in
theorem NFr.tr {M M1 M2 : Mem} (a : NFr M M1) (b : NFr M1 M2) : NFr M M2 := ⟨b.1.trans a.1, fun c i h => (b.2.1 c i h).trans (a.2.1 c i h), fun j h => (b.2.2.1 j h).trans (a.2.2.1 j h), fun j h => (b.2.2.2 j h).trans (a.2.2.2 j h)⟩
set_option maxHeartbeats 400000 in
theorem MFr.n {M M' : Mem} (f : MFr M M') : NFr M M' := ⟨f.1, fun c i h => f.2.1 c i (fun z => h ⟨Or.inr z.1, z.2⟩), f.2.2, fun j _ => by rw [f.2.1 50 0 (by decide)]⟩
set_option maxHeartbeats 400000 in
theorem MFr.ct {M M' : Mem} {c : Nat → Int32} (f : MFr M M') (k : CtM M c) : CtM M' c := by
  unfold CtM
  rw [f.2.1 50 0 (by decide)]
  exact k
set_option maxHeartbeats 400000 in
theorem NFr.put {M : Mem} {p : Nat} {v : Int32} (hp : p = 39 ∨ p = 42 ∨ p = 43 ∨ p = 44) : NFr M (sR M 50 0 (upd (M.1 50 0) p v)) := ⟨rfl, fun c i h => sR_ne _ _ _ _ (fun z => h ⟨Or.inl z.1, z.2⟩), fun j _ => by rw [sR_ne _ _ _ _ (by decide)], fun j hj => by rw [sR_at, upd_ne _ _ (fun z => hj (by rw [z]; exact hp))]⟩
set_option maxHeartbeats 400000 in
theorem dayEnds_sp {M : Mem} {K : Co} {A : Ha} {c : Nat → Int32} (ok : OKC K) (rc : RepMC (M.1 55 0) K) (r : RepMH (M.1 55 0) K A) (o : okL K A) (ct : CtM M c) (z : A.1 3 < 9999) : ∃ M', f_X11_dayEnds M = some (1, M') ∧ RepMH (M'.1 55 0) K (dayS K A) ∧ CtM M' (dayC c (verdS K A)) ∧ NFr M M' := by
  obtain ⟨oh, ow, o1, o2, o3, o5⟩ := o
  obtain ⟨M1, e1, r1, f1⟩ := X11_endsDay_sp ok rc r oh ow
  obtain ⟨k0, k1, k2, k3, k4⟩ := f1.ct ct
  have hv := verdS_in K A
  generalize verdS K A = v at *
  refine ⟨sR (sR (sR M1 50 0 (upd (M1.1 50 0) 42 (c 2 + 1))) 50 0 (upd ((sR M1 50 0 (upd (M1.1 50 0) 42 (c 2 + 1))).1 50 0) 43 (c 3 + (if v = 1 then 1 else 0)))) 50 0 (upd ((sR (sR M1 50 0 (upd (M1.1 50 0) 42 (c 2 + 1))) 50 0 (upd ((sR M1 50 0 (upd (M1.1 50 0) 42 (c 2 + 1))).1 50 0) 43 (c 3 + (if v = 1 then 1 else 0)))).1 50 0) 44 (c 4 + (if v = 0 then 1 else 0))), ?_, ?_, ?_, f1.n.tr (((NFr.put (by decide)).tr (NFr.put (by decide))).tr (NFr.put (by decide)))⟩
  · unfold f_X11_dayEnds
    rw [show M.1 55 0 6 = nI (A.1 3) from r.2.2.2.1, if_neg (by show ¬ nI (A.1 3) = nI 9999; rw [eq_nI (by omega) (by omega)]; omega), e1, Option.bind_some]
    simp only [sR_at, k2, upd_ne _ _ (show ¬ (43 : Nat) = 42 by decide), upd_ne _ _ (show ¬ (44 : Nat) = 43 by decide), upd_ne _ _ (show ¬ (44 : Nat) = 42 by decide), k3, k4]
    rcases hv with h | h | h <;> subst h <;> rfl
  · rw [sR_ne _ _ _ _ (by decide), sR_ne _ _ _ _ (by decide), sR_ne _ _ _ _ (by decide)]; exact r1
  · refine ⟨?_, ?_, ?_, ?_, ?_⟩
    · rw [sR_at, upd_ne _ _ (by decide), sR_at, upd_ne _ _ (by decide), sR_at, upd_ne _ _ (by decide), k0]; rfl
    · rw [sR_at, upd_ne _ _ (by decide), sR_at, upd_ne _ _ (by decide), sR_at, upd_ne _ _ (by decide), k1]; rfl
    · rw [sR_at, upd_ne _ _ (by decide), sR_at, upd_ne _ _ (by decide), sR_at, upd_at]; rfl
    · rw [sR_at, upd_ne _ _ (by decide), sR_at, upd_at]; rfl
    · rw [sR_at, upd_at]; rfl
set_option maxHeartbeats 400000 in
theorem mdm_loop {K : Co} {S : Nat} {c : Nat → Int32} (ok : OKC K) (hS : S < 1024) : ∀ (k i fu : Nat) (M : Mem) (A : Ha) (d : Int32), i + k = K.1 0 → k < fu → RepMC (M.1 55 0) K → RepMH (M.1 55 0) K A → A.1 0 = S → CtM M (upd c 0 d) →
    ∃ M', f_X11_moods_2 fu (nI i) M = some M' ∧ RepMH (M'.1 55 0) K (A.1, (foldJ (moodF S) k i (A.2.1, d)).1, A.2.2) ∧ CtM M' (upd c 0 (foldJ (moodF S) k i (A.2.1, d)).2) ∧ NFr M M'
  | k, i, 0, M, A, d, _, h, _, _, _, _ => by omega
  | 0, i, fu + 1, M, A, d, hi, _, rc, r, hA, ct => by
    have hJ := ok.J
    refine ⟨M, ?_, r, ct, NFr.rf⟩
    rw [f_X11_moods_2, show M.1 55 0 0 = nI (K.1 0) from rc.1 0 (by decide), if_neg (by rw [lt_nI (by omega) (by omega)]; omega)]
  | k + 1, i, fu + 1, M, A, d, hi, hk, rc, r, hA, ct => by
    have hJ := ok.J
    have fold : foldJ (moodF S) (k + 1) i (A.2.1, d) = foldJ (moodF S) k (i + 1) (moodF S (A.2.1, d) i) := rfl
    rw [f_X11_moods_2, show M.1 55 0 0 = nI (K.1 0) from rc.1 0 (by decide), if_pos (by rw [lt_nI (by omega) (by omega)]; omega), X11_isSeated_sp (S := S) (by rw [← hA]; exact r.1) hS (by omega), Option.bind_some, show nI i + (1 : Int32) = nI (i + 1) from add_nI i 1, fold]
    cases hb : S.testBit i with
    | false =>
      have e : moodF S (A.2.1, d) i = (A.2.1, d) := by unfold moodF; exact if_neg (by rw [hb]; decide)
      rw [ifb_f, e]
      exact mdm_loop ok hS k (i + 1) fu M A d (by omega) (by omega) rc r hA ct
    | true =>
      have e : moodF S (A.2.1, d) i = (upd A.2.1 i (cutS (A.2.1 i + (jrem (drawN d / (8 : Int32)) (9 : Int32) - (4 : Int32)))), drawN d) := by unfold moodF; exact if_pos hb
      have ed : f_X11_draw (9 : Int32) M = some (jrem (drawN d / (8 : Int32)) (9 : Int32), sR M 50 0 (upd (M.1 50 0) 39 (drawN d))) := by
        unfold f_X11_draw
        rw [ct.1, upd_at]
        simp only [sR_at, upd_at]
        rw [if_neg (by decide)]
        rfl
      have F1 : NFr M (sR M 50 0 (upd (M.1 50 0) 39 (drawN d))) := NFr.put (by decide)
      have e55 : (sR M 50 0 (upd (M.1 50 0) 39 (drawN d))).1 55 0 = M.1 55 0 := sR_ne _ _ _ _ (by decide)
      have ct1 : CtM (sR M 50 0 (upd (M.1 50 0) 39 (drawN d))) (upd c 0 (drawN d)) := by
        obtain ⟨_, c1, c2, c3, c4⟩ := ct
        rw [upd_ne _ _ (by decide)] at c1 c2 c3 c4
        refine ⟨?_, ?_, ?_, ?_, ?_⟩
        · rw [sR_at, upd_at, upd_at]
        · rw [sR_at, upd_ne _ _ (by decide), upd_ne _ _ (by decide)]; exact c1
        · rw [sR_at, upd_ne _ _ (by decide), upd_ne _ _ (by decide)]; exact c2
        · rw [sR_at, upd_ne _ _ (by decide), upd_ne _ _ (by decide)]; exact c3
        · rw [sR_at, upd_ne _ _ (by decide), upd_ne _ _ (by decide)]; exact c4
      have r1 : RepMH ((sR M 50 0 (upd (M.1 50 0) 39 (drawN d))).1 55 0) K A := by rw [e55]; exact r
      have F2 : MFr (sR M 50 0 (upd (M.1 50 0) 39 (drawN d))) (putM (sR M 50 0 (upd (M.1 50 0) 39 (drawN d))) (42 + i) (cutS (A.2.1 i + (jrem (drawN d / (8 : Int32)) (9 : Int32) - (4 : Int32))))) := putM_F (by unfold hallIx; omega)
      have r2 := putM_L (v := cutS (A.2.1 i + (jrem (drawN d / (8 : Int32)) (9 : Int32) - (4 : Int32)))) hJ (show i < K.1 0 by omega) r1
      obtain ⟨M3, a1, a2, a3, a4⟩ := mdm_loop (c := c) ok hS k (i + 1) fu _ _ (drawN d) (by omega) (by omega) (RepMC.fr ok F2.2.2 (by rw [e55]; exact rc)) r2 hA (F2.ct ct1)
      have es : A.2.1 i + jrem (drawN d / (8 : Int32)) (9 : Int32) - (4 : Int32) = A.2.1 i + (jrem (drawN d / (8 : Int32)) (9 : Int32) - (4 : Int32)) := by
        rw [Int32.sub_eq_add_neg, Int32.sub_eq_add_neg, Int32.add_assoc]
      rw [ifb_t, show (42 : Int32) + nI i = nI (42 + i) from add_nI 42 i, inb_nI_t (show 42 + i < 2375 by omega) (by decide), if_pos rfl, ed, Option.bind_some]
      simp only
      rw [nI_clamp (by omega), r.2.2.2.2.2.2.1 i (by omega), es, cut_eq, Option.bind_some, if_pos trivial, e]
      exact ⟨M3, a1, a2, a3, (F1.tr F2.n).tr a4⟩
set_option maxHeartbeats 400000 in
theorem X11_does_sp {M : Mem} {K : Co} {q k r : Nat} {sd : Int32} {A : Ha} {c : Nat → Int32} (ok : OKC K) (hq : q < 7) (ha : argOK K q k sd) (o : okL K A) (hr : r + 8 < 2375) (h0 : M.1 55 0 r = nI q) (h1 : ¬ q = 2 → ¬ q = 6 → M.1 55 0 (r + 1) = nI k) (h2 : q = 5 → M.1 55 0 (r + 2) = sd) (rc : RepMC (M.1 55 0) K) (rh : RepMH (M.1 55 0) K A) (ct : CtM M c) :
    ∃ M', f_X11_does (nI r) M = some (nB (doR K q k sd A c).1, M') ∧ RepMH (M'.1 55 0) K (doR K q k sd A c).2.1 ∧ CtM M' (doR K q k sd A c).2.2 ∧ NFr M M' := by
  have k1 := ok.2.1
  have hJ := ok.J
  have oL := o
  obtain ⟨oh, ow, o1, o2, o3, o5⟩ := o
  have hS1 : A.1 1 < 1024 := Nat.lt_of_lt_of_le o1 (p2_le (by omega))
  unfold f_X11_does
  rw [inb_nI_t (show r < 2375 by omega) (by decide), if_pos rfl, show nI r + (1 : Int32) = nI (r + 1) from add_nI r 1, inb_nI_t (show r + 1 < 2375 by omega) (by decide), if_pos rfl, nI_clamp (by omega), nI_clamp (by omega), h0]
  match q, hq with
  | 0, _ =>
    have hk := ha.1 rfl
    rw [h1 (by decide) (by decide)]
    unfold doR
    simp only
    rw [if_neg (by decide), if_neg (by decide), if_neg (by decide), if_neg (by decide), if_pos (by decide), show M.1 55 0 11 = nI (A.1 1) from rh.2.1, has_at hS1 (by omega), Option.bind_some, if_pos trivial]
    cases hb : (A.1 1).testBit k with
    | true => exact ⟨M, rfl, rh, ct, NFr.rf⟩
    | false =>
      obtain ⟨M1, e1, r1, f1⟩ := X11_showsOne_sp ok rc rh oh hk
      refine ⟨M1, ?_, r1, f1.ct ct, f1.n⟩
      rw [ifb_f, e1]
      rfl
  | 1, _ =>
    have hk := ha.2.1 rfl
    rw [h1 (by decide) (by decide)]
    unfold doR
    simp only
    rw [if_neg (by decide), if_neg (by decide), if_neg (by decide), if_neg (by decide), if_neg (by decide), if_neg (by decide), show M.1 55 0 7 = nI (A.1 2) from rh.2.2.1, add_nI, if_neg (show ¬ 1 = 0 by decide), if_pos trivial]
    by_cases z : 9999 < A.1 2 + k
    · rw [if_pos (show (9999 : Int32) < nI (A.1 2 + k) from by show nI 9999 < _; rw [lt_nI (by omega) (by omega)]; exact z), if_pos z]
      exact ⟨M, rfl, rh, ct, NFr.rf⟩
    · obtain ⟨M1, e1, r1, f1⟩ := X11_talksFor_sp (R := k) ok rc rh oh (by omega) (by omega)
      rw [if_neg (show ¬ (9999 : Int32) < nI (A.1 2 + k) from by show ¬ nI 9999 < _; rw [lt_nI (by omega) (by omega)]; exact z), if_neg z]
      refine ⟨M1, ?_, r1, f1.ct ct, f1.n⟩
      rw [e1]
      rfl
  | 2, _ =>
    unfold doR
    simp only
    rw [if_pos (by decide), if_neg (show ¬ 2 = 0 by decide), if_neg (show ¬ 2 = 1 by decide), if_pos trivial]
    by_cases z : A.1 3 < 9999
    · obtain ⟨M1, e1, r1, c1, f1⟩ := dayEnds_sp ok rc rh oL ct z
      rw [if_pos z]
      refine ⟨M1, ?_, r1, c1, f1⟩
      rw [e1]
      rfl
    · rw [if_neg z]
      refine ⟨M, ?_, rh, ct, NFr.rf⟩
      unfold f_X11_dayEnds
      rw [show M.1 55 0 6 = nI (A.1 3) from rh.2.2.2.1, if_pos (by show nI (A.1 3) = nI 9999; rw [eq_nI (by omega) (by omega)]; omega)]
      rfl
  | 3, _ =>
    have hk := ha.2.2.1 (Or.inl rfl)
    rw [h1 (by decide) (by decide)]
    unfold doR
    simp only
    rw [if_neg (by decide), if_pos (by decide), if_neg (show ¬ 3 = 0 by decide), if_neg (show ¬ 3 = 1 by decide), if_neg (show ¬ 3 = 2 by decide), if_pos trivial]
    rcases X11_strikesOne_sp (i := k) ok rh (by omega) oh.S with ⟨hb, e⟩ | ⟨hb, M1, e1, r1, f1⟩
    · rw [e, hb]
      exact ⟨M, rfl, rh, ct, NFr.rf⟩
    · rw [e1, hb]
      exact ⟨M1, rfl, r1, f1.ct ct, f1.n⟩
  | 4, _ =>
    have hk := ha.2.2.1 (Or.inr (Or.inl rfl))
    rw [h1 (by decide) (by decide)]
    unfold doR
    simp only
    rw [if_neg (by decide), if_neg (by decide), if_pos (by decide), if_neg (show ¬ 4 = 0 by decide), if_neg (show ¬ 4 = 1 by decide), if_neg (show ¬ 4 = 2 by decide), if_neg (show ¬ 4 = 3 by decide), if_pos trivial]
    rcases X11_seatsOne_sp (i := k) ok rh (by omega) oh.S with ⟨hb, e⟩ | ⟨hb, M1, e1, r1, f1⟩
    · rw [e, hb]
      exact ⟨M, rfl, rh, ct, NFr.rf⟩
    · rw [e1, hb]
      exact ⟨M1, rfl, r1, f1.ct ct, f1.n⟩
  | 5, _ =>
    have hk := ha.2.2.1 (Or.inr (Or.inr rfl))
    rw [h1 (by decide) (by decide)]
    unfold doR
    simp only
    rw [if_neg (by decide), if_neg (by decide), if_neg (by decide), if_pos (by decide), show nI r + (2 : Int32) = nI (r + 2) from add_nI r 2, inb_nI_t (show r + 2 < 2375 by omega) (by decide), if_pos rfl, nI_clamp (by omega), h2 rfl, if_neg (show ¬ 5 = 0 by decide), if_neg (show ¬ 5 = 1 by decide), if_neg (show ¬ 5 = 2 by decide), if_neg (show ¬ 5 = 3 by decide), if_neg (show ¬ 5 = 4 by decide), if_pos trivial]
    rcases X11_bribesOne_sp (side := sd) ok rc rh oh hk (ha.2.2.2 rfl) with ⟨z, e⟩ | ⟨z, hb, e⟩ | ⟨z, hb, M1, e1, r1, f1⟩
    · rw [e, if_neg (show ¬ ((A.1 0).testBit k = true ∧ ¬ (9999 : Int32) < nI (A.1 5) + K.2 2 k) from fun y => y.2 z)]
      exact ⟨M, rfl, rh, ct, NFr.rf⟩
    · rw [e, if_neg (show ¬ ((A.1 0).testBit k = true ∧ ¬ (9999 : Int32) < nI (A.1 5) + K.2 2 k) from fun y => by rw [hb] at y; cases y.1)]
      exact ⟨M, rfl, rh, ct, NFr.rf⟩
    · rw [e1, if_pos (show (A.1 0).testBit k = true ∧ ¬ (9999 : Int32) < nI (A.1 5) + K.2 2 k from ⟨hb, z⟩)]
      exact ⟨M1, rfl, r1, f1.ct ct, f1.n⟩
  | 6, _ =>
    unfold doR
    simp only
    rw [if_neg (by decide), if_neg (by decide), if_neg (by decide), if_neg (by decide), if_neg (by decide), if_pos (by decide), if_neg (show ¬ 6 = 0 by decide), if_neg (show ¬ 6 = 1 by decide), if_neg (show ¬ 6 = 2 by decide), if_neg (show ¬ 6 = 3 by decide), if_neg (show ¬ 6 = 4 by decide), if_neg (show ¬ 6 = 5 by decide)]
    obtain ⟨M1, e1, r1, c1, f1⟩ := mdm_loop (c := c) ok oh.S (K.1 0) 0 FU M A (c 0) (by omega) (lt_FU (by omega)) rc rh rfl (by rw [upd_same]; exact ct)
    refine ⟨M1, ?_, r1, c1, f1⟩
    unfold f_X11_moods
    rw [show f_X11_moods_2 FU (0 : Int32) M = some M1 from e1]
    rfl
