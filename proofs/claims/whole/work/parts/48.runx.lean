/-! ===== the run of weeks: the class's, row by row ===== -/
def rowT (w : Wk) (x e : Nat) : Nat := e + cntR (fun d => isBl w d && (decide (w.1 (100 + d) < e) || (decide (w.1 (100 + d) = e) && decide (x ≤ d)))) 0 e
set_option maxHeartbeats 400000 in
theorem rowT_pos {w : Wk} {a e : Nat} (ha : a ≤ e) (h : ∀ d, d < a → isBl w d = true → w.1 (100 + d) < a ∨ e < w.1 (100 + d)) : rowT w a e = posW w e := by
  unfold rowT posW
  congr 1
  refine cntR_congr e 0 (fun j _ hj => ?_)
  cases hb : isBl w j with
  | false => rfl
  | true =>
    rw [Bool.true_and, Bool.true_and, Bool.eq_iff_iff]
    simp only [Bool.or_eq_true, Bool.and_eq_true, decide_eq_true_eq]
    by_cases c : j < a
    · have := h j c hb
      omega
    · omega
set_option maxHeartbeats 400000 in
theorem rowT_simple {w : Wk} {a e : Nat} (hb : isBl w e = false) (h : ∀ d, a ≤ d → d < e → isBl w d = true → w.1 (100 + d) ≤ e) : rowT w a (e + 1) = posW w e + 1 := by
  unfold rowT posW
  have e1 := cntR_app (fun d => isBl w d && (decide (w.1 (100 + d) < e + 1) || (decide (w.1 (100 + d) = e + 1) && decide (a ≤ d)))) e 1 0
  have e2 : cntR (fun d => isBl w d && (decide (w.1 (100 + d) < e + 1) || (decide (w.1 (100 + d) = e + 1) && decide (a ≤ d)))) (0 + e) 1 = 0 := by
    refine cntR_zero 1 (0 + e) (fun j h1 h2 => ?_)
    have : j = e := by omega
    rw [this, hb]; rfl
  have e3 : cntR (fun d => isBl w d && (decide (w.1 (100 + d) < e + 1) || (decide (w.1 (100 + d) = e + 1) && decide (a ≤ d)))) 0 e = cntR (fun b => isBl w b && decide (w.1 (100 + b) ≤ e)) 0 e := by
    refine cntR_congr e 0 (fun j _ hj => ?_)
    cases hb : isBl w j with
    | false => rfl
    | true =>
      rw [Bool.true_and, Bool.true_and, Bool.eq_iff_iff]
      simp only [Bool.or_eq_true, Bool.and_eq_true, decide_eq_true_eq]
      by_cases c : a ≤ j
      · have := h j c (by omega) hb
        omega
      · omega
  omega
set_option maxHeartbeats 400000 in
theorem rowT_body {w : Wk} {e : Nat} (he : e < w.1 (100 + e)) : rowT w (e + 1) (e + 1) = posW w e + 1 := by
  unfold rowT posW
  have e1 := cntR_app (fun d => isBl w d && (decide (w.1 (100 + d) < e + 1) || (decide (w.1 (100 + d) = e + 1) && decide (e + 1 ≤ d)))) e 1 0
  have e2 : cntR (fun d => isBl w d && (decide (w.1 (100 + d) < e + 1) || (decide (w.1 (100 + d) = e + 1) && decide (e + 1 ≤ d)))) (0 + e) 1 = 0 := by
    refine cntR_zero 1 (0 + e) (fun j h1 h2 => ?_)
    have : j = e := by omega
    subst this
    simp
    intro _
    omega
  have e3 : cntR (fun d => isBl w d && (decide (w.1 (100 + d) < e + 1) || (decide (w.1 (100 + d) = e + 1) && decide (e + 1 ≤ d)))) 0 e = cntR (fun b => isBl w b && decide (w.1 (100 + b) ≤ e)) 0 e := by
    refine cntR_congr e 0 (fun j _ hj => ?_)
    cases hb : isBl w j with
    | false => rfl
    | true =>
      rw [Bool.true_and, Bool.true_and, Bool.eq_iff_iff]
      simp only [Bool.or_eq_true, Bool.and_eq_true, decide_eq_true_eq]
      omega
  omega
set_option maxHeartbeats 400000 in
theorem rowT_end {w : Wk} {a e : Nat} (hb : isBl w e = true) (ha : a ≤ e) (he : e < w.1 (100 + e)) (h : ∀ d, a ≤ d → d < e → isBl w d = true → w.1 (100 + d) ≤ e) : rowT w a (w.1 (100 + e)) = endW w e + 1 := by
  unfold rowT endW
  have e1 := cntR_rm (p := fun d => isBl w d && (decide (w.1 (100 + d) < w.1 (100 + e)) || (decide (w.1 (100 + d) = w.1 (100 + e)) && decide (a ≤ d)))) (i := e) (w.1 (100 + e)) 0 (Nat.zero_le _) (by omega) (by simp [hb, ha])
  have e2 : cntR (fun j => (isBl w j && (decide (w.1 (100 + j) < w.1 (100 + e)) || (decide (w.1 (100 + j) = w.1 (100 + e)) && decide (a ≤ j)))) && decide (j ≠ e)) 0 (w.1 (100 + e)) = cntR (fun d => isBl w d && (decide (w.1 (100 + d) < w.1 (100 + e)) || (decide (w.1 (100 + d) = w.1 (100 + e)) && decide (e < d)))) 0 (w.1 (100 + e)) := by
    refine cntR_congr _ 0 (fun j _ hj => ?_)
    cases hbj : isBl w j with
    | false => rfl
    | true =>
      rw [Bool.true_and, Bool.true_and, Bool.eq_iff_iff]
      simp only [Bool.or_eq_true, Bool.and_eq_true, decide_eq_true_eq]
      by_cases c : a ≤ j ∧ j < e
      · have := h j c.1 c.2 hbj
        omega
      · by_cases d : j = e
        · subst d; omega
        · omega
  have e1 : cntR (fun j => (isBl w j && (decide (w.1 (100 + j) < w.1 (100 + e)) || (decide (w.1 (100 + j) = w.1 (100 + e)) && decide (a ≤ j)))) && decide (j ≠ e)) 0 (w.1 (100 + e)) + 1 = _ := e1
  omega
set_option maxHeartbeats 400000 in
theorem endW_rowT (w : Wk) (e : Nat) : rowT w (e + 1) (w.1 (100 + e)) = endW w e := rfl
set_option maxHeartbeats 400000 in
theorem posW_mono {w : Wk} {a e : Nat} (h : a < e) : posW w a < posW w e := by
  unfold posW
  have e1 := cntR_app (fun b => isBl w b && decide (w.1 (100 + b) ≤ e)) a (e - a) 0
  have e2 := cntR_mono (p := fun b => isBl w b && decide (w.1 (100 + b) ≤ a)) (q := fun b => isBl w b && decide (w.1 (100 + b) ≤ e)) (fun j hj => by
    simp only [Bool.and_eq_true, decide_eq_true_eq] at hj ⊢
    exact ⟨hj.1, by omega⟩) a 0
  rw [show a + (e - a) = e by omega] at e1
  omega
def lenW (w : Wk) : Nat := w.1 1 + cntR (isBl w) 0 (w.1 1)
set_option maxHeartbeats 400000 in
theorem posW_len {w : Wk} {e : Nat} (h : e < w.1 1) : posW w e < lenW w := by
  unfold posW lenW
  have e1 := cntR_app (isBl w) e (w.1 1 - e) 0
  have e2 := cntR_mono (p := fun b => isBl w b && decide (w.1 (100 + b) ≤ e)) (q := isBl w) (fun j hj => by
    simp only [Bool.and_eq_true] at hj
    exact hj.1) e 0
  rw [show e + (w.1 1 - e) = w.1 1 by omega] at e1
  omega
set_option maxHeartbeats 400000 in
theorem endW_len {w : Wk} {e : Nat} (hb : isBl w e = true) (he : e < w.1 (100 + e)) (hN : w.1 (100 + e) ≤ w.1 1) : endW w e < lenW w := by
  unfold endW lenW
  have e1 := cntR_app (isBl w) (w.1 (100 + e)) (w.1 1 - w.1 (100 + e)) 0
  have e2 := cntR_strict (p := fun d => isBl w d && (decide (w.1 (100 + d) < w.1 (100 + e)) || (decide (w.1 (100 + d) = w.1 (100 + e)) && decide (e < d)))) (q := isBl w) (fun j hj => by
    simp only [Bool.and_eq_true] at hj
    exact hj.1) (m := e) (by simp) hb (w.1 (100 + e)) 0 (Nat.zero_le _) (by omega)
  rw [show w.1 (100 + e) + (w.1 1 - w.1 (100 + e)) = w.1 1 by omega] at e1
  omega
def LfX (M : Mem) (K : Co) (w : Wk) (i0 h : Nat) (L : Lf) : Prop := RepC M 0 K ∧ WkXR (fun c => M.1 c 0) w ∧ RepH M h L.1 ∧ CtX M i0 L.2.1 ∧ M.1 44 i0 2 = nI L.2.2.1 ∧ M.1 44 i0 7 = (if L.2.2.2 = 2 then 1 else 0)
def RFr (i0 h p : Nat) (M M' : Mem) : Prop := M'.2 = M.2 ∧ (∀ c i, ¬ ((c = 44 ∨ c = 45) ∧ i = i0) → ¬ (i = h ∧ (c = 20 ∨ c = 21 ∨ c = 22)) → M'.1 c i = M.1 c i) ∧ ∀ j, j < p → M'.1 45 i0 j = M.1 45 i0 j
set_option maxHeartbeats 400000 in
theorem RFr.rf {i0 h p : Nat} {M : Mem} : RFr i0 h p M M := ⟨rfl, fun _ _ _ _ => rfl, fun _ _ => rfl⟩
set_option maxHeartbeats 400000 in
theorem RFr.tr {i0 h p : Nat} {M M1 M2 : Mem} (a : RFr i0 h p M M1) (b : RFr i0 h p M1 M2) : RFr i0 h p M M2 := ⟨b.1.trans a.1, fun c i h1 h2 => (b.2.1 c i h1 h2).trans (a.2.1 c i h1 h2), fun j h => (b.2.2 j h).trans (a.2.2 j h)⟩
set_option maxHeartbeats 400000 in
theorem RFr.le {i0 h p q : Nat} {M M' : Mem} (hq : q ≤ p) (a : RFr i0 h p M M') : RFr i0 h q M M' := ⟨a.1, a.2.1, fun j h => a.2.2 j (by omega)⟩
set_option maxHeartbeats 400000 in
theorem DFr.r {i0 h p : Nat} {M M' : Mem} (f : DFr i0 h M M') : RFr i0 h p M M' := ⟨f.1, fun c i h1 h2 => f.2.1 c i (fun z => h1 ⟨Or.inl z.1, z.2⟩) h2, fun j _ => by rw [f.2.1 45 i0 (by omega) (by omega)]⟩
set_option maxHeartbeats 400000 in
theorem RFr.p44 {i0 h p q : Nat} {M : Mem} {v : Int32} : RFr i0 h p M (sR M 44 i0 (upd (M.1 44 i0) q v)) := ⟨rfl, fun c i h _ => sR_ne _ _ _ _ (fun z => h ⟨Or.inl z.1, z.2⟩), fun j _ => by rw [sR_ne _ _ _ _ (by omega)]⟩
set_option maxHeartbeats 400000 in
theorem RFr.p45 {i0 h p q : Nat} {M : Mem} {v : Int32} (hq : p ≤ q) : RFr i0 h p M (sR M 45 i0 (upd (M.1 45 i0) q v)) := ⟨rfl, fun c i h _ => sR_ne _ _ _ _ (fun z => h ⟨Or.inr z.1, z.2⟩), fun j hj => by rw [sR_at, upd_ne _ _ (by omega)]⟩
set_option maxHeartbeats 400000 in
theorem RFr.CW {i0 h p : Nat} {M M' : Mem} {K : Co} {w : Wk} (hh : h = 0 ∨ 4 ≤ h) (f : RFr i0 h p M M') (rc : RepC M 0 K) (rw_ : WkXR (fun c => M.1 c 0) w) : RepC M' 0 K ∧ WkXR (fun c => M'.1 c 0) w :=
  ⟨RepCR.congr (fun c h1 h2 => f.2.1 c 0 (by omega) (by omega)) rc, WkXR.congr (fun c h1 h2 => f.2.1 c 0 (by omega) (by omega)) rw_⟩
set_option maxHeartbeats 400000 in
theorem LfX.p45 {M : Mem} {K : Co} {w : Wk} {i0 h q : Nat} {v : Int32} {L : Lf} (hh : h = 0 ∨ 4 ≤ h) (x : LfX M K w i0 h L) : LfX (sR M 45 i0 (upd (M.1 45 i0) q v)) K w i0 h L := by
  obtain ⟨x1, x2, x3, x4, x5, x6⟩ := x
  have cw := (RFr.p45 (i0 := i0) (h := h) (p := 0) (q := q) (M := M) (v := v) (Nat.zero_le _)).CW hh x1 x2
  have e44 : (sR M 45 i0 (upd (M.1 45 i0) q v)).1 44 i0 = M.1 44 i0 := sR_ne _ _ _ _ (by omega)
  refine ⟨cw.1, cw.2, ?_, ?_, by rw [e44]; exact x5, by rw [e44]; exact x6⟩
  · unfold RepH at x3 ⊢
    rw [sR_ne _ _ _ _ (by omega), sR_ne _ _ _ _ (by omega), sR_ne _ _ _ _ (by omega)]
    exact x3
  · unfold CtX at x4 ⊢
    rw [e44]; exact x4
set_option maxHeartbeats 400000 in
theorem X4_holds_sp {M : Mem} {K : Co} {w : Wk} {s h : Nat} {A : Ha} (ok : OKC K) (okw : OKK K w) (hs : s < w.1 1) (hq : w.1 (10 + s) = 7) (o : okL K A) (rw_ : WkXR (fun c => M.1 c 0) w) (rh : RepH M h A) : f_X4_holds 0 h (nI (posW w s)) M = some (nB (isSoB K w s A)) := by
  have hp := posW_lt okw hs
  have k3 := ok.2.2.2.1
  have k2 := ok.2.2.1
  have g7 := (okw.2.2.2 s hs).2.2.2.2.2.2.2.2.2.2.2 hq
  have r7 := (rw_.2.2.2 s hs).2.2.2.2 hq
  have e56 : ∀ v, M.1 28 0 (posW w s) = w.2 1 s → M.1 27 0 (posW w s) = w.2 3 s → f_X4_holds_56 0 (nI (posW w s)) v M = some (nB (cmpB (w.2 3 s) v (w.2 1 s))) := by
    intro v h28 h27
    unfold f_X4_holds_56 cmpB
    rw [inb_nI_t hp (by decide), if_pos rfl, nI_clamp (by omega)]
    simp only
    rw [if_pos trivial, h27, h28]
    by_cases c1 : w.2 3 s = 60
    · rw [if_pos c1, if_pos c1]
      by_cases d : v < w.2 1 s
      · rw [if_pos d, decide_eq_true d]; rfl
      · rw [if_neg d, decide_eq_false d]; rfl
    · rw [if_neg c1, if_neg c1]
      by_cases c2 : w.2 3 s = 62
      · rw [if_pos c2, if_pos c2]
        by_cases d : w.2 1 s < v
        · rw [if_pos d, decide_eq_true d]; rfl
        · rw [if_neg d, decide_eq_false d]; rfl
      · rw [if_neg c2, if_neg c2]
        by_cases d : v = w.2 1 s
        · rw [if_pos d, decide_eq_true d]; rfl
        · rw [if_neg d, decide_eq_false d]; rfl
  unfold f_X4_holds isSoB
  rw [inb_nI_t hp (by decide), if_pos rfl, nI_clamp (by omega)]
  simp only
  rw [if_pos trivial]
  rcases g7.1 with c | c | c
  · obtain ⟨t1, t2, t3⟩ := r7.1 c
    rw [show M.1 25 0 (posW w s) = 26 from t1, if_neg (show ¬ (26 : Int32) = 7 by decide), if_pos trivial, if_pos (show (26 : Int32) = 26 from rfl), X3_guiltyVotes_sp rh o.1, Option.bind_some, e56 _ t2 t3, c, if_neg (show ¬ (0 : Int32) = 1 by decide), if_pos (show (0 : Int32) = 0 from rfl)]
  · obtain ⟨t1, t2⟩ := r7.2.1 c
    obtain ⟨v, hv, ev⟩ := g7.2.1 c
    rw [show M.1 25 0 (posW w s) = 7 from t1, if_pos (show (7 : Int32) = 7 from rfl), show M.1 26 0 (posW w s) = w.2 0 s from t2, show M.1 20 h 6 = nI (A.1 4) from rh.1 4 (by decide), if_pos c]
    by_cases d : nI (A.1 4) = w.2 0 s
    · rw [if_pos d, decide_eq_true d]; rfl
    · rw [if_neg d, decide_eq_false d]; rfl
  · obtain ⟨t1, t2, t3, t4⟩ := r7.2.2 c
    obtain ⟨q, hq3, eq⟩ := g7.2.2.1 c
    rw [show M.1 25 0 (posW w s) = 11 from t1, if_neg (show ¬ (11 : Int32) = 7 by decide), if_pos trivial, if_neg (show ¬ (11 : Int32) = 26 by decide), show M.1 26 0 (posW w s) = w.2 0 s from t2, eq, inb_nI_t (show q < 4 by omega) (by decide), if_pos rfl, nI_clamp (by omega), show M.1 22 h q = A.2.2 q from rh.2.2 q (by omega), e56 _ t3 t4, c, if_neg (show ¬ (2 : Int32) = 1 by decide), if_neg (show ¬ (2 : Int32) = 0 by decide), kN_of (by omega) eq]
noncomputable def goX (i0 h fu t row : Nat) (M : Mem) : Option Mem := f_X4_run_47 i0 0 h 0 fu (nI row) (nI t) M
def ResX (i0 h : Nat) (K : Co) (w : Wk) (p fu t row : Nat) (M : Mem) (L L' : Lf) (rb sl : Nat) : Prop := LOK K L' ∧ L.2.2.1 ≤ L'.2.2.1 ∧ ∃ M', LfX M' K w i0 h L' ∧ RFr i0 h p M M' ∧
  ((L'.2.2.2 = 0 ∧ ∃ fu' t', goX i0 h fu t row M = goX i0 h fu' t' rb M' ∧ fu' + t' = fu + t ∧ t' + 100 * L.2.2.1 ≤ t + sl + 100 * L'.2.2.1) ∨ (¬ L'.2.2.2 = 0 ∧ goX i0 h fu t row M = some M'))
-- what one turn is at the row of a step
set_option maxHeartbeats 400000 in
theorem turn_sp {M : Mem} {K : Co} {w : Wk} {i0 h s fu t : Nat} {A : Ha} {c : Nat → Int32} {dn : Nat} (okw : OKK K w) (hs : s < w.1 1) (x : LfX M K w i0 h (A, c, dn, 0)) (hdn : dn ≤ 300) (ht : t < 1000000) :
    goX i0 h (fu + 1) t (posW w s) M = if dn = 300 then f_X4_run_47 i0 0 h 0 fu (nI (posW w s)) (nI (t + 1)) (sR M 44 i0 (upd (M.1 44 i0) 7 (1 : Int32))) else
      if 7 ≤ w.1 (10 + s) then (f_X4_turns i0 0 h (nI (posW w s)) (sR M 44 i0 (upd (M.1 44 i0) 2 (nI (dn + 1))))).bind fun q => f_X4_run_47 i0 0 h 0 fu q.1 (nI (t + 1)) q.2
      else (f_X4_does i0 0 0 h (nI (posW w s)) (sR M 44 i0 (upd (M.1 44 i0) 2 (nI (dn + 1))))).bind fun q => goX i0 h fu (t + 1) (posW w s + 1) (sR q.2 44 i0 (upd (q.2.1 44 i0) 3 (c 1 + (if q.1 = 0 then 1 else 0)))) := by
  have hN := okw.2.1
  have hp := posW_lt okw hs
  have hl := posW_len hs
  have hll : lenW w ≤ 60 := by
    unfold lenW
    have := cntR_le (isBl w) (w.1 1) 0
    omega
  have h9 := (okw.2.2.2 s hs).1
  obtain ⟨rc, rw_, rh, ct, h2, h7⟩ := x
  have h7 : M.1 44 i0 7 = 0 := h7
  have h2 : M.1 44 i0 2 = nI dn := h2
  have h6 : M.1 23 0 6 = nI (lenW w) := rw_.2.2.1
  have h24 : M.1 24 0 (posW w s) = nI (codeW (w.1 (10 + s))) := (rw_.2.2.2 s hs).1
  have c1 : M.1 44 i0 3 = c 1 := ct.2.1
  unfold goX
  rw [f_X4_run_47, if_pos (show nI t < (1000000 : Int32) from by show _ < nI 1000000; rw [lt_nI (by omega) (by omega)]; exact ht), h6, if_pos (by rw [lt_nI (by omega) (by omega)]; exact hl), h7, if_pos rfl, inb_nI_t hp (by decide), if_pos rfl, nI_clamp (by omega)]
  simp only
  rw [h24, h2, show nI t + (1 : Int32) = nI (t + 1) from add_nI t 1, show nI dn + (1 : Int32) = nI (dn + 1) from add_nI dn 1]
  have m3 : (sR M 44 i0 (upd (M.1 44 i0) 2 (nI (dn + 1)))).1 44 i0 3 = c 1 := by rw [sR_at, upd_ne _ _ (by decide)]; exact c1
  have cd : ∀ q, q ≤ 9 → ¬ nI (codeW q) = (28 : Int32) := by decide
  rw [if_neg (cd _ h9)]
  by_cases d : dn = 300
  · rw [if_neg (show ¬ nI dn < (300 : Int32) from by show ¬ _ < nI 300; rw [lt_nI (by omega) (by omega)]; omega), if_pos d]
  · rw [if_pos (show nI dn < (300 : Int32) from by show _ < nI 300; rw [lt_nI (by omega) (by omega)]; omega), if_neg d]
    by_cases c7 : 7 ≤ w.1 (10 + s)
    · rw [if_pos c7]
      rcases (show w.1 (10 + s) = 7 ∨ w.1 (10 + s) = 8 ∨ w.1 (10 + s) = 9 by omega) with q | q | q
      · rw [q, if_pos (show nI (codeW 7) = (25 : Int32) from rfl)]
      · rw [q, if_neg (show ¬ nI (codeW 8) = (25 : Int32) by decide), if_pos (show nI (codeW 8) = (27 : Int32) from rfl)]
      · rw [q, if_neg (show ¬ nI (codeW 9) = (25 : Int32) by decide), if_neg (show ¬ nI (codeW 9) = (27 : Int32) by decide), if_pos (show nI (codeW 9) = (29 : Int32) from rfl)]
    · have k25 : ∀ q, q < 7 → ¬ nI (codeW q) = (25 : Int32) := by decide
      have k27 : ∀ q, q < 7 → ¬ nI (codeW q) = (27 : Int32) := by decide
      have k29 : ∀ q, q < 7 → ¬ nI (codeW q) = (29 : Int32) := by decide
      rw [if_neg c7, if_neg (k25 _ (by omega)), if_neg (k27 _ (by omega)), if_neg (k29 _ (by omega)), m3, show nI (posW w s) + (1 : Int32) = nI (posW w s + 1) from add_nI _ 1]
      congr 1
      funext q
      by_cases z : q.1 = 0
      · rw [if_pos z, if_pos z]
      · rw [if_neg z, if_neg z]
-- a turn at the end of a block
set_option maxHeartbeats 400000 in
theorem turnE_sp {M : Mem} {K : Co} {w : Wk} {i0 h s fu t : Nat} {L : Lf} (okw : OKK K w) (hs : s < w.1 1) (hb : isBl w s = true) (x : LfX M K w i0 h L) (h0 : L.2.2.2 = 0) (ht : t < 1000000) :
    goX i0 h (fu + 1) t (endW w s) M = if w.1 (10 + s) = 8 ∧ (1 : Int32) < M.1 45 i0 (posW w s) then goX i0 h fu (t + 1) (posW w s + 1) (sR M 45 i0 (upd (M.1 45 i0) (posW w s) (M.1 45 i0 (posW w s) - (1 : Int32)))) else goX i0 h fu (t + 1) (endW w s + 1) M := by
  have hN := okw.2.1
  have hp := posW_lt okw hs
  have he := endW_lt okw hs
  have g := okw.2.2.2 s hs
  have hl := endW_len hb g.2.1 g.2.2.1
  have hll : lenW w ≤ 60 := by
    unfold lenW
    have := cntR_le (isBl w) (w.1 1) 0
    omega
  obtain ⟨rc, rw_, rh, ct, h2, h7⟩ := x
  have h7 : M.1 44 i0 7 = 0 := by rw [h7, h0]; rfl
  have h6 : M.1 23 0 6 = nI (lenW w) := rw_.2.2.1
  have r := rw_.2.2.2 s hs
  obtain ⟨t1, t2, t3⟩ := r.2.1 hb
  have t2 : M.1 24 0 (endW w s) = 28 := t2
  have t3 : M.1 29 0 (endW w s) = nI (posW w s) := t3
  have h24 : M.1 24 0 (posW w s) = nI (codeW (w.1 (10 + s))) := r.1
  unfold goX
  rw [f_X4_run_47, if_pos (show nI t < (1000000 : Int32) from by show _ < nI 1000000; rw [lt_nI (by omega) (by omega)]; exact ht), h6, if_pos (by rw [lt_nI (by omega) (by omega)]; exact hl), h7, if_pos rfl, inb_nI_t he (by decide), if_pos rfl, nI_clamp (by omega)]
  simp only
  rw [t2, if_pos rfl, show nI t + (1 : Int32) = nI (t + 1) from add_nI t 1]
  unfold f_X4_passEnd
  rw [inb_nI_t he (by decide), if_pos rfl, nI_clamp (by omega), t3]
  simp only
  rw [inb_nI_t hp (by decide), if_pos rfl, nI_clamp (by omega), h24, show nI (endW w s) + (1 : Int32) = nI (endW w s + 1) from add_nI _ 1, show nI (posW w s) + (1 : Int32) = nI (posW w s + 1) from add_nI _ 1]
  have hk : w.1 (10 + s) = 7 ∨ w.1 (10 + s) = 8 := by
    unfold isBl at hb
    simpa using hb
  rcases hk with q | q
  · rw [q, if_neg (show ¬ nI (codeW 7) = (27 : Int32) by decide), Option.bind_some, if_neg (show ¬ ((7 : Nat) = 8 ∧ (1 : Int32) < M.1 45 i0 (posW w s)) from fun z => by cases z.1)]
  · rw [q, if_pos (show nI (codeW 8) = (27 : Int32) from rfl), if_pos rfl]
    by_cases c : (1 : Int32) < M.1 45 i0 (posW w s)
    · rw [if_pos c, if_pos (show (8 : Nat) = 8 ∧ (1 : Int32) < M.1 45 i0 (posW w s) from ⟨rfl, c⟩), if_pos rfl, if_pos rfl, Option.bind_some]
    · rw [if_neg c, if_neg (show ¬ ((8 : Nat) = 8 ∧ (1 : Int32) < M.1 45 i0 (posW w s)) from fun z => c z.2), Option.bind_some]
