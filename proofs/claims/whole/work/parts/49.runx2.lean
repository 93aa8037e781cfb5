/-! ===== the run of weeks: the class does as is said ===== -/
set_option maxHeartbeats 600000 in
theorem ResX.pre {i0 h : Nat} {K : Co} {w : Wk} {p fu t row fu1 t1 row1 rb sl sl1 : Nat} {M M1 : Mem} {L L1 L' : Lf} (e : goX i0 h fu t row M = goX i0 h fu1 t1 row1 M1) (hs : fu1 + t1 = fu + t) (f : RFr i0 h p M M1) (hd : L.2.2.1 ≤ L1.2.2.1) (hsl : t1 + sl1 + 100 * L.2.2.1 ≤ t + sl + 100 * L1.2.2.1) (r : ResX i0 h K w p fu1 t1 row1 M1 L1 L' rb sl1) : ResX i0 h K w p fu t row M L L' rb sl := by
  obtain ⟨o, d, M', x, f', r⟩ := r
  refine ⟨o, by omega, M', x, f.tr f', ?_⟩
  rcases r with ⟨z, fu', t', g1, g2, g3⟩ | ⟨z, g⟩
  · exact Or.inl ⟨z, fu', t', e.trans g1, by omega, by omega⟩
  · exact Or.inr ⟨z, e.trans g⟩
set_option maxHeartbeats 600000 in
theorem ResX.post {i0 h : Nat} {K : Co} {w : Wk} {p fu t row r1 rb sl sl1 sl2 : Nat} {M : Mem} {L L1 L' : Lf} (r : ResX i0 h K w p fu t row M L L1 r1 sl1) (h1 : ¬ L1.2.2.2 = 0 → L' = L1) (hsl : sl1 + sl2 ≤ sl)
    (h2 : L1.2.2.2 = 0 → ∀ fu1 t1 M1, LfX M1 K w i0 h L1 → LOK K L1 → L.2.2.1 ≤ L1.2.2.1 → RFr i0 h p M M1 → fu1 + t1 = fu + t → t1 + 100 * L.2.2.1 ≤ t + sl1 + 100 * L1.2.2.1 → ResX i0 h K w p fu1 t1 r1 M1 L1 L' rb sl2) : ResX i0 h K w p fu t row M L L' rb sl := by
  obtain ⟨o, d, M1, x, f, r⟩ := r
  rcases r with ⟨z, fu1, t1, g1, g2, g3⟩ | ⟨z, g⟩
  · obtain ⟨o', d', M', x', f', r'⟩ := h2 z fu1 t1 M1 x o d f g2 g3
    refine ⟨o', by omega, M', x', f.tr f', ?_⟩
    rcases r' with ⟨z', fu', t', k1, k2, k3⟩ | ⟨z', k⟩
    · exact Or.inl ⟨z', fu', t', g1.trans k1, by omega, by omega⟩
    · exact Or.inr ⟨z', g1.trans k⟩
  · rw [h1 z]
    exact ⟨o, d, M1, x, f, Or.inr ⟨z, g⟩⟩
set_option maxHeartbeats 600000 in
theorem ResX.le {i0 h : Nat} {K : Co} {w : Wk} {p q fu t row rb sl : Nat} {M : Mem} {L L' : Lf} (hq : q ≤ p) (r : ResX i0 h K w p fu t row M L L' rb sl) : ResX i0 h K w q fu t row M L L' rb sl := by
  obtain ⟨o, d, M', x, f, r⟩ := r
  exact ⟨o, d, M', x, f.le hq, r⟩
set_option maxHeartbeats 600000 in
theorem ResX.rf {i0 h : Nat} {K : Co} {w : Wk} {p fu t row : Nat} {M : Mem} {L : Lf} (x : LfX M K w i0 h L) (o : LOK K L) (h0 : L.2.2.2 = 0) : ResX i0 h K w p fu t row M L L row 0 :=
  ⟨o, Nat.le_refl _, M, x, RFr.rf, Or.inl ⟨h0, fu, t, rfl, rfl, by omega⟩⟩
set_option maxHeartbeats 600000 in
theorem loopS_over {rec : Nat → Nat → Lf → Lf} {a b : Nat} {L : Lf} (h : ¬ L.2.2.2 = 0) : ∀ n, loopS rec a b n L = L
  | 0 => rfl
  | n + 1 => if_neg h
set_option maxHeartbeats 600000 in
theorem allS_over {K : Co} {w : Wk} {rec : Nat → Nat → Lf → Lf} {b : Nat} {L : Lf} (h : ¬ L.2.2.2 = 0) : ∀ k s, allS K w rec b k s L = L
  | 0, _ => rfl
  | k + 1, s => if_neg (fun z => h z.2)
set_option maxHeartbeats 600000 in
theorem loop_x {K : Co} {w : Wk} {i0 h a e : Nat} {recS : Nat → Nat → Lf → Lf} (okw : OKK K w) (hh : h = 0 ∨ 4 ≤ h) (he : e < w.1 1) (ha : a ≤ e) (hq : w.1 (10 + e) = 8) (hP : ∀ d, a ≤ d → d < e → isBl w d = true → w.1 (100 + d) ≤ e)
    (hrec : ∀ (M : Mem) (L : Lf) (fu t : Nat), LfX M K w i0 h L → LOK K L → L.2.2.2 = 0 → t + 100 * (300 - L.2.2.1) ≤ 100000 → 200000 ≤ fu + t → ResX i0 h K w (posW w (e + 1)) fu t (rowT w (e + 1) (e + 1)) M L (recS (e + 1) (w.1 (100 + e)) L) (rowT w (e + 1) (w.1 (100 + e))) 0) : ∀ (k : Nat) (M : Mem) (L : Lf) (fu t : Nat), k + 1 ≤ 99 → LfX M K w i0 h L → LOK K L → L.2.2.2 = 0 → M.1 45 i0 (posW w e) = nI (k + 1) → t + (k + 1) + 100 * (300 - L.2.2.1) ≤ 100000 → 200000 ≤ fu + t →
    ResX i0 h K w (posW w e) fu t (rowT w (e + 1) (e + 1)) M L (loopS recS (e + 1) (w.1 (100 + e)) (k + 1) L) (rowT w a (w.1 (100 + e))) (k + 1)
  | k, M, L, fu, t, hk, x, o, h0, h45, ht, hf => by
    have hb : isBl w e = true := by unfold isBl; rw [hq]; rfl
    have g := okw.2.2.2 e he
    have hm := posW_mono (w := w) (show e < e + 1 by omega)
    have r := (hrec M L fu t x o h0 (by omega) hf).le (Nat.le_of_lt hm)
    have r' := hrec M L fu t x o h0 (by omega) hf
    have es : loopS recS (e + 1) (w.1 (100 + e)) (k + 1) L = loopS recS (e + 1) (w.1 (100 + e)) k (recS (e + 1) (w.1 (100 + e)) L) := if_pos h0
    rw [es]
    -- the frame that keeps the row's own count
    obtain ⟨o1, d1, M1, x1, f1, r1⟩ := r'
    have ho1 := o1.2
    refine ⟨?_, ?_⟩
    · rcases r1 with ⟨z, fu1, t1, g1, g2, g3⟩ | ⟨z, g1⟩
      · have e45 : M1.1 45 i0 (posW w e) = nI (k + 1) := by rw [f1.2.2 _ hm]; exact h45
        obtain ⟨fu2, rfl⟩ : ∃ fu2, fu1 = fu2 + 1 := ⟨fu1 - 1, by omega⟩
        have te := turnE_sp (fu := fu2) (t := t1) okw he hb x1 z (by omega)
        cases k with
        | zero => exact o1
        | succ k =>
          have ih := loop_x okw hh he ha hq hP hrec k (sR M1 45 i0 (upd (M1.1 45 i0) (posW w e) (nI (k + 1)))) (recS (e + 1) (w.1 (100 + e)) L) fu2 (t1 + 1) (by omega) (x1.p45 hh) o1 z (by rw [sR_at, upd_at]) (by omega) (by omega)
          exact ih.1
      · rw [loopS_over z]; exact o1
    · rcases r1 with ⟨z, fu1, t1, g1, g2, g3⟩ | ⟨z, g1⟩
      · have e45 : M1.1 45 i0 (posW w e) = nI (k + 1) := by rw [f1.2.2 _ hm]; exact h45
        obtain ⟨fu2, rfl⟩ : ∃ fu2, fu1 = fu2 + 1 := ⟨fu1 - 1, by omega⟩
        have te := turnE_sp (fu := fu2) (t := t1) okw he hb x1 z (by omega)
        rw [e45, hq] at te
        rw [endW_rowT] at g1
        cases k with
        | zero =>
          rw [if_neg (show ¬ ((8 : Nat) = 8 ∧ (1 : Int32) < nI (0 + 1)) by decide)] at te
          refine ⟨d1, M1, x1, f1.le (Nat.le_of_lt hm), Or.inl ⟨z, fu2, t1 + 1, ?_, by omega, ?_⟩⟩
          · rw [rowT_end hb ha g.2.1 hP]; exact g1.trans te
          · show t1 + 1 + 100 * L.2.2.1 ≤ t + (0 + 1) + 100 * (recS (e + 1) (w.1 (100 + e)) L).2.2.1
            omega
        | succ k =>
          rw [if_pos (show (8 : Nat) = 8 ∧ (1 : Int32) < nI (k + 1 + 1) from ⟨rfl, by show nI 1 < _; rw [lt_nI (by omega) (by omega)]; omega⟩), show nI (k + 1 + 1) - (1 : Int32) = nI (k + 1) from sub_nI (a := k + 1 + 1) (b := 1) (by omega)] at te
          have ih := loop_x okw hh he ha hq hP hrec k (sR M1 45 i0 (upd (M1.1 45 i0) (posW w e) (nI (k + 1)))) (recS (e + 1) (w.1 (100 + e)) L) fu2 (t1 + 1) (by omega) (x1.p45 hh) o1 z (by rw [sR_at, upd_at]) (by omega) (by omega)
          rw [← rowT_body g.2.1] at te
          have := ResX.pre (L := L) (sl := k + 1 + 1) (g1.trans te) (by omega) ((f1.le (Nat.le_of_lt hm)).tr (RFr.p45 (Nat.le_refl _))) d1 (by omega) ih
          exact this.2
      · rw [loopS_over z]
        exact ⟨d1, M1, x1, f1.le (Nat.le_of_lt hm), Or.inr ⟨z, g1⟩⟩
set_option maxHeartbeats 600000 in
theorem one_x {K : Co} {w : Wk} {i0 h a e : Nat} {recS : Nat → Nat → Lf → Lf} (ok : OKC K) (okw : OKK K w) (hh : h = 0 ∨ 4 ≤ h) (he : e < w.1 1) (ha : a ≤ e) (hP : ∀ d, a ≤ d → d < e → isBl w d = true → w.1 (100 + d) ≤ e)
    (hrec : isBl w e = true → ∀ (M : Mem) (L : Lf) (fu t : Nat), LfX M K w i0 h L → LOK K L → L.2.2.2 = 0 → t + 100 * (300 - L.2.2.1) ≤ 100000 → 200000 ≤ fu + t → ResX i0 h K w (posW w (e + 1)) fu t (rowT w (e + 1) (e + 1)) M L (recS (e + 1) (w.1 (100 + e)) L) (rowT w (e + 1) (w.1 (100 + e))) 0) {M : Mem} {L : Lf} {fu t : Nat} (x : LfX M K w i0 h L) (o : LOK K L) (h0 : L.2.2.2 = 0) (ht : t + 100 * (300 - L.2.2.1) ≤ 100000) (hf : 200000 ≤ fu + t) :
    ResX i0 h K w (posW w e) fu t (posW w e) M L (oneS K w recS e L) (rowT w a (w.1 (100 + e))) 0 := by
  obtain ⟨A, c, dn, ov⟩ := L
  have h0 : ov = 0 := h0
  subst h0
  have hdn : dn ≤ 300 := o.2
  have oA : okL K A := o.1
  replace ht : t + 100 * (300 - dn) ≤ 100000 := ht
  have hp := posW_lt okw he
  have hl := posW_len he
  have hN := okw.2.1
  have hll : lenW w ≤ 60 := by
    unfold lenW
    have := cntR_le (isBl w) (w.1 1) 0
    omega
  have h9 := (okw.2.2.2 e he).1
  have ge1 := (okw.2.2.2 e he).2.1
  have hm := posW_mono (w := w) (show e < e + 1 by omega)
  obtain ⟨fu1, rfl⟩ : ∃ fu1, fu = fu1 + 1 := ⟨fu - 1, by omega⟩
  have tu := turn_sp (fu := fu1) (t := t) okw he x hdn (by omega)
  obtain ⟨rc, rw_, rh, ct, h2, h7⟩ := x
  have rh : RepH M h A := rh
  have ct : CtX M i0 c := ct
  have h7 : M.1 44 i0 7 = 0 := h7
  have h2 : M.1 44 i0 2 = nI dn := h2
  have r := rw_.2.2.2 e he
  unfold oneS
  simp only
  by_cases cd : dn = 300
  · rw [if_pos cd]
    rw [if_pos cd] at tu
    have cw := (RFr.p44 (i0 := i0) (h := h) (p := posW w e) (q := 7) (M := M) (v := 1)).CW hh rc rw_
    have x1 : LfX (sR M 44 i0 (upd (M.1 44 i0) 7 (1 : Int32))) K w i0 h (A, c, 300, 2) := by
      refine ⟨cw.1, cw.2, DFr.H rh, ?_, ?_, ?_⟩
      · unfold CtX
        rw [sR_at, upd_ne _ _ (by decide), upd_ne _ _ (by decide), upd_ne _ _ (by decide), upd_ne _ _ (by decide), upd_ne _ _ (by decide)]
        exact ct
      · rw [sR_at, upd_ne _ _ (by decide), h2, cd]
      · rw [sR_at, upd_at]; rfl
    refine ⟨⟨oA, Nat.le_refl _⟩, by show dn ≤ 300; omega, _, x1, RFr.p44, Or.inr ⟨by show ¬ (2 : Nat) = 0; decide, ?_⟩⟩
    obtain ⟨fu2, rfl⟩ : ∃ fu2, fu1 = fu2 + 1 := ⟨fu1 - 1, by omega⟩
    rw [tu, f_X4_run_47, if_pos (show nI (t + 1) < (1000000 : Int32) from by show _ < nI 1000000; rw [lt_nI (by omega) (by omega)]; omega), show (sR M 44 i0 (upd (M.1 44 i0) 7 (1 : Int32))).1 23 0 6 = nI (lenW w) from cw.2.2.2.1, if_pos (by rw [lt_nI (by omega) (by omega)]; exact hl), sR_at, upd_at, if_neg (by decide)]
  · rw [if_neg cd]
    rw [if_neg cd] at tu
    have F1 : RFr i0 h (posW w e) M (sR M 44 i0 (upd (M.1 44 i0) 2 (nI (dn + 1)))) := RFr.p44
    have cw := F1.CW hh rc rw_
    have rh1 : RepH (sR M 44 i0 (upd (M.1 44 i0) 2 (nI (dn + 1)))) h A := DFr.H rh
    have ct1 : CtX (sR M 44 i0 (upd (M.1 44 i0) 2 (nI (dn + 1)))) i0 c := by
      unfold CtX
      rw [sR_at, upd_ne _ _ (by decide), upd_ne _ _ (by decide), upd_ne _ _ (by decide), upd_ne _ _ (by decide), upd_ne _ _ (by decide)]
      exact ct
    have g2 : (sR M 44 i0 (upd (M.1 44 i0) 2 (nI (dn + 1)))).1 44 i0 2 = nI (dn + 1) := by rw [sR_at, upd_at]
    have g7 : (sR M 44 i0 (upd (M.1 44 i0) 2 (nI (dn + 1)))).1 44 i0 7 = 0 := by rw [sR_at, upd_ne _ _ (by decide)]; exact h7
    generalize sR M 44 i0 (upd (M.1 44 i0) 2 (nI (dn + 1))) = M1 at *
    have x1 : LfX M1 K w i0 h (A, c, dn + 1, 0) := ⟨cw.1, cw.2, rh1, ct1, g2, g7⟩
    have o1 : LOK K (A, c, dn + 1, 0) := ⟨oA, by show dn + 1 ≤ 300; omega⟩
    have r1 := cw.2.2.2.2 e he
    have h24 : M1.1 24 0 (posW w e) = nI (codeW (w.1 (10 + e))) := r1.1
    by_cases c7 : w.1 (10 + e) < 7
    · rw [if_pos c7]
      rw [if_neg (by omega)] at tu
      obtain ⟨hao, hk⟩ := arg_of ok okw he c7
      have hbl : isBl w e = false := by
        unfold isBl
        simp
        omega
      have h24' : M1.1 24 0 (posW w e) = nI (18 + w.1 (10 + e)) := by
        rw [h24]
        unfold codeW
        rw [if_pos c7]
      obtain ⟨M2, e2, r2, c2, f2⟩ := X4_does_sp (M := M1) (h := h) (i0 := i0) ok c7 hao oA hp h24' (fun a b => (r1.2.2.1 (by omega) a b (by omega)).trans (hk a b)) (fun q => r1.2.2.2.1 q) cw.1 rh1 ct1
      have okA := doR_ok (c := c) ok hao oA
      have fin : ∀ y : Int32, LfX (sR M2 44 i0 (upd (M2.1 44 i0) 3 y)) K w i0 h ((doR K (w.1 (10 + e)) (kN w e) (w.2 1 e) A c).2.1, upd (doR K (w.1 (10 + e)) (kN w e) (w.2 1 e) A c).2.2 1 y, dn + 1, 0) := by
        intro y
        have f : RFr i0 h (posW w e) M1 (sR M2 44 i0 (upd (M2.1 44 i0) 3 y)) := f2.r.tr RFr.p44
        have cw2 := f.CW hh cw.1 cw.2
        refine ⟨cw2.1, cw2.2, DFr.H r2, ?_, ?_, ?_⟩
        · obtain ⟨k0, k1, k2, k3, k4⟩ := c2
          refine ⟨?_, ?_, ?_, ?_, ?_⟩
          · rw [sR_at, upd_ne _ _ (by decide), k0]; exact (upd_ne (i := 1) (j := 0) (doR K (w.1 (10 + e)) (kN w e) (w.2 1 e) A c).2.2 y (by decide)).symm
          · rw [sR_at, upd_at]; exact (upd_at (doR K (w.1 (10 + e)) (kN w e) (w.2 1 e) A c).2.2 1 y).symm
          · rw [sR_at, upd_ne _ _ (by decide), k2]; exact (upd_ne (i := 1) (j := 2) (doR K (w.1 (10 + e)) (kN w e) (w.2 1 e) A c).2.2 y (by decide)).symm
          · rw [sR_at, upd_ne _ _ (by decide), k3]; exact (upd_ne (i := 1) (j := 3) (doR K (w.1 (10 + e)) (kN w e) (w.2 1 e) A c).2.2 y (by decide)).symm
          · rw [sR_at, upd_ne _ _ (by decide), k4]; exact (upd_ne (i := 1) (j := 4) (doR K (w.1 (10 + e)) (kN w e) (w.2 1 e) A c).2.2 y (by decide)).symm
        · rw [sR_at, upd_ne _ _ (by decide), f2.2.2 2 (by omega)]; exact g2
        · rw [sR_at, upd_ne _ _ (by decide), f2.2.2 7 (by omega)]; exact g7
      have ey : c 1 + (if nB (doR K (w.1 (10 + e)) (kN w e) (w.2 1 e) A c).1 = 0 then 1 else 0) = c 1 + (if (doR K (w.1 (10 + e)) (kN w e) (w.2 1 e) A c).1 = true then 0 else 1) := by
        cases (doR K (w.1 (10 + e)) (kN w e) (w.2 1 e) A c).1 <;> rfl
      rw [e2, Option.bind_some] at tu
      simp only at tu
      rw [ey] at tu
      rw [(okw.2.2.2 e he).2.2.2.1 hbl, rowT_simple hbl hP]
      refine ⟨⟨okA, by show dn + 1 ≤ 300; omega⟩, by show dn ≤ dn + 1; omega, _, fin _, F1.tr (f2.r.tr RFr.p44), Or.inl ⟨rfl, fu1, t + 1, tu, by omega, by show t + 1 + 100 * dn ≤ t + 0 + 100 * (dn + 1); omega⟩⟩
    · rw [if_neg c7]
      rw [if_pos (by omega)] at tu
      rcases (show w.1 (10 + e) = 7 ∨ w.1 (10 + e) = 8 ∨ w.1 (10 + e) = 9 by omega) with q | q | q
      · have hb : isBl w e = true := by unfold isBl; rw [q]; rfl
        have h29 : M1.1 29 0 (posW w e) = nI (endW w e) := (r1.2.1 hb).1
        have eh := X4_holds_sp ok okw he q oA cw.2 rh1
        have et : f_X4_turns i0 0 h (nI (posW w e)) M1 = some (if isSoB K w e A = true then nI (posW w e + 1) else nI (endW w e + 1), M1) := by
          unfold f_X4_turns
          rw [inb_nI_t hp (by decide), if_pos rfl, nI_clamp (by omega), h24, q, if_neg (show ¬ nI (codeW 7) = (29 : Int32) by decide), if_pos rfl, if_neg (show ¬ nI (codeW 7) = (27 : Int32) by decide), eh, Option.bind_some, if_pos rfl, h29, show nI (posW w e) + (1 : Int32) = nI (posW w e + 1) from add_nI _ 1, show nI (endW w e) + (1 : Int32) = nI (endW w e + 1) from add_nI _ 1]
          cases isSoB K w e A <;> rfl
        rw [et, Option.bind_some] at tu
        rw [if_pos q]
        cases hb2 : isSoB K w e A with
        | false =>
          rw [hb2] at tu
          rw [if_neg (by decide)]
          rw [rowT_end hb ha ge1 hP]
          exact ⟨o1, by show dn ≤ dn + 1; omega, M1, x1, F1, Or.inl ⟨rfl, fu1, t + 1, tu, by omega, by show t + 1 + 100 * dn ≤ t + 0 + 100 * (dn + 1); omega⟩⟩
        | true =>
          rw [hb2] at tu
          rw [if_pos rfl]
          have tu : goX i0 h (fu1 + 1) t (posW w e) M = goX i0 h fu1 (t + 1) (rowT w (e + 1) (e + 1)) M1 := by rw [rowT_body ge1]; exact tu
          have rb := (hrec hb M1 (A, c, dn + 1, 0) fu1 (t + 1) x1 o1 rfl (by show t + 1 + 100 * (300 - (dn + 1)) ≤ _; omega) (by omega)).le (Nat.le_of_lt hm)
          have rb2 : ResX i0 h K w (posW w e) fu1 (t + 1) (rowT w (e + 1) (e + 1)) M1 (A, c, dn + 1, 0) (recS (e + 1) (w.1 (100 + e)) (A, c, dn + 1, 0)) (rowT w a (w.1 (100 + e))) 1 := by
            refine rb.post (sl1 := 0) (sl2 := 1) (fun _ => rfl) (by omega) (fun z fu2 t2 M2 x2 o2 d2 f2 k1 k2 => ?_)
            have d2 : dn + 1 ≤ (recS (e + 1) (w.1 (100 + e)) (A, c, dn + 1, 0)).2.2.1 := d2
            have k2 : t2 + 100 * (dn + 1) ≤ t + 1 + 0 + 100 * (recS (e + 1) (w.1 (100 + e)) (A, c, dn + 1, 0)).2.2.1 := k2
            have ho2 := o2.2
            obtain ⟨fu3, rfl⟩ : ∃ fu3, fu2 = fu3 + 1 := ⟨fu2 - 1, by omega⟩
            have te := turnE_sp (fu := fu3) (t := t2) okw he hb x2 z (by omega)
            rw [if_neg (fun y => by rw [q] at y; cases y.1)] at te
            rw [endW_rowT, rowT_end hb ha ge1 hP]
            exact ⟨o2, Nat.le_refl _, M2, x2, RFr.rf, Or.inl ⟨z, fu3, t2 + 1, te, by omega, by omega⟩⟩
          exact ResX.pre tu (by omega) F1 (by show dn ≤ dn + 1; omega) (by show t + 1 + 1 + 100 * dn ≤ t + 0 + 100 * (dn + 1); omega) rb2
      · have hb : isBl w e = true := by unfold isBl; rw [q]; rfl
        obtain ⟨n, n1, n2, en⟩ := (okw.2.2.2 e he).2.2.2.2.2.2.2.2.1 (Or.inr q)
        have hkn : kN w e = n := kN_of (by omega) en
        have h25 : M1.1 25 0 (posW w e) = nI n := (r1.2.2.1 (by omega) (by omega) (by omega) (by omega)).trans en
        have et : f_X4_turns i0 0 h (nI (posW w e)) M1 = some (nI (posW w e + 1), sR M1 45 i0 (upd (M1.1 45 i0) (posW w e) (nI n))) := by
          unfold f_X4_turns
          rw [inb_nI_t hp (by decide), if_pos rfl, nI_clamp (by omega), h24, q, if_neg (show ¬ nI (codeW 8) = (29 : Int32) by decide), if_pos rfl, if_pos (show nI (codeW 8) = (27 : Int32) from rfl), if_pos rfl, if_pos rfl, h25, show nI (posW w e) + (1 : Int32) = nI (posW w e + 1) from add_nI _ 1]
        rw [et, Option.bind_some] at tu
        rw [if_neg (by omega), if_pos q, hkn]
        have tu : goX i0 h (fu1 + 1) t (posW w e) M = goX i0 h fu1 (t + 1) (rowT w (e + 1) (e + 1)) (sR M1 45 i0 (upd (M1.1 45 i0) (posW w e) (nI n))) := by rw [rowT_body ge1]; exact tu
        obtain ⟨k, rfl⟩ : ∃ k, n = k + 1 := ⟨n - 1, by omega⟩
        have rl := loop_x okw hh he ha q hP (hrec hb) k (sR M1 45 i0 (upd (M1.1 45 i0) (posW w e) (nI (k + 1)))) (A, c, dn + 1, 0) fu1 (t + 1) n2 (x1.p45 hh) o1 rfl (by rw [sR_at, upd_at]) (by show t + 1 + (k + 1) + 100 * (300 - (dn + 1)) ≤ _; omega) (by omega)
        exact ResX.pre tu (by omega) (F1.tr (RFr.p45 (Nat.le_refl _))) (by show dn ≤ dn + 1; omega) (by show t + 1 + (k + 1) + 100 * dn ≤ t + 0 + 100 * (dn + 1); omega) rl
      · have et : f_X4_turns i0 0 h (nI (posW w e)) M1 = some (nI (lenW w), M1) := by
          unfold f_X4_turns
          rw [inb_nI_t hp (by decide), if_pos rfl, nI_clamp (by omega), h24, q, if_pos (show nI (codeW 9) = (29 : Int32) from rfl), show M1.1 23 0 6 = nI (lenW w) from cw.2.2.2.1]
        rw [et, Option.bind_some] at tu
        rw [if_neg (by omega), if_neg (by omega)]
        obtain ⟨fu2, rfl⟩ : ∃ fu2, fu1 = fu2 + 1 := ⟨fu1 - 1, by omega⟩
        refine ⟨⟨oA, by show dn + 1 ≤ 300; omega⟩, by show dn ≤ dn + 1; omega, M1, ⟨cw.1, cw.2, rh1, ct1, g2, g7⟩, F1, Or.inr ⟨by show ¬ (1 : Nat) = 0; decide, ?_⟩⟩
        rw [tu, f_X4_run_47, if_pos (show nI (t + 1) < (1000000 : Int32) from by show _ < nI 1000000; rw [lt_nI (by omega) (by omega)]; omega), show M1.1 23 0 6 = nI (lenW w) from cw.2.2.2.1, if_neg (by rw [lt_nI (by omega) (by omega)]; omega)]
set_option maxHeartbeats 600000 in
theorem all_x {K : Co} {w : Wk} {i0 h a b : Nat} {recS : Nat → Nat → Lf → Lf} (ok : OKC K) (okw : OKK K w) (hh : h = 0 ∨ 4 ≤ h) (hab : a ≤ b) (hb : b ≤ w.1 1) (R1 : ∀ d, d < a → isBl w d = true → w.1 (100 + d) < a ∨ b ≤ w.1 (100 + d)) (R2 : ∀ e, a ≤ e → e < b → w.1 (100 + e) ≤ b)
    (hrec : ∀ (e : Nat) (M : Mem) (L : Lf) (fu t : Nat), a ≤ e → e < b → isBl w e = true → LfX M K w i0 h L → LOK K L → L.2.2.2 = 0 → t + 100 * (300 - L.2.2.1) ≤ 100000 → 200000 ≤ fu + t → ResX i0 h K w (posW w (e + 1)) fu t (rowT w (e + 1) (e + 1)) M L (recS (e + 1) (w.1 (100 + e)) L) (rowT w (e + 1) (w.1 (100 + e))) 0) : ∀ (k e : Nat) (M : Mem) (L : Lf) (fu t : Nat), a ≤ e → e ≤ b → b ≤ e + k → (∀ d, a ≤ d → d < e → isBl w d = true → w.1 (100 + d) ≤ e) → LfX M K w i0 h L → LOK K L → L.2.2.2 = 0 → t + 100 * (300 - L.2.2.1) ≤ 100000 → 200000 ≤ fu + t →
    ResX i0 h K w (posW w a) fu t (rowT w a e) M L (allS K w recS b k e L) (rowT w a b) 0
  | 0, e, M, L, fu, t, h1, h2, h3, hP, x, o, h0, ht, hf => by
    have : e = b := by omega
    subst this
    exact ResX.rf x o h0
  | k + 1, e, M, L, fu, t, h1, h2, h3, hP, x, o, h0, ht, hf => by
    have es : allS K w recS b (k + 1) e L = if e < b ∧ L.2.2.2 = 0 then allS K w recS b k (w.1 (100 + e)) (oneS K w recS e L) else L := rfl
    rw [es]
    by_cases c : e < b
    · rw [if_pos ⟨c, h0⟩]
      have heN : e < w.1 1 := by omega
      have ge1 := (okw.2.2.2 e heN).2.1
      have gN := (okw.2.2.2 e heN).2.2.2.1
      have gB := (okw.2.2.2 e heN).2.2.2.2.1
      have hpe : posW w a ≤ posW w e := by
        rcases Nat.lt_or_ge a e with z | z
        · exact Nat.le_of_lt (posW_mono z)
        · rw [show a = e by omega]; exact Nat.le_refl _
      have er : rowT w a e = posW w e := rowT_pos h1 (fun d hd hbl => by
        have := R1 d hd hbl
        omega)
      have hR2 := R2 e h1 c
      have r := (one_x (i0 := i0) (recS := recS) (fu := fu) (t := t) (M := M) (L := L) ok okw hh (show e < w.1 1 by omega) h1 hP (fun hbl M L fu t => hrec e M L fu t h1 c hbl) x o h0 ht hf).le hpe
      rw [er]
      refine r.post (sl1 := 0) (sl2 := 0) (fun z => allS_over z _ _) (by omega) (fun z fu1 t1 M1 x1 o1 d1 f1 k1 k2 => ?_)
      have ho1 := o1.2
      refine all_x ok okw hh hab hb R1 R2 hrec k (w.1 (100 + e)) M1 _ fu1 t1 (by omega) hR2 (by omega) (fun d hd1 hd2 hbd => ?_) x1 o1 z (by omega) (by omega)
      rcases Nat.lt_trichotomy d e with y | y | y
      · have := hP d hd1 y hbd; omega
      · rw [y]; exact Nat.le_refl _
      · cases hbl : isBl w e with
        | true => exact gB hbl d y hd2
        | false =>
          rw [gN hbl] at hd2
          omega
    · rw [if_neg (fun z => c z.1)]
      have : e = b := by omega
      subst this
      exact ResX.rf x o h0
set_option maxHeartbeats 600000 in
theorem run_x {K : Co} {w : Wk} {i0 h : Nat} (ok : OKC K) (okw : OKK K w) (hh : h = 0 ∨ 4 ≤ h) : ∀ (d a b : Nat) (M : Mem) (L : Lf) (fu t : Nat), w.1 1 < d + a → a ≤ b → b ≤ w.1 1 → (∀ d, d < a → isBl w d = true → w.1 (100 + d) < a ∨ b ≤ w.1 (100 + d)) → (∀ e, a ≤ e → e < b → w.1 (100 + e) ≤ b) → LfX M K w i0 h L → LOK K L → L.2.2.2 = 0 → t + 100 * (300 - L.2.2.1) ≤ 100000 → 200000 ≤ fu + t →
    ResX i0 h K w (posW w a) fu t (rowT w a a) M L (runS K w d a b L) (rowT w a b) 0
  | 0, a, b, M, L, fu, t, hd, hab, hb, _, _, _, _, _, _, _ => by omega
  | d + 1, a, b, M, L, fu, t, hd, hab, hb, R1, R2, x, o, h0, ht, hf => by
    refine all_x ok okw hh hab hb R1 R2 (fun e M L fu t h1 h2 hbl x o h0 ht hf => ?_) (b - a) a M L fu t (Nat.le_refl _) hab (by omega) (fun d h1 h2 _ => by omega) x o h0 ht hf
    have g := okw.2.2.2 e (by omega)
    have g1 := g.2.1
    refine run_x ok okw hh d (e + 1) (w.1 (100 + e)) M L fu t (by omega) g1 g.2.2.1 (fun q hq hbq => ?_) (fun y hy1 hy2 => g.2.2.2.2.1 hbl y (by omega) hy2) x o h0 ht hf
    by_cases c : q = e
    · right; rw [c]; exact Nat.le_refl _
    · by_cases c2 : w.1 (100 + q) ≤ e
      · left; omega
      · right
        exact (okw.2.2.2 q (by omega)).2.2.2.2.1 hbq e (by omega) (by omega)
