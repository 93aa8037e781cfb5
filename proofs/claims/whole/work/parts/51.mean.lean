/-! ===== calls on both: mean ===== -/
def endA (K : Co) (w : Wk) (A : Ha) (sd : Nat) : Lf := runS K w 40 0 (w.1 1) (L0 A (nI sd))
def meanS (K : Co) (w : Wk) (A : Ha) (q sd : Nat) : Nat → Nat → Int64 → Int64
  | 0, _, a => a
  | k + 1, i, a => meanS K w A q sd k (i + 1) (a + ((endA K w A (sd + i)).1.2.2 q).toInt64)
def VFr (M M' : Mem) : Prop := M'.2 = M.2 ∧ ∀ c i, ¬ ((c = 44 ∨ c = 45) ∧ i = 1) → ¬ (i = 4 ∧ (c = 20 ∨ c = 21 ∨ c = 22)) → M'.1 c i = M.1 c i
set_option maxHeartbeats 600000 in
theorem VFr.rf {M : Mem} : VFr M M := ⟨rfl, fun _ _ _ _ => rfl⟩
set_option maxHeartbeats 600000 in
theorem VFr.tr {M M1 M2 : Mem} (a : VFr M M1) (b : VFr M1 M2) : VFr M M2 := ⟨b.1.trans a.1, fun c i h1 h2 => (b.2 c i h1 h2).trans (a.2 c i h1 h2)⟩
set_option maxHeartbeats 600000 in
theorem VFr.q {M M' : Mem} (f : VFr M M') : XQ M M' := by
  refine ⟨fun c i _ _ _ h4 => ⟨f.2 c i (fun z => h4 (by unfold scrX; omega)) (fun z => h4 (by unfold scrX; omega)), by rw [f.1]⟩, fun j _ => ?_, by rw [f.1], ?_, ?_, ?_⟩
  · rw [f.2 0 0 (by omega) (by omega)]
  · rw [f.2 30 0 (by omega) (by omega)]
  · rw [f.2 36 0 (by omega) (by omega)]
  · rw [f.2 36 0 (by omega) (by omega)]
set_option maxHeartbeats 600000 in
theorem mnx_loop {K : Co} {w : Wk} {A : Ha} {q sd n : Nat} (ok : OKC K) (okw : OKK K w) (o : okL K A) (hq : q < K.1 3) (hn : n ≤ 20) (hsd : sd + n ≤ 10000) : ∀ (k i fu : Nat) (a : Int64) (M : Mem), i + k = n → k < fu → RepC M 0 K → WkXR (fun c => M.1 c 0) w → RepH M 0 A →
    ∃ M' fu', f_X10_mean_76 (nI q) (nI sd) (nI n) fu a (nI i) M = f_X10_mean_76 (nI q) (nI sd) (nI n) (fu' + 1) (meanS K w A q sd k i a) (nI n) M' ∧ VFr M M'
  | k, i, 0, a, M, _, h, _, _, _ => by omega
  | 0, i, fu + 1, a, M, hi, _, rc, rw_, rh => by
    have : i = n := by omega
    subst this
    exact ⟨M, fu, rfl, VFr.rf⟩
  | k + 1, i, fu + 1, a, M, hi, hk, rc, rw_, rh => by
    have k3 := ok.2.2.2.1
    obtain ⟨M1, e1, r1, f1⟩ := X3_copyFrom_sp (h := 4) (i := 0) (by decide) rh
    have rw1 : WkXR (fun c => M1.1 c 0) w := WkXR.congr (fun c h1 h2 => f1.2 c 0 (by omega)) rw_
    obtain ⟨M2, e2, x2, -, f2⟩ := X4_run_sp (i0 := 1) (h := 4) (sd := nI (sd + i)) ok okw (Or.inr (Nat.le_refl _)) o (RepC.fr f1 rc) rw1 r1
    have F : VFr M M2 := VFr.tr (M1 := M1) ⟨f1.1, fun c j _ h => f1.2 c j (fun z => h ⟨z.1, z.2⟩)⟩ ⟨f2.1, fun c j h1 h2 => f2.2.1 c j h1 h2⟩
    have rh2 : RepH M2 0 A := by
      unfold RepH at rh ⊢
      rw [F.2 20 0 (by omega) (by omega), F.2 21 0 (by omega) (by omega), F.2 22 0 (by omega) (by omega)]
      exact rh
    obtain ⟨M3, fu', e3, f3⟩ := mnx_loop ok okw o hq hn hsd k (i + 1) fu (a + ((endA K w A (sd + i)).1.2.2 q).toInt64) M2 (by omega) (by omega) (RepCR.congr (fun c h1 h2 => F.2 c 0 (by omega) (by omega)) rc) (WkXR.congr (fun c h1 h2 => F.2 c 0 (by omega) (by omega)) rw_) rh2
    refine ⟨M3, fu', ?_, F.tr f3⟩
    rw [f_X10_mean_76, if_pos (by rw [lt_nI (by omega) (by omega)]; omega), e1, Option.bind_some, show nI sd + nI i = nI (sd + i) from add_nI sd i, e2, Option.bind_some, inb_nI_t (show q < 4 by omega) (by decide), if_pos rfl, nI_clamp (by omega), show M2.1 22 4 q = (endA K w A (sd + i)).1.2.2 q from x2.2.2.1.2.2 q (by omega), show nI i + (1 : Int32) = nI (i + 1) from add_nI i 1]
    exact e3
-- the reference: what is kept, given back
set_option maxHeartbeats 600000 in
theorem m78_loop {x1 x2 x3 : Int32} : ∀ (k j fu : Nat) (M : Mem), j + k = 198 → k < fu → (∀ i, i < j → M.1 64 0 i = M.1 55 0 i) →
    ∃ M', f_X11_mean_78 x1 x2 x3 fu (nI j) M = f_X11_mean_112 x1 x2 x3 FU (0 : Int64) (0 : Int32) M' ∧ (∀ i, i < 198 → M'.1 64 0 i = M.1 55 0 i) ∧ M'.2 = M.2 ∧ ∀ c i, ¬ (c = 64 ∧ i = 0) → M'.1 c i = M.1 c i
  | k, j, 0, M, _, h, _ => by omega
  | 0, j, fu + 1, M, hj, _, h1 => by
    refine ⟨M, ?_, fun i hi => h1 i (by omega), rfl, fun _ _ _ => rfl⟩
    rw [f_X11_mean_78, if_neg (by show ¬ nI j < nI 198; rw [lt_nI (by omega) (by omega)]; omega)]
  | k + 1, j, fu + 1, M, hj, hk, h1 => by
    have e55 : (sR M 64 0 (upd (M.1 64 0) j (M.1 55 0 j))).1 55 0 = M.1 55 0 := sR_ne _ _ _ _ (by decide)
    obtain ⟨M', e1, e2, e3, e4⟩ := m78_loop (x1 := x1) (x2 := x2) (x3 := x3) k (j + 1) fu (sR M 64 0 (upd (M.1 64 0) j (M.1 55 0 j))) (by omega) (by omega) (fun i hi => by
      rw [sR_at, e55]
      by_cases c : i = j
      · rw [c, upd_at]
      · rw [upd_ne _ _ c]; exact h1 i (by omega))
    rw [e55] at e2
    refine ⟨M', ?_, e2, e3, fun c i h => (e4 c i h).trans (sR_ne _ _ _ _ h)⟩
    rw [f_X11_mean_78, if_pos (by show nI j < nI 198; rw [lt_nI (by omega) (by omega)]; omega), inb_nI_t (show j < 2375 by omega) (by decide), if_pos rfl, inb_nI_t (show j < 198 by omega) (by decide), if_pos rfl, nI_clamp (by omega), show nI j + (1 : Int32) = nI (j + 1) from add_nI j 1]
    exact e1
set_option maxHeartbeats 600000 in
theorem m145_loop {f0 : Nat → Int32} {k173 : Mem → Option (Int32 × Mem)} {x1 x2 x3 x6 : Int32} {l4 : Int64} : ∀ (k j fu : Nat) (M : Mem), j + k = 198 → k < fu → (∀ i, i < 198 → M.1 64 0 i = f0 i) → (∀ i, i < j → M.1 55 0 i = f0 i) → (∀ i, 198 ≤ i → M.1 55 0 i = f0 i) →
    ∃ M', f_X11_mean_145 k173 x1 x2 x3 l4 x6 fu (nI j) M = k173 M' ∧ M'.1 55 0 = f0 ∧ M'.2 = M.2 ∧ ∀ c i, ¬ (c = 55 ∧ i = 0) → M'.1 c i = M.1 c i
  | k, j, 0, M, _, h, _, _, _ => by omega
  | 0, j, fu + 1, M, hj, _, h1, h2, h3 => by
    refine ⟨M, ?_, ?_, rfl, fun _ _ _ => rfl⟩
    · rw [f_X11_mean_145, if_neg (by show ¬ nI j < nI 198; rw [lt_nI (by omega) (by omega)]; omega)]
    · funext i
      by_cases c : i < 198
      · exact h2 i (by omega)
      · exact h3 i (by omega)
  | k + 1, j, fu + 1, M, hj, hk, h1, h2, h3 => by
    obtain ⟨M', e1, e2, e3, e4⟩ := m145_loop (f0 := f0) (k173 := k173) (x1 := x1) (x2 := x2) (x3 := x3) (x6 := x6) (l4 := l4) k (j + 1) fu (sR M 55 0 (upd (M.1 55 0) j (f0 j))) (by omega) (by omega) (fun i hi => by rw [sR_ne _ _ _ _ (by decide)]; exact h1 i hi) (fun i hi => by
      rw [sR_at]
      by_cases c : i = j
      · rw [c, upd_at]
      · rw [upd_ne _ _ c]; exact h2 i (by omega)) (fun i hi => by
      rw [sR_at, upd_ne _ _ (by omega)]; exact h3 i hi)
    refine ⟨M', ?_, e2, e3, fun c i h => (e4 c i h).trans (sR_ne _ _ _ _ h)⟩
    rw [f_X11_mean_145, if_pos (by show nI j < nI 198; rw [lt_nI (by omega) (by omega)]; omega), inb_nI_t (show j < 198 by omega) (by decide), if_pos rfl, inb_nI_t (show j < 2375 by omega) (by decide), if_pos rfl, nI_clamp (by omega), h1 j (by omega), show nI j + (1 : Int32) = nI (j + 1) from add_nI j 1]
    exact e1
def UFr (M M' : Mem) : Prop := M'.2 = M.2 ∧ (∀ c i, ¬ ((c = 50 ∨ c = 55) ∧ i = 0) → M'.1 c i = M.1 c i) ∧ M'.1 55 0 = M.1 55 0 ∧ ∀ j, ¬ (38 ≤ j ∧ j ≤ 45) → M'.1 50 0 j = M.1 50 0 j
set_option maxHeartbeats 600000 in
theorem UFr.rf {M : Mem} : UFr M M := ⟨rfl, fun _ _ _ => rfl, rfl, fun _ _ => rfl⟩
set_option maxHeartbeats 600000 in
theorem UFr.tr {M M1 M2 : Mem} (a : UFr M M1) (b : UFr M1 M2) : UFr M M2 := ⟨b.1.trans a.1, fun c i h => (b.2.1 c i h).trans (a.2.1 c i h), b.2.2.1.trans a.2.2.1, fun j h => (b.2.2.2 j h).trans (a.2.2.2 j h)⟩
set_option maxHeartbeats 600000 in
theorem mnm_loop {K : Co} {w : Wk} {A : Ha} {q sd n : Nat} {f0 : Nat → Int32} (ok : OKC K) (okw : OKK K w) (o : okL K A) (hq : q < K.1 3) (hn : n ≤ 20) (hsd : sd + n ≤ 10000) (rc : RepMC f0 K) (wm : WkM f0 w) (rh : RepMH f0 K A) : ∀ (k i fu : Nat) (a : Int64) (M : Mem), i + k = n → k < fu → M.1 55 0 = f0 → (∀ i, i < 198 → M.1 64 0 i = f0 i) →
    ∃ M' fu', f_X11_mean_112 (nI q) (nI sd) (nI n) fu a (nI i) M = f_X11_mean_112 (nI q) (nI sd) (nI n) (fu' + 1) (meanS K w A q sd k i a) (nI n) M' ∧ UFr M M'
  | k, i, 0, a, M, _, h, _, _ => by omega
  | 0, i, fu + 1, a, M, hi, _, h55, h64 => by
    have : i = n := by omega
    subst this
    exact ⟨M, fu, rfl, UFr.rf⟩
  | k + 1, i, fu + 1, a, M, hi, hk, h55, h64 => by
    have k3 := ok.2.2.2.1
    obtain ⟨M1, e1, x1, -, f1⟩ := X11_runs_sp (M := M) (sd := nI (sd + i)) ok okw o (by rw [h55]; exact rc) (by rw [h55]; exact wm) (by rw [h55]; exact rh)
    obtain ⟨M2, e2, g2, q2, z2⟩ := m145_loop (f0 := f0) (k173 := fun M_16 => f_X11_mean_112 (nI q) (nI sd) (nI n) fu (a + ((endA K w A (sd + i)).1.2.2 q).toInt64) (nI (i + 1)) M_16) (x1 := nI q) (x2 := nI sd) (x3 := nI n) (x6 := nI i) (l4 := a + ((endA K w A (sd + i)).1.2.2 q).toInt64) 198 0 FU M1 (by omega) (lt_FU (by omega)) (fun j hj => by rw [f1.2.1 64 0 (by decide)]; exact h64 j hj) (fun j hj => by omega) (fun j hj => by rw [f1.2.2.1 j (by unfold hallIx; omega), h55])
    have F : UFr M M2 := ⟨q2.trans f1.1, fun c j h => (z2 c j (fun y => h ⟨Or.inr y.1, y.2⟩)).trans (f1.2.1 c j h), g2.trans h55.symm, fun j hj => by rw [z2 50 0 (by decide)]; exact f1.2.2.2 j hj⟩
    obtain ⟨M3, fu', e3, f3⟩ := mnm_loop ok okw o hq hn hsd rc wm rh k (i + 1) fu (a + ((endA K w A (sd + i)).1.2.2 q).toInt64) M2 (by omega) (by omega) g2 (fun j hj => by rw [F.2.1 64 0 (by decide)]; exact h64 j hj)
    refine ⟨M3, fu', ?_, F.tr f3⟩
    rw [f_X11_mean_112, if_pos (by rw [lt_nI (by omega) (by omega)]; omega), show nI sd + nI i = nI (sd + i) from add_nI sd i, e1, Option.bind_some, show (194 : Int32) + nI q = nI (194 + q) from add_nI 194 q, inb_nI_t (show 194 + q < 2375 by omega) (by decide), if_pos rfl, nI_clamp (by omega)]
    simp only
    rw [show M1.1 55 0 (194 + q) = (endA K w A (sd + i)).1.2.2 q from x1.2.2.1.2.2.2.2.2.2.2 q hq, show nI i + (1 : Int32) = nI (i + 1) from add_nI i 1]
    exact e2.trans e3
set_option maxHeartbeats 600000 in
theorem meanS_abs {K : Co} {w : Wk} {A : Ha} {q sd : Nat} : ∀ (k i : Nat) (a : Int64) (b : Int), b + (k : Int) * 2147483648 < 2 ^ 61 → 0 ≤ b → -b ≤ a.toInt → a.toInt ≤ b → -(b + (k : Int) * 2147483648) ≤ (meanS K w A q sd k i a).toInt ∧ (meanS K w A q sd k i a).toInt ≤ b + (k : Int) * 2147483648
  | 0, i, a, b, _, _, h1, h2 => by
    have e : meanS K w A q sd 0 i a = a := rfl
    rw [e]
    constructor <;> omega
  | k + 1, i, a, b, hm, h0, h1, h2 => by
    have x1 := Int32.le_toInt ((endA K w A (sd + i)).1.2.2 q)
    have x2 := Int32.toInt_lt ((endA K w A (sd + i)).1.2.2 q)
    have e : (a + ((endA K w A (sd + i)).1.2.2 q).toInt64).toInt = a.toInt + ((endA K w A (sd + i)).1.2.2 q).toInt := by
      rw [Int64.toInt_add, t64, bm64 (by omega) (by omega)]
    have this := meanS_abs (K := K) (w := w) (A := A) (q := q) (sd := sd) k (i + 1) (a + ((endA K w A (sd + i)).1.2.2 q).toInt64) (b + 2147483648) (by omega) (by omega) (by rw [e]; omega) (by rw [e]; omega)
    have e2 : meanS K w A q sd (k + 1) i a = meanS K w A q sd k (i + 1) (a + ((endA K w A (sd + i)).1.2.2 q).toInt64) := rfl
    rw [e2]
    constructor <;> omega
set_option maxHeartbeats 600000 in
theorem jabsl_any {x : Int64} (h1 : -2 ^ 62 < x.toInt) (h2 : x.toInt < 2 ^ 62) : jabsl x = nL x.toInt.natAbs := by
  unfold jabsl
  by_cases c : 0 < x
  · rw [if_pos c]
    have c' : (0 : Int) < x.toInt := Int64.lt_iff_toInt_lt.mp c
    apply Int64.toInt_inj.mp
    rw [nL_toInt (by omega)]
    omega
  · rw [if_neg c]
    have c' : ¬ (0 : Int) < x.toInt := fun z => c (Int64.lt_iff_toInt_lt.mpr z)
    apply Int64.toInt_inj.mp
    rw [nL_toInt (by omega), Int64.toInt_neg, bm64 (by omega) (by omega)]
    omega
set_option maxHeartbeats 600000 in
theorem UFr.q {M M' : Mem} (f : UFr M M') : MQm M M' :=
  ⟨fun c i h => ⟨f.2.1 c i (by omega), by rw [f.1]⟩, fun j hj => f.2.2.2 j (by omega), ⟨by rw [f.1], by rw [f.1]⟩, fun j _ => by rw [f.2.2.1], fun j _ => by rw [f.1]⟩
set_option maxHeartbeats 600000 in
theorem step_mean {s : Sy} (o : OKS s) (x y z : Int32) : Step s (f_X10_mean x y z) (f_X11_mean x y z) := by
  have hc : (sWo s).1.1 3 ≤ 10 := cnt_le o.C (by decide)
  have h01 : (sWo s).2.2.2.1 0 ≤ 1 := o.K.1
  have ex : ∀ M, RX s M → M.1 23 0 8 = nI ((sWo s).2.2.2.1 0) := fun M h => h.W.1
  have em : ∀ M, RM s M → (mR M).1 55 0 198 = nI ((sWo s).2.2.2.1 0) := fun M h => (h.r o).W.1
  have no : ∀ v : Int32, (∀ M, RX s M → f_X10_mean x y z M = some (0, stM M v)) → (∀ M, RM s M → f_X11_mean x y z M = some (0, smM (mR M) v)) → Step s (f_X10_mean x y z) (f_X11_mean x y z) := fun v a b => step_rf o v a b
  rcases arg_in x (n := (sWo s).1.1 3) (by omega) with ⟨q, hq, rfl⟩ | hx
  · have X : ∀ M, RX s M → f_X10_mean (nI q) y z M = if z < (1 : Int32) then some (0, stM M 5) else if (20 : Int32) < z then some (0, stM M 5) else (f_X10_isNoSeed y).bind fun r6 => if r6 = 0 then (f_X10_isNoSeed (y + z - (1 : Int32))).bind fun r9 => if r9 = 0 then (if nI ((sWo s).2.2.2.1 0) = 0 then some (0, stM M 8) else f_X10_mean_76 (nI q) y z FU (0 : Int64) (0 : Int32) M) else some (0, stM M 5) else some (0, stM M 5) := by
      intro M h
      unfold f_X10_mean
      rw [show f_X10_isNo (3 : Int32) (nI q) M = some 0 from isNo_t (q := 3) h o (by decide) hq, Option.bind_some, if_pos rfl, ex M h]
      rfl
    have Y : ∀ M, RM s M → f_X11_mean (nI q) y z M = (f_X11_isIn z.toInt64 (1 : Int64) (20 : Int64)).bind fun r4 => if r4 = 0 then some (0, smM (mR M) 5) else (f_X11_isIn y.toInt64 (0 : Int64) (((10000 : Int32) - z).toInt64)).bind fun r7 => if r7 = 0 then some (0, smM (mR M) 5) else if (mR M).1 55 0 198 = 0 then some (0, smM (mR M) 8) else f_X11_mean_78 (nI q) y z FU (0 : Int32) (mR M) := by
      intro M h
      unfold f_X11_mean
      simp only [mR_e]
      rw [isCrop_t o.C (h.r o).C hq, Option.bind_some, if_neg (by decide)]
      rfl
    by_cases cz : 1 ≤ z.toInt ∧ z.toInt ≤ 20
    · obtain ⟨n, n1, n2, rfl⟩ : ∃ n, 1 ≤ n ∧ n ≤ 20 ∧ z = nI n := by
        refine ⟨z.toInt.toNat, by omega, by omega, ?_⟩
        apply Int32.toInt_inj.mp
        rw [nI_toInt (by omega)]
        omega
      have z1 : ¬ nI n < (1 : Int32) := by show ¬ nI n < nI 1; rw [lt_nI (by omega) (by omega)]; omega
      have z2 : ¬ (20 : Int32) < nI n := by show ¬ nI 20 < nI n; rw [lt_nI (by omega) (by omega)]; omega
      have e10 : (10000 : Int32) - nI n = nI (10000 - n) := sub_nI (a := 10000) (b := n) (by omega)
      rcases arg_in y (n := 10000) (by decide) with ⟨sd, hsd, rfl⟩ | hy
      · have es : nI sd + nI n - (1 : Int32) = nI (sd + n - 1) := by
          rw [add_nI]
          exact sub_nI (a := sd + n) (b := 1) (by omega)
        by_cases cs : sd + n ≤ 10000
        · have s7 : f_X11_isIn (nI sd).toInt64 (0 : Int64) (nI (10000 - n)).toInt64 = some 1 := isIn_t0 (n := 10000 - n + 1) (by omega) (by rw [t64, nI_toInt (by omega)]; omega) (by omega)
          by_cases c0 : (sWo s).2.2.2.1 0 = 0
          · refine no 8 (fun M h => ?_) (fun M h => ?_)
            · rw [X M h, if_neg z1, if_neg z2, seed_t hsd, Option.bind_some, if_pos rfl, es, seed_t (by omega), Option.bind_some, if_pos rfl, if_pos (by rw [c0]; rfl)]
            · rw [Y M h, isIn_t (b := 1) (c := 20) cz, Option.bind_some, if_neg (by decide), e10, s7, Option.bind_some, if_neg (by decide)]
              refine (if_pos ?_).trans rfl
              rw [em M h, c0]; rfl
          · have hb := meanS_abs (K := (sWo s).1) (w := (sWo s).2.2.2) (A := (sWo s).2.1) (q := q) (sd := sd) n 0 0 0 (by omega) (by omega) (by decide) (by decide)
            have hj := jabsl_any (x := meanS (sWo s).1 (sWo s).2.2.2 (sWo s).2.1 q sd n 0 0) (by omega) (by omega)
            have hna : (meanS (sWo s).1 (sWo s).2.2.2 (sWo s).2.1 q sd n 0 0).toInt.natAbs < 2 ^ 62 := by omega
            refine step_of 1 (setSc (setFr s (frS (meanS (sWo s).1 (sWo s).2.2.2 (sWo s).2.1 q sd n 0 0) (meanS (sWo s).1 (sWo s).2.2.2 (sWo s).2.1 q sd n 0 0).toInt.natAbs n)) 0 0) o (fun M h => ?_) (fun M h => ?_)
            · obtain ⟨M', fu', e1, f1⟩ := mnx_loop o.C o.K o.L hq n2 cs n 0 FU 0 M (by omega) (lt_FU (by omega)) h.C h.W h.H
              have h1 : RX s M' := h.q0 o f1.q (by rw [f1.2 0 0 (by omega) (by omega)])
              have h2 := h1.fr (f := frS (meanS (sWo s).1 (sWo s).2.2.2 (sWo s).2.1 q sd n 0 0) (meanS (sWo s).1 (sWo s).2.2.2 (sWo s).2.1 q sd n 0 0).toInt.natAbs n)
              have h3 := h2.1.st (s := setFr s (frS (meanS (sWo s).1 (sWo s).2.2.2 (sWo s).2.1 q sd n 0 0) (meanS (sWo s).1 (sWo s).2.2.2 (sWo s).2.1 q sd n 0 0).toInt.natAbs n)) o 0 XQ.rf
              refine ⟨_, ?_, h3.1, f1.q.on.tr (h2.2.tr h3.2)⟩
              rw [X M h, if_neg z1, if_neg z2, seed_t hsd, Option.bind_some, if_pos rfl, es, seed_t (by omega), Option.bind_some, if_pos rfl, if_neg (by rw [nI_z (by omega)]; exact c0), show f_X10_mean_76 (nI q) (nI sd) (nI n) FU (0 : Int64) (0 : Int32) M = _ from e1, f_X10_mean_76, if_neg (by rw [lt_nI (by omega) (by omega)]; omega), nL_of (by omega), tellFraction_sp hj hna (by omega) (by omega)]
              rfl
            · obtain ⟨M1, e1, g1, q1, k1⟩ := m78_loop (x1 := nI q) (x2 := nI sd) (x3 := nI n) 198 0 FU (mR M) (by omega) (lt_FU (by omega)) (fun i hi => by omega)
              have h55 : M1.1 55 0 = (mR M).1 55 0 := k1 55 0 (by decide)
              obtain ⟨M', fu', e2, f2⟩ := mnm_loop (f0 := (mR M).1 55 0) o.C o.K o.L hq n2 cs (h.r o).C (h.r o).W (h.r o).H n 0 FU 0 M1 (by omega) (lt_FU (by omega)) h55 g1
              have Q1 : MQm (mR M) M1 := ⟨fun c i hc => ⟨k1 c i (by omega), by rw [q1]⟩, fun j _ => by rw [k1 50 0 (by decide)], ⟨by rw [q1], by rw [q1]⟩, fun j _ => by rw [h55], fun j _ => by rw [q1]⟩
              have Q := Q1.tr f2.q
              have h1 := h.s0 o Q (by rw [f2.2.2.2 0 (by decide), k1 50 0 (by decide)]; exact mR_0 M)
              have h2 := h1.1.fr (f := frS (meanS (sWo s).1 (sWo s).2.2.2 (sWo s).2.1 q sd n 0 0) (meanS (sWo s).1 (sWo s).2.2.2 (sWo s).2.1 q sd n 0 0).toInt.natAbs n)
              refine ⟨_, ?_, h2.1, h1.2.tr h2.2⟩
              rw [Y M h, isIn_t (b := 1) (c := 20) cz, Option.bind_some, if_neg (by decide), e10, s7, Option.bind_some, if_neg (by decide)]
              refine (if_neg (by rw [em M h, nI_z (by omega)]; exact c0)).trans ?_
              rw [show f_X11_mean_78 (nI q) (nI sd) (nI n) FU (0 : Int32) (mR M) = _ from e1, show f_X11_mean_112 (nI q) (nI sd) (nI n) FU (0 : Int64) (0 : Int32) M1 = _ from e2, f_X11_mean_112, if_neg (by rw [lt_nI (by omega) (by omega)]; omega), nL_of (by omega), fraction_sp hj hna (by omega) (by omega)]
              rfl
        · refine no 5 (fun M h => ?_) (fun M h => ?_)
          · rw [X M h, if_neg z1, if_neg z2, seed_t hsd, Option.bind_some, if_pos rfl, es, seed_f (Or.inr (by rw [lt_nI (by omega) (by omega)]; omega))]
            rfl
          · rw [Y M h, isIn_t (b := 1) (c := 20) cz, Option.bind_some, if_neg (by decide), e10, isIn_f (by rw [t64, nI_toInt (show 10000 - n < 2 ^ 31 by omega), nI_toInt (show sd < 2 ^ 31 by omega)]; omega)]
            rfl
      · refine no 5 (fun M h => ?_) (fun M h => ?_)
        · rw [X M h, if_neg z1, if_neg z2, seed_f hy]
          rfl
        · have ho := out_toInt (n := 10000) (by decide) hy
          rw [Y M h, isIn_t (b := 1) (c := 20) cz, Option.bind_some, if_neg (by decide), e10, isIn_f (by
            rw [t64, nI_toInt (show 10000 - n < 2 ^ 31 by omega)]
            intro w
            have w1 : (0 : Int) ≤ y.toInt := w.1
            omega)]
          rfl
    · refine no 5 (fun M h => ?_) (fun M h => ?_)
      · rw [X M h]
        by_cases y1 : z < (1 : Int32)
        · rw [if_pos y1]
        · have z1 : ¬ z.toInt < 1 := fun w => y1 (Int32.lt_iff_toInt_lt.mpr w)
          rw [if_neg y1, if_pos (Int32.lt_iff_toInt_lt.mpr (show (20 : Int32).toInt < z.toInt from by show (20 : Int) < z.toInt; omega))]
      · rw [Y M h, isIn_f (b := 1) (c := 20) cz]; rfl
  · refine no 2 (fun M h => ?_) (fun M h => ?_)
    · unfold f_X10_mean
      rw [show f_X10_isNo (3 : Int32) x M = some 1 from isNo_f (q := 3) h (by decide) hx]
      rfl
    · unfold f_X11_mean
      simp only [mR_e]
      rw [isCrop_f o.C (h.r o).C hx]
      rfl
