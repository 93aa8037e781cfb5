/-! ===== calls on both: harvest, harvestNow ===== -/
theorem jmax_int (x y : Int32) : (jmax x y).toInt = max x.toInt y.toInt := by
  unfold jmax
  by_cases c : x < y
  · rw [if_pos c]
    have := Int32.lt_iff_toInt_lt.mp c
    omega
  · rw [if_neg c]
    have := Int32.le_iff_toInt_le.mp (Int32.not_lt.mp c)
    omega
theorem jmax_sw (a b c : Int32) : jmax (jmax a b) c = jmax a (jmax c b) := by
  apply Int32.toInt_inj.mp
  rw [jmax_int, jmax_int, jmax_int, jmax_int]
  omega
def harvS (K : Co) (q : Nat) : Nat → Nat → Int32
  | 0, _ => 0
  | n + 1, w => K.2 5 (6 * q + w) + jmax (harvS K q n w) (jmax (harvS K q n (K.1 (100 + w))) (harvS K q n (K.1 (200 + w))))
/-- nothing but the two rows of the harvest is otherwise -/
def RpF (M M' : Mem) : Prop := M'.2 = M.2 ∧ ∀ c i, ¬ ((c = 41 ∨ c = 43) ∧ i = 0) → M'.1 c i = M.1 c i
theorem RpF.rf {M : Mem} : RpF M M := ⟨rfl, fun _ _ _ => rfl⟩
theorem RpF.tr {M M1 M2 : Mem} (a : RpF M M1) (b : RpF M1 M2) : RpF M M2 := ⟨b.1.trans a.1, fun c i h => (b.2 c i h).trans (a.2 c i h)⟩
theorem RpF.set {M : Mem} {c : Nat} {f : Nat → Int32} (h : c = 41 ∨ c = 43) : RpF M (sR M c 0 f) := ⟨rfl, fun a i z => sR_ne _ _ _ _ (fun y => z ⟨by rw [y.1]; exact h, y.2⟩)⟩
theorem RpF.q {M M' : Mem} (f : RpF M M') : XQ M M' := by
  refine ⟨fun c i _ _ _ h4 => ⟨f.2 c i (fun z => h4 (by unfold scrX; omega)), by rw [f.1]⟩, fun j _ => ?_, by rw [f.1], ?_, ?_, ?_⟩
  · rw [f.2 0 0 (by omega)]
  · rw [f.2 30 0 (by omega)]
  · rw [f.2 36 0 (by omega)]
  · rw [f.2 36 0 (by omega)]
theorem RpF.C {M M' : Mem} {K : Co} (f : RpF M M') (rc : RepC M 0 K) : RepC M' 0 K := RepCR.congr (fun c h1 h2 => f.2 c 0 (by omega)) rc
theorem rp51_loop {K : Co} {q n : Nat} {k124 : Mem → Option Mem} {x3 x4 : Int32} (ok : OKC K) (hq : q < K.1 3) : ∀ (k i fu : Nat) (M : Mem), i + k = K.1 2 → k < fu → RepC M 0 K → (∀ w, w < K.1 2 → M.1 41 0 w = harvS K q n w) → (∀ w, w < i → M.1 43 0 w = harvS K q (n + 1) w) →
    ∃ M', f_X0_reap_51 k124 0 (nI q) x3 x4 fu (nI i) M = k124 M' ∧ (∀ w, w < K.1 2 → M'.1 43 0 w = harvS K q (n + 1) w) ∧ RpF M M'
  | k, i, 0, M, _, h, _, _, _ => by omega
  | 0, i, fu + 1, M, hi, _, rc, h41, h43 => by
    have hw : K.1 2 ≤ 6 := ok.2.2.1
    refine ⟨M, ?_, fun w h => h43 w (by omega), RpF.rf⟩
    rw [f_X0_reap_51, show M.1 9 0 2 = nI (K.1 2) from rc.1 2 (by decide), if_neg (by rw [lt_nI (by omega) (by omega)]; omega)]
  | k + 1, i, fu + 1, M, hi, hk, rc, h41, h43 => by
    have hw : K.1 2 ≤ 6 := ok.2.2.1
    have b := ok.2.2.2.2.2.2.1 i (by omega)
    have r := rc.2.2.2.2.2.2.2.1 i (by omega)
    have r1 : M.1 17 0 i = nI (K.1 (100 + i)) := r.1
    have r2 : M.1 18 0 i = nI (K.1 (200 + i)) := r.2
    have F : RpF M (sR M 43 0 (upd (M.1 43 0) i (harvS K q (n + 1) i))) := RpF.set (Or.inr rfl)
    obtain ⟨M', e1, e2, e3⟩ := rp51_loop (k124 := k124) (x3 := x3) (x4 := x4) ok hq k (i + 1) fu (sR M 43 0 (upd (M.1 43 0) i (harvS K q (n + 1) i))) (by omega) (by omega) (F.C rc) (fun w h => by rw [sR_ne _ _ _ _ (by decide)]; exact h41 w h) (fun w h => by
      rw [sR_at]
      by_cases d : w = i
      · rw [d, upd_at]
      · rw [upd_ne _ _ d]; exact h43 w (by omega))
    refine ⟨M', ?_, e2, F.tr e3⟩
    rw [f_X0_reap_51, show M.1 9 0 2 = nI (K.1 2) from rc.1 2 (by decide), if_pos (by rw [lt_nI (by omega) (by omega)]; omega), inb_nI_t (show i < 6 by omega) (by decide), if_pos rfl, nI_clamp (by omega), r1, r2, inb_nI_t (show K.1 (100 + i) < 6 by omega) (by decide), if_pos rfl, if_pos rfl, inb_nI_t (show K.1 (200 + i) < 6 by omega) (by decide), if_pos rfl, nI_clamp (by omega), nI_clamp (by omega)]
    simp only
    rw [X1_growthOf_sp ok rc hq (by omega), Option.bind_some, if_pos trivial, if_pos trivial, h41 i (by omega), h41 _ b.1, h41 _ b.2, show nI i + (1 : Int32) = nI (i + 1) from add_nI i 1]
    exact e1
theorem rp27_loop {K : Co} {q D : Nat} (ok : OKC K) (hq : q < K.1 3) (hD : D ≤ 20) : ∀ (k n fu : Nat) (M : Mem), n + k = D → k < fu → RepC M 0 K → (∀ w, w < K.1 2 → M.1 43 0 w = harvS K q n w) →
    ∃ M', f_X0_reap_27 0 (nI q) (nI D) fu (nI n) M = some M' ∧ (∀ w, w < K.1 2 → M'.1 43 0 w = harvS K q D w) ∧ RpF M M'
  | k, n, 0, M, _, h, _, _ => by omega
  | 0, n, fu + 1, M, hn, _, rc, h43 => by
    refine ⟨M, ?_, ?_, RpF.rf⟩
    · rw [f_X0_reap_27, if_neg (by rw [lt_nI (by omega) (by omega)]; omega)]
    · rw [show D = n by omega]; exact h43
  | k + 1, n, fu + 1, M, hn, hk, rc, h43 => by
    have hw : K.1 2 ≤ 6 := ok.2.2.1
    have F : RpF M (sR M 41 0 (va_cpy (M.1 43 0) (M.1 41 0) 0 0 6)) := RpF.set (Or.inl rfl)
    obtain ⟨M1, e1, e2, e3⟩ := rp51_loop (n := n) (k124 := fun M_11 => f_X0_reap_27 0 (nI q) (nI D) fu (nI n + (1 : Int32)) M_11) (x3 := nI D) (x4 := nI n) ok hq (K.1 2) 0 FU _ (by omega) (lt_FU (by omega)) (F.C rc) (fun w h => by
      rw [sR_at]
      unfold va_cpy
      rw [if_pos (by omega), Nat.zero_add, Nat.sub_zero]
      exact h43 w h) (fun w h => by omega)
    obtain ⟨M2, g1, g2, g3⟩ := rp27_loop ok hq hD k (n + 1) fu M1 (by omega) (by omega) ((F.tr e3).C rc) e2
    refine ⟨M2, ?_, g2, (F.tr e3).tr g3⟩
    rw [f_X0_reap_27, if_pos (by rw [lt_nI (by omega) (by omega)]; omega)]
    refine e1.trans ?_
    rw [show nI n + (1 : Int32) = nI (n + 1) from add_nI n 1]
    exact g1
theorem rp3_loop {K : Co} {q D : Nat} (ok : OKC K) (hq : q < K.1 3) (hD : D ≤ 20) : ∀ (k i fu : Nat) (M : Mem), i + k = 6 → k < fu → RepC M 0 K → (∀ w, w < i → M.1 43 0 w = 0) →
    ∃ M', f_X0_reap_3 0 (nI q) (nI D) fu (nI i) M = some M' ∧ (∀ w, w < K.1 2 → M'.1 43 0 w = harvS K q D w) ∧ RpF M M'
  | k, i, 0, M, _, h, _, _ => by omega
  | 0, i, fu + 1, M, hi, _, rc, h43 => by
    have hw : K.1 2 ≤ 6 := ok.2.2.1
    obtain ⟨M', e1, e2, e3⟩ := rp27_loop ok hq hD D 0 FU M (by omega) (lt_FU (by omega)) rc (fun w h => h43 w (by omega))
    refine ⟨M', ?_, e2, e3⟩
    rw [f_X0_reap_3, if_neg (by show ¬ nI i < nI 6; rw [lt_nI (by omega) (by omega)]; omega)]
    exact e1
  | k + 1, i, fu + 1, M, hi, hk, rc, h43 => by
    have F : RpF M (sR M 43 0 (upd (M.1 43 0) i (0 : Int32))) := RpF.set (Or.inr rfl)
    obtain ⟨M', e1, e2, e3⟩ := rp3_loop ok hq hD k (i + 1) fu (sR M 43 0 (upd (M.1 43 0) i (0 : Int32))) (by omega) (by omega) (F.C rc) (fun w h => by
      rw [sR_at]
      by_cases d : w = i
      · rw [d, upd_at]
      · rw [upd_ne _ _ d]; exact h43 w (by omega))
    refine ⟨M', ?_, e2, F.tr e3⟩
    rw [f_X0_reap_3, if_pos (by show nI i < nI 6; rw [lt_nI (by omega) (by omega)]; omega), inb_nI_t (show i < 6 by omega) (by decide), if_pos rfl, nI_clamp (by omega), show nI i + (1 : Int32) = nI (i + 1) from add_nI i 1]
    exact e1
theorem reap_sp {M : Mem} {K : Co} {q D : Nat} (ok : OKC K) (hq : q < K.1 3) (hD : D ≤ 20) (rc : RepC M 0 K) : ∃ M', f_X0_reap 0 (nI q) (nI D) M = some M' ∧ (∀ w, w < K.1 2 → M'.1 43 0 w = harvS K q D w) ∧ RpF M M' :=
  rp3_loop ok hq hD 6 0 FU M (by omega) (lt_FU (by omega)) rc (fun w h => by omega)
-- the reference
def HmF (M M' : Mem) : Prop := M'.2 = M.2 ∧ ∀ c i, ¬ (c = 62 ∧ i = 0) → M'.1 c i = M.1 c i
theorem HmF.rf {M : Mem} : HmF M M := ⟨rfl, fun _ _ _ => rfl⟩
theorem HmF.tr {M M1 M2 : Mem} (a : HmF M M1) (b : HmF M1 M2) : HmF M M2 := ⟨b.1.trans a.1, fun c i h => (b.2 c i h).trans (a.2 c i h)⟩
theorem HmF.set {M : Mem} {f : Nat → Int32} : HmF M (sR M 62 0 f) := ⟨rfl, fun a i z => sR_ne _ _ _ _ z⟩
theorem HmF.q {M M' : Mem} (f : HmF M M') : MQm M M' := by
  refine ⟨fun c i h => ⟨f.2 c i (by omega), by rw [f.1]⟩, fun j _ => by rw [f.2 50 0 (by decide)], ⟨by rw [f.1], by rw [f.1]⟩, fun j _ => by rw [f.2 55 0 (by decide)], fun j _ => by rw [f.1]⟩
theorem HmF.C {M M' : Mem} {K : Co} (f : HmF M M') (rc : RepMC (M.1 55 0) K) : RepMC (M'.1 55 0) K := by
  rw [f.2 55 0 (by decide)]; exact rc
theorem FU_3 : ∃ k, FU = k + 3 := ⟨FU - 3, by have : 5 < FU := lt_FU (by decide); omega⟩
theorem ix6 (n w : Nat) : (6 : Int32) * nI n + nI w = nI (6 * n + w) := by
  rw [show (6 : Int32) = nI 6 from rfl, mul_nI, add_nI]
theorem hm61 {M : Mem} {K : Co} {k100 : Int32 → Option Mem} {x1 x2 v : Int32} {n w : Nat} (ok : OKC K) (rc : RepMC (M.1 55 0) K) (hn : n < 20) (hw : w < K.1 2) :
    f_X11_harvests_61 k100 x1 x2 (nI (n + 1)) (nI w) M FU v (-1 : Int32) = k100 (jmax (jmax v (M.1 62 0 (6 * n + K.1 (200 + w)))) (M.1 62 0 (6 * n + K.1 (100 + w)))) := by
  have hw6 : K.1 2 ≤ 6 := ok.2.2.1
  have b := ok.2.2.2.2.2.2.1 w hw
  obtain ⟨k, hk⟩ := FU_3
  have en : nI (n + 1) - (1 : Int32) = nI n := sub_nI (a := n + 1) (b := 1) (by omega)
  rw [hk, f_X11_harvests_61, if_pos (by decide), X11_behindOf_sp ok rc hw (Or.inr (Or.inr rfl)), Option.bind_some, en, show behS K w (-1) = K.1 (200 + w) from rfl, ix6, inb_nI_t (by omega) (by decide), if_pos rfl, nI_clamp (by omega)]
  simp only
  rw [show (-1 : Int32) + (2 : Int32) = 1 from by decide, f_X11_harvests_61, if_pos (by decide), X11_behindOf_sp ok rc hw (Or.inr (Or.inl rfl)), Option.bind_some, en, show behS K w 1 = K.1 (100 + w) from rfl, ix6, inb_nI_t (by omega) (by decide), if_pos rfl, nI_clamp (by omega)]
  simp only
  rw [f_X11_harvests_61, if_neg (by decide)]
theorem hm31_loop {K : Co} {q n : Nat} {k128 : Mem → Option Mem} {x2 : Int32} (ok : OKC K) (hq : q < K.1 3) (hn : n < 20) : ∀ (k i fu : Nat) (M : Mem), i + k = K.1 2 → k < fu → RepMC (M.1 55 0) K → (∀ m w, m ≤ n → w < K.1 2 → M.1 62 0 (6 * m + w) = harvS K q m w) → (∀ w, w < i → M.1 62 0 (6 * (n + 1) + w) = harvS K q (n + 1) w) →
    ∃ M', f_X11_harvests_31 k128 (nI q) x2 (nI (n + 1)) fu (nI i) M = k128 M' ∧ (∀ m w, m ≤ n + 1 → w < K.1 2 → M'.1 62 0 (6 * m + w) = harvS K q m w) ∧ HmF M M'
  | k, i, 0, M, _, h, _, _, _ => by omega
  | 0, i, fu + 1, M, hi, _, rc, h1, h2 => by
    have hw : K.1 2 ≤ 6 := ok.2.2.1
    refine ⟨M, ?_, fun m w a b => ?_, HmF.rf⟩
    · rw [f_X11_harvests_31, show M.1 55 0 2 = nI (K.1 2) from rc.1 2 (by decide), if_neg (by rw [lt_nI (by omega) (by omega)]; omega)]
    · by_cases d : m = n + 1
      · rw [d]; exact h2 w (by omega)
      · exact h1 m w (by omega) b
  | k + 1, i, fu + 1, M, hi, hk, rc, h1, h2 => by
    have hw : K.1 2 ≤ 6 := ok.2.2.1
    have hq4 : K.1 3 ≤ 4 := ok.2.2.2.1
    have b := ok.2.2.2.2.2.2.1 i (by omega)
    have en : nI (n + 1) - (1 : Int32) = nI n := sub_nI (a := n + 1) (b := 1) (by omega)
    have F : HmF M (sR M 62 0 (upd (M.1 62 0) (6 * (n + 1) + i) (harvS K q (n + 1) i))) := HmF.set
    obtain ⟨M', e1, e2, e3⟩ := hm31_loop (k128 := k128) (x2 := x2) ok hq hn k (i + 1) fu (sR M 62 0 (upd (M.1 62 0) (6 * (n + 1) + i) (harvS K q (n + 1) i))) (by omega) (by omega) (F.C rc) (fun m w a c => by
      rw [sR_at, upd_ne _ _ (by omega)]
      exact h1 m w a c) (fun w h => by
      rw [sR_at]
      by_cases d : w = i
      · rw [d, upd_at]
      · rw [upd_ne _ _ (by omega)]; exact h2 w (by omega))
    refine ⟨M', ?_, e2, F.tr e3⟩
    rw [f_X11_harvests_31, show M.1 55 0 2 = nI (K.1 2) from rc.1 2 (by decide), if_pos (by rw [lt_nI (by omega) (by omega)]; omega), en, ix6, inb_nI_t (by omega) (by decide), if_pos rfl, nI_clamp (by omega)]
    simp only
    rw [hm61 ok rc hn (by omega)]
    rw [X11_growsOn_sp ok rc hq (by omega), Option.bind_some, ix6, inb_nI_t (by omega) (by decide), if_pos rfl, nI_clamp (by omega), h1 n i (by omega) (by omega), h1 n _ (by omega) b.1, h1 n _ (by omega) b.2, show nI i + (1 : Int32) = nI (i + 1) from add_nI i 1, jmax_sw, Int32.add_comm]
    exact e1
theorem hm23_loop {K : Co} {q D : Nat} (ok : OKC K) (hq : q < K.1 3) (hD : D ≤ 20) : ∀ (k n fu : Nat) (M : Mem), n + k = D → k < fu → RepMC (M.1 55 0) K → (∀ m w, m ≤ n → w < K.1 2 → M.1 62 0 (6 * m + w) = harvS K q m w) →
    ∃ M', f_X11_harvests_23 (nI q) (nI D) fu (nI (n + 1)) M = some M' ∧ (∀ m w, m ≤ D → w < K.1 2 → M'.1 62 0 (6 * m + w) = harvS K q m w) ∧ HmF M M'
  | k, n, 0, M, _, h, _, _ => by omega
  | 0, n, fu + 1, M, hn, _, rc, h1 => by
    refine ⟨M, ?_, ?_, HmF.rf⟩
    · rw [f_X11_harvests_23, if_pos (by rw [lt_nI (by omega) (by omega)]; omega)]
    · rw [show D = n by omega]; exact h1
  | k + 1, n, fu + 1, M, hn, hk, rc, h1 => by
    have hw : K.1 2 ≤ 6 := ok.2.2.1
    obtain ⟨M1, e1, e2, e3⟩ := hm31_loop (n := n) (k128 := fun M_10 => f_X11_harvests_23 (nI q) (nI D) fu (nI (n + 1) + (1 : Int32)) M_10) (x2 := nI D) ok hq (by omega) (K.1 2) 0 FU M (by omega) (lt_FU (by omega)) rc h1 (fun w h => by omega)
    obtain ⟨M2, g1, g2, g3⟩ := hm23_loop ok hq hD k (n + 1) fu M1 (by omega) (by omega) (e3.C rc) e2
    refine ⟨M2, ?_, g2, e3.tr g3⟩
    rw [f_X11_harvests_23, if_neg (by rw [lt_nI (by omega) (by omega)]; omega)]
    refine e1.trans ?_
    rw [show nI (n + 1) + (1 : Int32) = nI (n + 1 + 1) from add_nI (n + 1) 1]
    exact g1
theorem hm2_loop {K : Co} {q D : Nat} (ok : OKC K) (hq : q < K.1 3) (hD : D ≤ 20) : ∀ (k i fu : Nat) (M : Mem), i + k = 6 → k < fu → RepMC (M.1 55 0) K → (∀ w, w < i → M.1 62 0 w = 0) →
    ∃ M', f_X11_harvests_2 (nI q) (nI D) fu (nI i) M = some M' ∧ (∀ m w, m ≤ D → w < K.1 2 → M'.1 62 0 (6 * m + w) = harvS K q m w) ∧ HmF M M'
  | k, i, 0, M, _, h, _, _ => by omega
  | 0, i, fu + 1, M, hi, _, rc, h0 => by
    have hw : K.1 2 ≤ 6 := ok.2.2.1
    obtain ⟨M', e1, e2, e3⟩ := hm23_loop ok hq hD D 0 FU M (by omega) (lt_FU (by omega)) rc (fun m w a b => by
      have : m = 0 := by omega
      subst this
      rw [show 6 * 0 + w = w by omega]
      exact h0 w (by omega))
    refine ⟨M', ?_, e2, e3⟩
    rw [f_X11_harvests_2, if_neg (by show ¬ nI i < nI 6; rw [lt_nI (by omega) (by omega)]; omega)]
    exact e1
  | k + 1, i, fu + 1, M, hi, hk, rc, h0 => by
    have F : HmF M (sR M 62 0 (upd (M.1 62 0) i (0 : Int32))) := HmF.set
    obtain ⟨M', e1, e2, e3⟩ := hm2_loop ok hq hD k (i + 1) fu (sR M 62 0 (upd (M.1 62 0) i (0 : Int32))) (by omega) (by omega) (F.C rc) (fun w h => by
      rw [sR_at]
      by_cases d : w = i
      · rw [d, upd_at]
      · rw [upd_ne _ _ d]; exact h0 w (by omega))
    refine ⟨M', ?_, e2, F.tr e3⟩
    rw [f_X11_harvests_2, if_pos (by show nI i < nI 6; rw [lt_nI (by omega) (by omega)]; omega), inb_nI_t (show i < 126 by omega) (by decide), if_pos rfl, nI_clamp (by omega), show nI i + (1 : Int32) = nI (i + 1) from add_nI i 1]
    exact e1
theorem harvests_sp {M : Mem} {K : Co} {q D : Nat} (ok : OKC K) (hq : q < K.1 3) (hD : D ≤ 20) (rc : RepMC (M.1 55 0) K) : ∃ M', f_X11_harvests (nI q) (nI D) M = some M' ∧ (∀ m w, m ≤ D → w < K.1 2 → M'.1 62 0 (6 * m + w) = harvS K q m w) ∧ HmF M M' :=
  hm2_loop ok hq hD 6 0 FU M (by omega) (lt_FU (by omega)) rc (fun w h => by omega)
theorem harv_both {s : Sy} (o : OKS s) (x y : Int32) : ∃ e : Int32, (∀ M, RX s M → f_X10_wrongHarvest x y M = some e) ∧ (∀ M, RM s M → f_X11_whyNoHarvest x y M = some e) ∧ (e = 0 ∨ 0 < e) ∧
    (e = 0 → ∃ q d, q < (sWo s).1.1 3 ∧ 1 ≤ d ∧ d ≤ 20 ∧ x = nI q ∧ y = nI d ∧ ¬ (sWo s).1.1 2 = 0) := by
  have hc : (sWo s).1.1 3 ≤ 10 := cnt_le o.C (by decide)
  rcases arg_in x (n := (sWo s).1.1 3) (by omega) with ⟨q, hq, rfl⟩ | hx
  · have X : ∀ M, RX s M → f_X10_wrongHarvest (nI q) y M = if y < (1 : Int32) then some (5 : Int32) else if (20 : Int32) < y then some (5 : Int32) else some (if (sWo s).1.1 2 = 0 then 8 else 0) := by
      intro M h
      unfold f_X10_wrongHarvest
      rw [show f_X10_isNo (3 : Int32) (nI q) M = some 0 from isNo_t (q := 3) h o (by decide) hq, Option.bind_some, if_pos rfl, noWeaX h o, Option.bind_some]
      by_cases c : (sWo s).1.1 2 = 0
      · rw [if_pos c, if_pos c]; rfl
      · rw [if_neg c, if_neg c]; rfl
    have Y : ∀ M, RM s M → f_X11_whyNoHarvest (nI q) y M = (f_X11_isIn y.toInt64 (1 : Int64) (20 : Int64)).bind fun r2 => if r2 = 0 then some (5 : Int32) else some (if (sWo s).1.1 2 = 0 then 8 else 0) := by
      intro M h
      have hb : (sWo s).2.1.1 4 < 16777216 := o.H.2.2.1 4 (by decide)
      unfold f_X11_whyNoHarvest
      rw [isCrop_t o.C h.C hq, Option.bind_some, if_neg (by decide)]
      have q8 : M.1 55 0 8 = (if (sWo s).1.1 2 = 0 then -1 else nI ((sWo s).2.1.1 4)) := h.H.2.2.2.2.1
      congr 1
      funext r2
      by_cases c : (sWo s).1.1 2 = 0
      · rw [if_pos c, q8, if_pos c, if_pos (show (-1 : Int32) < 0 by decide)]
      · rw [if_neg c, q8, if_neg c, if_neg (nI_pos (by omega))]
    by_cases z : 1 ≤ y.toInt ∧ y.toInt ≤ 20
    · have y1 : ¬ y < (1 : Int32) := by
        rw [Int32.lt_iff_toInt_lt]; show ¬ y.toInt < 1; omega
      have y2 : ¬ (20 : Int32) < y := by
        rw [Int32.lt_iff_toInt_lt]; show ¬ 20 < y.toInt; omega
      refine ⟨if (sWo s).1.1 2 = 0 then 8 else 0, fun M h => ?_, fun M h => ?_, ?_, fun w => ?_⟩
      · rw [X M h, if_neg y1, if_neg y2]
      · rw [Y M h, isIn_t (b := 1) (c := 20) z]; rfl
      · by_cases c : (sWo s).1.1 2 = 0
        · rw [if_pos c]; right; decide
        · rw [if_neg c]; left; rfl
      · by_cases c : (sWo s).1.1 2 = 0
        · rw [if_pos c] at w; exact absurd w (by decide)
        · refine ⟨q, y.toInt.toNat, hq, by omega, by omega, rfl, ?_, c⟩
          apply Int32.toInt_inj.mp
          rw [nI_toInt (by omega)]
          omega
    · refine ⟨5, fun M h => ?_, fun M h => ?_, Or.inr (by decide), fun w => absurd w (by decide)⟩
      · rw [X M h]
        by_cases y1 : y < (1 : Int32)
        · rw [if_pos y1]
        · have z1 : ¬ y.toInt < 1 := fun w => y1 (Int32.lt_iff_toInt_lt.mpr w)
          rw [if_neg y1, if_pos (Int32.lt_iff_toInt_lt.mpr (show (20 : Int32).toInt < y.toInt from by show (20 : Int) < y.toInt; omega))]
      · rw [Y M h, isIn_f (b := 1) (c := 20) z]; rfl
  · refine ⟨2, fun M h => ?_, fun M h => ?_, Or.inr (by decide), fun w => absurd w (by decide)⟩
    · unfold f_X10_wrongHarvest
      rw [show f_X10_isNo (3 : Int32) x M = some 1 from isNo_f (q := 3) h (by decide) hx]
      rfl
    · unfold f_X11_whyNoHarvest
      rw [isCrop_f o.C h.C hx]
      rfl
theorem step_harvest {s : Sy} (o : OKS s) (x y : Int32) : Step s (f_X10_harvest x y) (f_X11_harvest x y) := by
  have hw6 : (sWo s).1.1 2 ≤ 6 := o.C.2.2.1
  obtain ⟨e, ex, em, he, ha⟩ := harv_both o x y
  rcases he with he | he
  · obtain ⟨q, d, hq, d1, d2, rfl, rfl, hw⟩ := ha he
    subst he
    have h4 := o.w hw
    refine step_of (harvS (sWo s).1 q d ((sWo s).2.1.1 4)) (setSc s 0 0) o (fun M h => ?_) (fun M h => ?_)
    · obtain ⟨M', e1, e2, e3⟩ := reap_sp o.C hq d2 h.C
      refine ⟨stM M' 0, ?_, h.st o 0 e3.q⟩
      have e20 : M'.1 20 0 6 = nI ((sWo s).2.1.1 4) := by rw [e3.2 20 0 (by omega)]; exact h.H.1 4 (by decide)
      unfold f_X10_harvest
      rw [ex M h, Option.bind_some, if_pos rfl, e1, Option.bind_some, e20, inb_nI_t (by omega) (by decide), if_pos rfl, nI_clamp (by omega), e2 _ h4]
      rfl
    · have h3 := (h.ths o 0).1
      obtain ⟨M', e1, e2, e3⟩ := harvests_sp (M := smM (thM M) 0) o.C hq d2 h3.C
      refine ⟨M', ?_, h.s0 o e3.q (by rw [e3.2 50 0 (by decide)]; exact smM_at _ _)⟩
      have e8 : M'.1 55 0 8 = nI ((sWo s).2.1.1 4) := by rw [e3.2 55 0 (by decide)]; exact wea_at (s := setSc s 0 0) h3 hw
      unfold f_X11_harvest
      simp only
      rw [show f_X11_whyNoHarvest (nI q) (nI d) (sR M 50 0 (upd (M.1 50 0) 1 (0 : Int32))) = some 0 from em _ (h.th o).1, Option.bind_some]
      show (if 0 < (smM (thM M) 0).1 50 0 0 then _ else (f_X11_harvests (nI q) (nI d) (smM (thM M) 0)).bind _) = _
      rw [if_neg (by rw [smM_at]; decide), e1, Option.bind_some, e8, ix6, inb_nI_t (by omega) (by decide), if_pos rfl, nI_clamp (by omega), e2 d _ (by omega) h4]
  · refine step_of (-1) (setSc s 0 e) o (fun M h => ⟨stM M e, ?_, h.st o e XQ.rf⟩) (fun M h => ⟨smM (thM M) e, ?_, h.ths o e⟩)
    · unfold f_X10_harvest
      rw [ex M h, Option.bind_some, if_neg (by intro z; subst z; exact absurd he (by decide))]
      rfl
    · unfold f_X11_harvest
      simp only
      rw [show f_X11_whyNoHarvest x y (sR M 50 0 (upd (M.1 50 0) 1 (0 : Int32))) = some e from em _ (h.th o).1, Option.bind_some]
      show (if 0 < (smM (thM M) e).1 50 0 0 then _ else _) = _
      rw [if_pos (by rw [smM_at]; exact he)]
      rfl
def bestV1 (K : Co) (h : Nat → Int32) (w : Nat) : Int32 := if h (behS K w 1) < h (behS K w 0) then 0 else 1
def bestV (K : Co) (h : Nat → Int32) (w : Nat) : Int32 := if h (behS K w (bestV1 K h w)) < h (behS K w (-1)) then -1 else bestV1 K h w
theorem bestV1_in (K : Co) (h : Nat → Int32) (w : Nat) : bestV1 K h w = 0 ∨ bestV1 K h w = 1 ∨ bestV1 K h w = -1 := by
  unfold bestV1
  split
  · exact Or.inl rfl
  · exact Or.inr (Or.inl rfl)
theorem bestX_sp {M : Mem} {K : Co} {h : Nat → Int32} {w : Nat} (ok : OKC K) (rc : RepC M 0 K) (hw : w < K.1 2) (h43 : ∀ w, w < K.1 2 → M.1 43 0 w = h w) : f_X0_bestVerdict 0 (nI w) M = some (bestV K h w) := by
  have hw6 : K.1 2 ≤ 6 := ok.2.2.1
  have b1 := behS_lt ok (v := 1) hw
  have b0 := behS_lt ok (v := 0) hw
  have bm := behS_lt ok (v := -1) hw
  have bb := behS_lt ok (v := bestV1 K h w) hw
  obtain ⟨k, hk⟩ := FU_3
  unfold f_X0_bestVerdict
  rw [hk, f_X0_bestVerdict_5, if_neg (by decide), X1_weatherBehind_sp ok rc hw, Option.bind_some, inb_nI_t (by omega) (by decide), if_pos rfl, X1_weatherBehind_sp ok rc hw, Option.bind_some, inb_nI_t (by omega) (by decide), if_pos rfl, nI_clamp (by omega), nI_clamp (by omega), h43 _ b1, h43 _ b0]
  have e : ∀ x3, (x3 = bestV1 K h w) → f_X0_bestVerdict_5 0 (nI w) M (k + 2) x3 ((0 : Int32) + (-1 : Int32)) = some (bestV K h w) := by
    intro x3 e3
    subst e3
    rw [show (0 : Int32) + (-1 : Int32) = -1 from by decide, f_X0_bestVerdict_5, if_neg (by decide), X1_weatherBehind_sp ok rc hw, Option.bind_some, inb_nI_t (by omega) (by decide), if_pos rfl, X1_weatherBehind_sp ok rc hw, Option.bind_some, inb_nI_t (by omega) (by decide), if_pos rfl, nI_clamp (by omega), nI_clamp (by omega), h43 _ bb, h43 _ bm]
    unfold bestV
    by_cases c : h (behS K w (bestV1 K h w)) < h (behS K w (-1))
    · rw [if_pos c, if_pos c, f_X0_bestVerdict_5, if_pos (by decide)]
    · rw [if_neg c, if_neg c, f_X0_bestVerdict_5, if_pos (by decide)]
  by_cases c : h (behS K w 1) < h (behS K w 0)
  · rw [if_pos c]
    exact e 0 (by unfold bestV1; rw [if_pos c])
  · rw [if_neg c]
    exact e 1 (by unfold bestV1; rw [if_neg c])
theorem bestM_sp {M : Mem} {K : Co} {h : Nat → Int32} {w n : Nat} (ok : OKC K) (rc : RepMC (M.1 55 0) K) (hw : w < K.1 2) (hn : n < 20) (h8 : M.1 55 0 8 = nI w) (h62 : ∀ w, w < K.1 2 → M.1 62 0 (6 * n + w) = h w) : f_X11_harvestNow_35 (nI (n + 1)) M FU (1 : Int32) (0 : Int32) = some (bestV K h w, M) := by
  have hw6 : K.1 2 ≤ 6 := ok.2.2.1
  have b1 := behS_lt ok (v := 1) hw
  have b0 := behS_lt ok (v := 0) hw
  have bm := behS_lt ok (v := -1) hw
  have bb := behS_lt ok (v := bestV1 K h w) hw
  have en : nI (n + 1) - (1 : Int32) = nI n := sub_nI (a := n + 1) (b := 1) (by omega)
  obtain ⟨k, hk⟩ := FU_3
  rw [hk, f_X11_harvestNow_35, if_pos (by decide), h8, X11_behindOf_sp ok rc hw (Or.inl rfl), Option.bind_some, en, ix6, inb_nI_t (by omega) (by decide), if_pos rfl, X11_behindOf_sp ok rc hw (Or.inr (Or.inl rfl)), Option.bind_some, ix6, inb_nI_t (by omega) (by decide), if_pos rfl, nI_clamp (by omega), nI_clamp (by omega), h62 _ b1, h62 _ b0]
  have e : ∀ x3, (x3 = bestV1 K h w) → f_X11_harvestNow_35 (nI (n + 1)) M (k + 2) x3 ((0 : Int32) + (-1 : Int32)) = some (bestV K h w, M) := by
    intro x3 e3
    subst e3
    rw [show (0 : Int32) + (-1 : Int32) = -1 from by decide, f_X11_harvestNow_35, if_pos (by decide), h8, X11_behindOf_sp ok rc hw (Or.inr (Or.inr rfl)), Option.bind_some, en, ix6, inb_nI_t (by omega) (by decide), if_pos rfl, X11_behindOf_sp ok rc hw (bestV1_in K h w), Option.bind_some, ix6, inb_nI_t (by omega) (by decide), if_pos rfl, nI_clamp (by omega), nI_clamp (by omega), h62 _ bb, h62 _ bm]
    unfold bestV
    by_cases c : h (behS K w (bestV1 K h w)) < h (behS K w (-1))
    · rw [if_pos c, if_pos c, f_X11_harvestNow_35, if_neg (by decide)]
    · rw [if_neg c, if_neg c, f_X11_harvestNow_35, if_neg (by decide)]
  by_cases c : h (behS K w 1) < h (behS K w 0)
  · rw [if_pos c]
    exact e 0 (by unfold bestV1; rw [if_pos c])
  · rw [if_neg c]
    exact e 1 (by unfold bestV1; rw [if_neg c])
theorem step_harvestNow {s : Sy} (o : OKS s) (x y : Int32) : Step s (f_X10_harvestNow x y) (f_X11_harvestNow x y) := by
  obtain ⟨e, ex, em, he, ha⟩ := harv_both o x y
  rcases he with he | he
  · obtain ⟨q, d, hq, d1, d2, rfl, rfl, hw⟩ := ha he
    subst he
    obtain ⟨n, rfl⟩ : ∃ n, d = n + 1 := ⟨d - 1, by omega⟩
    have h4 := o.w hw
    refine step_of (bestV (sWo s).1 (harvS (sWo s).1 q n) ((sWo s).2.1.1 4)) (setSc s 0 0) o (fun M h => ?_) (fun M h => ?_)
    · obtain ⟨M', e1, e2, e3⟩ := reap_sp (D := n) o.C hq (by omega) h.C
      refine ⟨stM M' 0, ?_, h.st o 0 e3.q⟩
      have e20 : M'.1 20 0 6 = nI ((sWo s).2.1.1 4) := by rw [e3.2 20 0 (by omega)]; exact h.H.1 4 (by decide)
      unfold f_X10_harvestNow
      rw [ex M h, Option.bind_some, if_pos rfl, show nI (n + 1) - (1 : Int32) = nI n from sub_nI (a := n + 1) (b := 1) (by omega), e1, Option.bind_some, e20, bestX_sp o.C (e3.C h.C) h4 e2]
      rfl
    · have h3 := (h.ths o 0).1
      obtain ⟨M', e1, e2, e3⟩ := harvests_sp (M := smM (thM M) 0) o.C hq d2 h3.C
      refine ⟨M', ?_, h.s0 o e3.q (by rw [e3.2 50 0 (by decide)]; exact smM_at _ _)⟩
      have e8 : M'.1 55 0 8 = nI ((sWo s).2.1.1 4) := by rw [e3.2 55 0 (by decide)]; exact wea_at (s := setSc s 0 0) h3 hw
      unfold f_X11_harvestNow
      simp only
      rw [show f_X11_whyNoHarvest (nI q) (nI (n + 1)) (sR M 50 0 (upd (M.1 50 0) 1 (0 : Int32))) = some 0 from em _ (h.th o).1, Option.bind_some]
      show (if 0 < (smM (thM M) 0).1 50 0 0 then _ else (f_X11_harvests (nI q) (nI (n + 1)) (smM (thM M) 0)).bind _) = _
      rw [if_neg (by rw [smM_at]; decide), e1, Option.bind_some]
      exact bestM_sp o.C (e3.C h3.C) h4 (by omega) e8 (fun w h => e2 n w (by omega) h)
  · refine step_of (-1) (setSc s 0 e) o (fun M h => ⟨stM M e, ?_, h.st o e XQ.rf⟩) (fun M h => ⟨smM (thM M) e, ?_, h.ths o e⟩)
    · unfold f_X10_harvestNow
      rw [ex M h, Option.bind_some, if_neg (by intro z; subst z; exact absurd he (by decide))]
      rfl
    · unfold f_X11_harvestNow
      simp only
      rw [show f_X11_whyNoHarvest x y (sR M 50 0 (upd (M.1 50 0) 1 (0 : Int32))) = some e from em _ (h.th o).1, Option.bind_some]
      show (if 0 < (smM (thM M) e).1 50 0 0 then _ else _) = _
      rw [if_pos (by rw [smM_at]; exact he)]
      rfl
