/-! ===== fractions; calls on both: drawn ===== -/
def nL (n : Nat) : Int64 := Int64.ofNat n
theorem nL_toInt {n : Nat} (h : n < 2 ^ 63) : (nL n).toInt = n := Int64.toInt_ofNat_of_lt h
theorem nL_of {n : Nat} (h : n < 2 ^ 31) : (nI n).toInt64 = nL n := by
  apply Int64.toInt_inj.mp
  rw [t64, nI_toInt h, nL_toInt (by omega)]
theorem add_nL (a b : Nat) : nL a + nL b = nL (a + b) := (Int64.ofNat_add a b).symm
theorem bm64 {x : Int} (h1 : -2 ^ 63 ≤ x) (h2 : x < 2 ^ 63) : x.bmod (2 ^ 64) = x := Int.bmod_eq_of_le (by omega) (by omega)
theorem jreml_nL {a b : Nat} (ha : a < 2 ^ 62) (hb : b < 2 ^ 62) (h0 : 0 < b) : jreml (nL a) (nL b) = nL (a % b) := by
  apply Int64.toInt_inj.mp
  have hd : a / b * b ≤ a := Nat.div_mul_le_self a b
  have hq : a / b ≤ a := Nat.div_le_self a b
  have hm : a % b < b := Nat.mod_lt a h0
  have he : a / b * b + a % b = a := by rw [Nat.mul_comm]; exact Nat.div_add_mod a b
  have e1 : ((a : Int).tdiv (b : Int)) = ((a / b : Nat) : Int) := (Int.ofNat_tdiv a b).symm
  generalize a / b = q at *
  have e2 : (q : Int) * (b : Int) = ((q * b : Nat) : Int) := (Int.natCast_mul q b).symm
  generalize q * b = w at *
  unfold jreml
  rw [Int64.toInt_sub, Int64.toInt_mul, Int64.toInt_div, nL_toInt (show a < 2 ^ 63 by omega), nL_toInt (show b < 2 ^ 63 by omega), nL_toInt (show a % b < 2 ^ 63 by omega), e1, bm64 (x := (q : Int)) (by omega) (by omega), e2, bm64 (x := (w : Int)) (by omega) (by omega), bm64 (by omega) (by omega)]
  omega
theorem nL_pos {n : Nat} (h : n < 2 ^ 62) : (0 < lg_cmp (nL n) (0 : Int64)) = (0 < n) := by
  apply propext
  rw [lg_cmp_gt, Int64.lt_iff_toInt_lt, nL_toInt (by omega)]
  show (0 : Int) < _ ↔ _
  omega
theorem nL_eq0 {n : Nat} (h : n < 2 ^ 62) : (nL n = (0 : Int64)) = (n = 0) := by
  apply propext
  rw [← Int64.toInt_inj, nL_toInt (by omega)]
  show (n : Int) = 0 ↔ _
  omega
theorem mod_half {x y : Nat} (h0 : 0 < y) (h1 : 0 < x % y) : 2 * (y % (x % y)) < y := by
  have h2 : x % y < y := Nat.mod_lt x h0
  have h3 : y % (x % y) < x % y := Nat.mod_lt y h1
  have h4 := Nat.div_add_mod y (x % y)
  have h5 : 1 ≤ y / (x % y) := Nat.div_pos (by omega) h1
  have h6 : (x % y) * 1 ≤ (x % y) * (y / (x % y)) := Nat.mul_le_mul_left _ h5
  omega
theorem gcd_step (x y : Nat) : Nat.gcd x y = Nat.gcd y (x % y) := by
  rw [Nat.gcd_comm x y, Nat.gcd_rec y x, Nat.gcd_comm]
theorem euc_x : ∀ (k x y fu c : Nat), y < 2 ^ k → x < 2 ^ 62 → y < 2 ^ 62 → c + 2 * k < 99 → 2 * k + 1 < fu → f_X10_commonDivisor_9 fu (nL x) (nL y) (nI c) = some (nL (Nat.gcd x y))
  | k, x, y, 0, c, _, _, _, _, h => by omega
  | 0, x, y, fu + 1, c, hy, hx, _, hc, _ => by
    have : y = 0 := by omega
    subst this
    rw [f_X10_commonDivisor_9, if_pos (by show nI c < nI 100; rw [lt_nI (by omega) (by omega)]; omega), if_neg (by rw [nL_pos (by omega)]; omega), Nat.gcd_zero_right]
  | k + 1, x, y, fu + 1, c, hy, hx, hy2, hc, hf => by
    rw [f_X10_commonDivisor_9, if_pos (by show nI c < nI 100; rw [lt_nI (by omega) (by omega)]; omega)]
    by_cases y0 : y = 0
    · subst y0
      rw [if_neg (by rw [nL_pos (by omega)]; omega), Nat.gcd_zero_right]
    · have hm : x % y < y := Nat.mod_lt x (by omega)
      rw [if_pos (by rw [nL_pos (by omega)]; omega), if_neg (by rw [nL_eq0 (by omega)]; exact y0), jreml_nL hx hy2 (by omega), show nI c + (1 : Int32) = nI (c + 1) from add_nI c 1, gcd_step x y]
      obtain ⟨fu', rfl⟩ : ∃ fu', fu = fu' + 1 := ⟨fu - 1, by omega⟩
      rw [f_X10_commonDivisor_9, if_pos (by show nI (c + 1) < nI 100; rw [lt_nI (by omega) (by omega)]; omega)]
      by_cases r0 : x % y = 0
      · rw [if_neg (by rw [nL_pos (by omega)]; omega), r0, Nat.gcd_zero_right]
      · have hh := mod_half (x := x) (y := y) (by omega) (by omega)
        have hp : 2 ^ (k + 1) = 2 * 2 ^ k := by rw [Nat.pow_succ, Nat.mul_comm]
        rw [if_pos (by rw [nL_pos (by omega)]; omega), if_neg (by rw [nL_eq0 (by omega)]; exact r0), jreml_nL hy2 (by omega) (by omega), show nI (c + 1) + (1 : Int32) = nI (c + 2) from add_nI (c + 1) 1, gcd_step y (x % y)]
        exact euc_x k (x % y) (y % (x % y)) fu' (c + 2) (by omega) (by omega) (by omega) (by omega) (by omega)
def setF (M : Mem) (c p q : Nat) (f : Int64 × Int64) : Mem := sL (sL M c 0 (vp_updL (M.2 c 0) p f.1)) c 0 (vp_updL ((sL M c 0 (vp_updL (M.2 c 0) p f.1)).2 c 0) q f.2)
theorem euc_m {l1 l3 : Int64} {M : Mem} : ∀ (k x y fu : Nat), y < 2 ^ k → x < 2 ^ 62 → y < 2 ^ 62 → 2 * k + 1 < fu → 0 < Nat.gcd x y → f_X11_fraction_9 l1 l3 M fu (nL x) (nL y) = some (1, setF M 50 2 3 (l1 / nL (Nat.gcd x y), l3 / nL (Nat.gcd x y)))
  | k, x, y, 0, _, _, _, h, _ => by omega
  | 0, x, y, fu + 1, hy, hx, _, _, hg => by
    have : y = 0 := by omega
    subst this
    rw [Nat.gcd_zero_right] at hg ⊢
    rw [f_X11_fraction_9, if_pos (by rw [lg_cmp_eq]; rfl), if_neg (by rw [nL_eq0 hx]; omega), if_neg (by rw [nL_eq0 hx]; omega)]
    rfl
  | k + 1, x, y, fu + 1, hy, hx, hy2, hf, hg => by
    by_cases y0 : y = 0
    · subst y0
      rw [Nat.gcd_zero_right] at hg ⊢
      rw [f_X11_fraction_9, if_pos (by rw [lg_cmp_eq]; rfl), if_neg (by rw [nL_eq0 hx]; omega), if_neg (by rw [nL_eq0 hx]; omega)]
      rfl
    · have hm : x % y < y := Nat.mod_lt x (by omega)
      rw [f_X11_fraction_9, if_neg (by rw [lg_cmp_eq, nL_eq0 hy2]; exact y0), if_neg (by rw [nL_eq0 (by omega)]; exact y0), jreml_nL hx hy2 (by omega)]
      rw [gcd_step x y] at hg ⊢
      obtain ⟨fu', rfl⟩ : ∃ fu', fu = fu' + 1 := ⟨fu - 1, by omega⟩
      by_cases r0 : x % y = 0
      · rw [r0, Nat.gcd_zero_right] at hg ⊢
        rw [f_X11_fraction_9, if_pos (by rw [lg_cmp_eq]; rfl), if_neg (by rw [nL_eq0 hy2]; omega), if_neg (by rw [nL_eq0 hy2]; omega)]
        rfl
      · have hh := mod_half (x := x) (y := y) (by omega) (by omega)
        have hp : 2 ^ (k + 1) = 2 * 2 ^ k := by rw [Nat.pow_succ, Nat.mul_comm]
        rw [f_X11_fraction_9, if_neg (by rw [lg_cmp_eq, nL_eq0 (by omega)]; exact r0), if_neg (by rw [nL_eq0 (by omega)]; exact r0), jreml_nL hy2 (by omega) (by omega)]
        rw [gcd_step y (x % y)] at hg ⊢
        exact euc_m k (x % y) (y % (x % y)) fu' (by omega) (by omega) (by omega) (by omega) hg
theorem gcd_pos_y {x y : Nat} (h : 0 < y) : 0 < Nat.gcd x y := Nat.gcd_pos_of_pos_right x h
def frS (l : Int64) (x y : Nat) : Int64 × Int64 := (l / nL (Nat.gcd x y), nL y / nL (Nat.gcd x y))
theorem gcd_le_y {x y : Nat} (h : 0 < y) : Nat.gcd x y ≤ y := Nat.gcd_le_right x h
theorem tellFraction_sp {M : Mem} {l : Int64} {x y : Nat} (hl : jabsl l = nL x) (hx : x < 2 ^ 62) (h0 : 0 < y) (hy : y < 2048) : f_X10_tellFraction l (nL y) M = some (setF M 0 17 18 (frS l x y)) := by
  have hg := gcd_pos_y (x := x) h0
  have hg2 := gcd_le_y (x := x) h0
  unfold f_X10_tellFraction f_X10_commonDivisor
  rw [hl, show f_X10_commonDivisor_9 FU (nL x) (nL y) (0 : Int32) = some (nL (Nat.gcd x y)) from euc_x 11 x y FU 0 (by omega) hx (by omega) (by omega) (lt_FU (by omega)), Option.bind_some, if_pos (by rw [nL_pos (by omega)]; exact hg), if_neg (by rw [nL_eq0 (by omega)]; omega), if_neg (by rw [nL_eq0 (by omega)]; omega)]
  rfl
theorem fraction_sp {M : Mem} {l : Int64} {x y : Nat} (hl : jabsl l = nL x) (hx : x < 2 ^ 62) (h0 : 0 < y) (hy : y < 2048) : f_X11_fraction l (nL y) M = some (1, setF M 50 2 3 (frS l x y)) := by
  unfold f_X11_fraction
  rw [hl]
  exact euc_m 11 x y FU (by omega) hx (by omega) (lt_FU (by omega)) (gcd_pos_y h0)
theorem setF_1 {M : Mem} {c p q : Nat} {f : Int64 × Int64} : (setF M c p q f).1 = M.1 := rfl
theorem setF_2 {M : Mem} {c p q : Nat} {f : Int64 × Int64} {a b : Nat} (h : ¬ (a = c ∧ b = 0)) : (setF M c p q f).2 a b = M.2 a b := by
  unfold setF
  rw [sL_ne _ _ _ _ h, sL_ne _ _ _ _ h]
theorem setF_p {M : Mem} {c p q : Nat} {f : Int64 × Int64} (h : ¬ p = q) : (setF M c p q f).2 c 0 p = f.1 := by
  unfold setF
  rw [sL_at, updL_ne _ _ h, sL_at, updL_at]
theorem setF_q {M : Mem} {c p q : Nat} {f : Int64 × Int64} : (setF M c p q f).2 c 0 q = f.2 := by
  unfold setF
  rw [sL_at, updL_at]
theorem RX.fr {s : Sy} {M : Mem} {f : Int64 × Int64} (h : RX s M) : RX (setFr s f) (setF M 0 17 18 f) ∧ onX M (setF M 0 17 18 f) := by
  obtain ⟨h1, h2, h3, h4, h5, h6, h7, h8, h9⟩ := h
  refine ⟨⟨h1, ⟨setF_p (by decide), setF_q⟩, h3, fun t ht => ⟨(h4 t ht).1, (h4 t ht).2.1, fun j hj => ?_⟩, XW.eq (M := M) (fun c a b => ⟨rfl, setF_2 (a := c) (b := 0) (by omega)⟩) h5, ⟨h6.1, fun k a b => XW.eq (M := M) (fun c a b => ⟨rfl, setF_2 (a := c) (b := k) (by omega)⟩) (h6.2 k a b)⟩, h7, h8, fun i hi => ?_⟩, fun c i z => ⟨rfl, setF_2 (by omega)⟩⟩
  · rw [setF_2 (by omega)]; exact (h4 t ht).2.2 j hj
  · rw [setF_2 (by omega)]; exact h9 i hi
theorem RM.fr {s : Sy} {M : Mem} {f : Int64 × Int64} (h : RM s M) : RM (setFr s f) (setF M 50 2 3 f) ∧ onM M (setF M 50 2 3 f) := by
  obtain ⟨h1, h2, h3, h4, h5, h6, h7, h8⟩ := h
  refine ⟨⟨h1, ⟨setF_p (by decide), setF_q⟩, h3, fun t ht => ⟨(h4 t ht).1, (h4 t ht).2.1, fun j hj => ?_⟩, ?_, ⟨h6.1, fun k a b => ?_⟩, h7, h8⟩, fun c i z => ⟨rfl, setF_2 (by omega)⟩⟩
  · rw [setF_2 (by omega)]; exact (h4 t ht).2.2 j hj
  · rw [setF_2 (by omega)]; exact h5
  · rw [setF_2 (by omega)]; exact h6.2 k a b
-- what is seen of a hall in talk
theorem foldJ_rel {α β : Type} {f : α → Nat → α} {g : β → Nat → β} {R : α → β → Prop} : ∀ (k i : Nat) (a : α) (b : β), R a b → (∀ a b m, i ≤ m → m < i + k → R a b → R (f a m) (g b m)) → R (foldJ f k i a) (foldJ g k i b)
  | 0, _, _, _, h, _ => h
  | k + 1, i, a, b, h, hf => foldJ_rel k (i + 1) (f a i) (g b i) (hf a b i (Nat.le_refl _) (by omega) h) (fun a b m h1 h2 => hf a b m (by omega) (by omega))
def eqL (J : Nat) (l l' : Nat → Int32) : Prop := ∀ j, j < J → l j = l' j
theorem eqL.upd {J i : Nat} {l l' : Nat → Int32} {v : Int32} (h : eqL J l l') : eqL J (upd l i v) (upd l' i v) := by
  intro j hj
  by_cases e : j = i
  · rw [e, upd_at, upd_at]
  · rw [upd_ne _ _ e, upd_ne _ _ e]; exact h j hj
theorem pullS_eq {K : Co} {S j : Nat} {l l' : Nat → Int32} (h : eqL (K.1 0) l l') : pullS K S l j = pullS K S l' j := by
  have e : accR (swayS K S l j) (K.1 0) 0 0 = accR (swayS K S l' j) (K.1 0) 0 0 := accR_congr (K.1 0) 0 0 (fun i _ hi => by
    unfold swayS
    rw [h i (by omega)])
  unfold pullS
  rw [e]
theorem talkL_eq {K : Co} {S : Nat} {l l' : Nat → Int32} (h : eqL (K.1 0) l l') : eqL (K.1 0) (talkL K S l) (talkL K S l') := by
  unfold talkL
  refine foldJ_rel (R := eqL (K.1 0)) _ _ _ _ h (fun a b m _ hm hr => ?_)
  by_cases c : S.testBit m = true
  · simp only [if_pos c]
    rw [pullS_eq hr, hr m (by omega)]
    exact hr.upd
  · simp only [if_neg c]
    exact hr
theorem votesS_eq {J S : Nat} {l l' : Nat → Int32} (h : eqL J l l') : votesS J S l = votesS J S l' := cntR_congr J 0 (fun j _ hj => by
  rw [h j (by omega)])
theorem hungL_eq {K : Co} {S : Nat} {l l' : Nat → Int32} (h : eqL (K.1 0) l l') : eqL (K.1 0) (hungL K S l) (hungL K S l') := by
  unfold hungL sideS
  rw [votesS_eq h]
  refine foldJ_rel (R := eqL (K.1 0)) _ _ _ _ h (fun a b m _ hm hr => ?_)
  by_cases c : S.testBit m = true
  · simp only [if_pos c]
    rw [hr m (by omega)]
    exact hr.upd
  · simp only [if_neg c]
    exact hr
def eqT (J : Nat) (A B : Ha) : Prop := A.1 0 = B.1 0 ∧ A.1 2 = B.1 2 ∧ eqL J A.2.1 B.2.1
theorem eqT.round {K : Co} {e : Bool} {A B : Ha} (h : eqT (K.1 0) A B) : eqT (K.1 0) (roundS K e A) (roundS K e B) := by
  refine ⟨?_, ?_, ?_⟩
  · show updN A.1 2 (A.1 2 + 1) 0 = updN B.1 2 (B.1 2 + 1) 0
    rw [updN_ne _ _ (by decide), updN_ne _ _ (by decide)]; exact h.1
  · show updN A.1 2 (A.1 2 + 1) 2 = updN B.1 2 (B.1 2 + 1) 2
    rw [updN_at, updN_at, h.2.1]
  · show eqL (K.1 0) (if (e && decide (K.1 4 ≤ A.1 2 + 1)) = true then hungL K (A.1 0) (talkL K (A.1 0) A.2.1) else talkL K (A.1 0) A.2.1) (if (e && decide (K.1 4 ≤ B.1 2 + 1)) = true then hungL K (B.1 0) (talkL K (B.1 0) B.2.1) else talkL K (B.1 0) B.2.1)
    rw [h.1, h.2.1]
    by_cases c : (e && decide (K.1 4 ≤ B.1 2 + 1)) = true
    · rw [if_pos c, if_pos c]; exact hungL_eq (talkL_eq h.2.2)
    · rw [if_neg c, if_neg c]; exact talkL_eq h.2.2
theorem eqT.rounds {K : Co} {e : Bool} : ∀ (n : Nat) (A B : Ha), eqT (K.1 0) A B → eqT (K.1 0) (roundsS K e n A) (roundsS K e n B)
  | 0, _, _, h => h
  | n + 1, A, B, h => eqT.rounds n _ _ h.round
theorem eqT.verd {K : Co} {A B : Ha} (h : eqT (K.1 0) A B) : verdS K A = verdS K B := by
  unfold verdS
  rw [h.1, votesS_eq h.2.2]
theorem OKT.rounds {K : Co} {e : Bool} {J : Nat} : ∀ (n : Nat) (A : Ha), OKT J A → A.1 2 + n < 16777216 → OKT J (roundsS K e n A)
  | 0, _, h, _ => h
  | n + 1, A, h, hb => OKT.rounds n _ (roundS_okW h (by omega)) (by
    show updN A.1 2 (A.1 2 + 1) 2 + n < 16777216
    rw [updN_at]; omega)
theorem OKH.T {J : Nat} {A : Ha} (o : OKH J A) : OKT J A := ⟨o.1, o.2.1, fun j hj => o.2.2.1 j (by omega), trivial⟩
theorem any_nI (v : Int32) : v = nI v.toBitVec.toNat := by
  apply Int32.toBitVec_inj.mp
  show v.toBitVec = BitVec.ofNat 32 v.toBitVec.toNat
  rw [BitVec.ofNat_toNat]
  simp
theorem RepH_any (M : Mem) (h : Nat) : ∃ A, RepH M h A := ⟨((fun j => (M.1 20 h (j + 2)).toBitVec.toNat), M.1 21 h, M.1 22 h), fun j _ => any_nI _, fun _ _ => rfl, fun _ _ => rfl⟩
def toldA (K : Co) (S : Nat) : Ha := ((fun j => if j = 0 then S else 0), K.2 0, fun _ => 0)
def drawV (K : Co) (n S : Nat) : Int32 := verdS K (roundsS K (decide (0 < K.1 4)) n (toldA K S))
def drawF (K : Co) (m n : Nat) (v : Int32) (st : Nat × Nat) (S : Nat) : Nat × Nat := if seatsS (K.1 0) S = m then (st.1 + 1, st.2 + (if drawV K n S = v then 1 else 0)) else st
theorem drx_loop {K : Co} {m n : Nat} {v : Int32} (ok : OKC K) (hn : n < 1000) (hm : m < 1000) : ∀ (k S fu : Nat) (st : Nat × Nat) (M : Mem), S + k = 2 ^ K.1 0 → k < fu → st.1 ≤ S → st.2 ≤ S → RepC M 0 K →
    ∃ M' fu', f_X10_drawn_55 (nI m) (nI n) v (nI (K.1 0)) fu (nI st.1) (nI st.2) (nI S) M = f_X10_drawn_55 (nI m) (nI n) v (nI (K.1 0)) (fu' + 1) (nI (foldJ (drawF K m n v) k S st).1) (nI (foldJ (drawF K m n v) k S st).2) (nI (2 ^ K.1 0)) M' ∧ HFr 4 M M' ∧ (foldJ (drawF K m n v) k S st).1 ≤ 2 ^ K.1 0 ∧ (foldJ (drawF K m n v) k S st).2 ≤ 2 ^ K.1 0
  | k, S, 0, st, M, _, h, _, _, _ => by omega
  | 0, S, fu + 1, st, M, hi, _, h1, h2, rc => by
    have e : S = 2 ^ K.1 0 := by omega
    refine ⟨M, fu, by rw [e]; rfl, HFr.rf, ?_, ?_⟩
    · show st.1 ≤ _; omega
    · show st.2 ≤ _; omega
  | k + 1, S, fu + 1, st, M, hi, hk, h1, h2, rc => by
    have hJ := ok.J
    have h10 := p2_le ok.J
    have fold : foldJ (drawF K m n v) (k + 1) S st = foldJ (drawF K m n v) k (S + 1) (drawF K m n v st S) := rfl
    have ih := fun st M1 => drx_loop (v := v) ok hn hm k (S + 1) fu st M1 (by omega) (by omega)
    have hs : seatsS (K.1 0) S ≤ K.1 0 := seats_le
    rw [fold, f_X10_drawn_55, shl_1 _ (by omega), if_pos (by rw [lt_nI (by omega) (by omega)]; omega), bitCount_at S (by omega), Option.bind_some, seats_pc hJ (show S < 2 ^ K.1 0 by omega), show nI S + (1 : Int32) = nI (S + 1) from add_nI S 1]
    by_cases c : seatsS (K.1 0) S = m
    · rw [if_pos (by rw [c])]
      obtain ⟨A0, a0⟩ := RepH_any M 4
      obtain ⟨M1, e1, r1, f1⟩ := X3_openDay_sp hJ rc a0
      have r2 : RepH (sR M1 20 4 (upd (M1.1 20 4) 2 (nI S))) 4 (updN (openS K A0).1 0 S, (openS K A0).2) := setN_H (j := 0) (by decide) r1
      have f2 : HFr 4 M (sR M1 20 4 (upd (M1.1 20 4) 2 (nI S))) := f1.tr setN_F
      have z2 : updN (openS K A0).1 0 S 2 = 0 := by
        rw [updN_ne _ _ (by decide)]
        show updN (updN (updN A0.1 0 (2 ^ K.1 0 - 1)) 1 0) 2 0 2 = 0
        exact updN_at _ _ _
      have z0 : updN (openS K A0).1 0 S 0 = S := updN_at _ _ _
      have ot : OKT (K.1 0) (updN (openS K A0).1 0 S, (openS K A0).2) := ⟨hJ, by show updN (openS K A0).1 0 S 0 < _; rw [z0]; omega, fun j hj => by subst hj; show updN (openS K A0).1 0 S 2 < _; rw [z2]; decide, trivial⟩
      obtain ⟨M3, e3, r3, f3⟩ := X3_talkOn_spW (R := n) (RepC.fr f2 rc) r2 ot ok.2.2.2.2.1 hn (by show updN (openS K A0).1 0 S 2 + n < _; rw [z2]; omega)
      have o3 := OKT.rounds (K := K) (e := decide (0 < K.1 4)) n _ ot (by show updN (openS K A0).1 0 S 2 + n < _; rw [z2]; omega)
      have f := f2.tr f3
      have ev : verdS K (roundsS K (decide (0 < K.1 4)) n (updN (openS K A0).1 0 S, (openS K A0).2)) = drawV K n S := by
        refine eqT.verd (eqT.rounds n _ _ ⟨z0, z2, fun j hj => ?_⟩)
        exact if_pos hj
      have e4 : f_X3_ruling 4 (nI (K.1 5)) M3 = some (drawV K n S) := by
        rw [← ev]
        exact X3_ruling_spW r3 o3 ok.2.2.2.2.2.1
      rw [e1, Option.bind_some, show (1 : Int32) = nI 1 from rfl, add_nI, add_nI]
      simp only
      rw [e3, Option.bind_some, show M3.1 8 0 12 = nI (K.1 5) from (RepC.fr f rc).2.2.1, e4, Option.bind_some]
      by_cases d : drawV K n S = v
      · have e : drawF K m n v st S = (st.1 + 1, st.2 + 1) := by unfold drawF; rw [if_pos c, if_pos d]
        rw [if_pos d, e]
        obtain ⟨M', fu', g1, g2, g3⟩ := ih (st.1 + 1, st.2 + 1) M3 (by show st.1 + 1 ≤ _; omega) (by show st.2 + 1 ≤ _; omega) (RepC.fr f rc)
        exact ⟨M', fu', g1, f.tr g2, g3⟩
      · have e : drawF K m n v st S = (st.1 + 1, st.2) := by unfold drawF; rw [if_pos c, if_neg d]; rfl
        rw [if_neg d, e]
        obtain ⟨M', fu', g1, g2, g3⟩ := ih (st.1 + 1, st.2) M3 (by show st.1 + 1 ≤ _; omega) (by show st.2 ≤ _; omega) (RepC.fr f rc)
        exact ⟨M', fu', g1, f.tr g2, g3⟩
    · have e : drawF K m n v st S = st := by unfold drawF; rw [if_neg c]
      rw [if_neg (by rw [eq_nI (by omega) (by omega)]; exact c), e]
      exact ih st M (by omega) (by omega) rc
theorem put42_loop {K : Co} {x1 x2 x3 x8 : Int32} {l4 l6 : Int64} {k153 : Mem → Option (Int32 × Mem)} (ok : OKC K) : ∀ (k i fu : Nat) (M : Mem) (A : Ha), i + k = K.1 0 → k < fu → RepMC (M.1 55 0) K → RepMH (M.1 55 0) K A → (∀ j, j < i → A.2.1 j = K.2 0 j) →
    ∃ M' A', f_X11_drawn_116 k153 x1 x2 x3 l4 l6 x8 fu (nI i) M = k153 M' ∧ RepMH (M'.1 55 0) K A' ∧ A'.1 = A.1 ∧ (∀ j, j < K.1 0 → A'.2.1 j = K.2 0 j) ∧ MFr M M'
  | k, i, 0, M, A, _, h, _, _, _ => by omega
  | 0, i, fu + 1, M, A, hi, _, rc, r, ha => by
    have hJ := ok.J
    refine ⟨M, A, ?_, r, rfl, fun j hj => ha j (by omega), MFr.rf⟩
    rw [f_X11_drawn_116, show M.1 55 0 0 = nI (K.1 0) from rc.1 0 (by decide), if_neg (by rw [lt_nI (by omega) (by omega)]; omega)]
  | k + 1, i, fu + 1, M, A, hi, hk, rc, r, ha => by
    have hJ := ok.J
    have F : MFr M (putM M (42 + i) (K.2 0 i)) := putM_F (by unfold hallIx; omega)
    have r2 := putM_L (v := K.2 0 i) hJ (show i < K.1 0 by omega) r
    obtain ⟨M', A', e1, e2, e3, e4, e5⟩ := put42_loop (x1 := x1) (x2 := x2) (x3 := x3) (x8 := x8) (l4 := l4) (l6 := l6) (k153 := k153) ok k (i + 1) fu (putM M (42 + i) (K.2 0 i)) _ (by omega) (by omega) (RepMC.fr ok F.2.2 rc) r2 (fun j hj => by
      by_cases d : j = i
      · rw [d]; exact upd_at _ _ _
      · exact (upd_ne _ _ d).trans (ha j (by omega)))
    refine ⟨M', A', ?_, e2, e3, e4, F.tr e5⟩
    rw [f_X11_drawn_116, show M.1 55 0 0 = nI (K.1 0) from rc.1 0 (by decide), if_pos (by rw [lt_nI (by omega) (by omega)]; omega), show nI i + (1 : Int32) = nI (i + 1) from add_nI i 1, show (12 : Int32) + nI i = nI (12 + i) from add_nI 12 i, show (42 : Int32) + nI i = nI (42 + i) from add_nI 42 i, inb_nI_t (show 12 + i < 2375 by omega) (by decide), if_pos rfl, inb_nI_t (show 42 + i < 2375 by omega) (by decide), if_pos rfl, nI_clamp (by omega), nI_clamp (by omega), show M.1 55 0 (12 + i) = K.2 0 i from (rc.2.2.2.1 i (by omega)).1]
    exact e1
theorem drm_loop {K : Co} {m n : Nat} {v : Int32} (ok : OKC K) (hn : n < 1000) (hm : m < 1000) : ∀ (k S fu : Nat) (st : Nat × Nat) (M : Mem), S + k = 2 ^ K.1 0 → k < fu → st.1 ≤ S → st.2 ≤ S → RepMC (M.1 55 0) K → (∃ A, RepMH (M.1 55 0) K A ∧ OKH (K.1 0) A) →
    ∃ M' fu', f_X11_drawn_65 (nI m) (nI n) v fu (nL st.1) (nL st.2) (nI S) M = f_X11_drawn_65 (nI m) (nI n) v (fu' + 1) (nL (foldJ (drawF K m n v) k S st).1) (nL (foldJ (drawF K m n v) k S st).2) (nI (2 ^ K.1 0)) M' ∧ MFr M M'
  | k, S, 0, st, M, _, h, _, _, _, _ => by omega
  | 0, S, fu + 1, st, M, hi, _, h1, h2, rc, r => by
    have e : S = 2 ^ K.1 0 := by omega
    exact ⟨M, fu, by rw [e]; rfl, MFr.rf⟩
  | k + 1, S, fu + 1, st, M, hi, hk, h1, h2, rc, r => by
    have hJ := ok.J
    have h10 := p2_le ok.J
    have fold : foldJ (drawF K m n v) (k + 1) S st = foldJ (drawF K m n v) k (S + 1) (drawF K m n v st S) := rfl
    have ih := fun st M1 => drm_loop (v := v) ok hn hm k (S + 1) fu st M1 (by omega) (by omega)
    have hs : seatsS (K.1 0) S ≤ K.1 0 := seats_le
    rw [fold, f_X11_drawn_65, show M.1 55 0 0 = nI (K.1 0) from rc.1 0 (by decide), shl_1 _ (by omega), if_pos (by rw [lt_nI (by omega) (by omega)]; omega), sizeOf_sp (show S < 1024 by omega), Option.bind_some, seats_pc hJ (show S < 2 ^ K.1 0 by omega), show nI S + (1 : Int32) = nI (S + 1) from add_nI S 1]
    by_cases c : seatsS (K.1 0) S = m
    · obtain ⟨A, ra, oa⟩ := r
      rw [if_pos (by rw [c])]
      have r1 := putM_N (j := 0) (v := S) (by omega) ra
      have F1 : MFr M (putM M (posM 0) (nI S)) := putM_F (by unfold hallIx posM; simp)
      have r2 := putM_N (j := 2) (v := 0) (by omega) r1
      have F2 : MFr (putM M (posM 0) (nI S)) (putM (putM M (posM 0) (nI S)) (posM 2) (nI 0)) := putM_F (by unfold hallIx posM; simp)
      have rc2 := RepMC.fr ok (F1.tr F2).2.2 rc
      simp only
      show ∃ M' fu', f_X11_drawn_116 _ (nI m) (nI n) v (nL st.1 + (1 : Int64)) (nL st.2) (nI S) FU (0 : Int32) (putM (putM M (posM 0) (nI S)) (posM 2) (nI 0)) = _ ∧ _
      obtain ⟨M3, A3, e3, r3, z3, l3, F3⟩ := put42_loop (x1 := nI m) (x2 := nI n) (x3 := v) (x8 := nI S) (l4 := nL st.1 + (1 : Int64)) (l6 := nL st.2) (k153 := fun M_20 => (f_X11_talksFor (nI n) M_20).bind fun M21 => (f_X11_judged M21).bind fun r22 => if r22 = v then f_X11_drawn_65 (nI m) (nI n) v fu (nL st.1 + (1 : Int64)) (nL st.2 + (1 : Int64)) (nI (S + 1)) M21 else f_X11_drawn_65 (nI m) (nI n) v fu (nL st.1 + (1 : Int64)) (nL st.2 + (0 : Int64)) (nI (S + 1)) M21) ok (K.1 0) 0 FU _ _ (by omega) (lt_FU (by omega)) rc2 r2 (fun j hj => by omega)
      have z3 : A3.1 = updN (updN A.1 0 S) 2 0 := z3
      have a0 : A3.1 0 = S := by rw [z3, updN_ne _ _ (by decide), updN_at]
      have a2 : A3.1 2 = 0 := by rw [z3, updN_at]
      -- a hall that is alike where it is seen
      have o4 : OKH (K.1 0) (A3.1, (fun j => if j < K.1 0 then K.2 0 j else 0), A3.2.2) := by
        refine ⟨hJ, by show A3.1 0 < _; rw [a0]; omega, fun j hj => ?_, fun j hj => ?_⟩
        · show A3.1 j < _
          rw [z3]
          by_cases d2 : j = 2
          · rw [d2, updN_at]; decide
          · rw [updN_ne _ _ d2]
            by_cases d0 : j = 0
            · rw [d0, updN_at]; omega
            · rw [updN_ne _ _ d0]; exact oa.2.2.1 j hj
        · show inR (-99) 99 (if j < K.1 0 then K.2 0 j else 0)
          by_cases d : j < K.1 0
          · rw [if_pos d]; exact (ok.2.2.2.2.2.2.2.1 j d).1
          · rw [if_neg d]; unfold inR; decide
      have r4 : RepMH (M3.1 55 0) K (A3.1, (fun j => if j < K.1 0 then K.2 0 j else 0), A3.2.2) := by
        obtain ⟨q1, q2, q3, q4, q5, q6, q7, q8⟩ := r3
        exact ⟨q1, q2, q3, q4, q5, q6, fun j hj => by rw [q7 j hj, l3 j hj]; exact (if_pos hj).symm, q8⟩
      have rc3 := RepMC.fr ok F3.2.2 rc2
      obtain ⟨M5, e5, r5, F5⟩ := X11_talksFor_sp (R := n) ok rc3 r4 o4 hn (by show A3.1 2 + n < _; rw [a2]; omega)
      have hr := rounds_hall (K := K) (e := decide (0 < K.1 4)) n _ (K.1 0) o4 (by show A3.1 2 + n < _; rw [a2]; omega)
      have rc5 := RepMC.fr ok F5.2.2 rc3
      have ev : verdS K (roundsS K (decide (0 < K.1 4)) n (A3.1, (fun j => if j < K.1 0 then K.2 0 j else 0), A3.2.2)) = drawV K n S := by
        refine eqT.verd (eqT.rounds n _ _ ⟨a0, a2, fun j hj => ?_⟩)
        exact if_pos hj
      have ej : f_X11_judged M5 = some (drawV K n S) := by
        rw [← ev]; exact X11_judged_sp ok rc5 r5 hr.1
      have F := ((F1.tr F2).tr F3).tr F5
      have one : nL st.1 + (1 : Int64) = nL (st.1 + 1) := add_nL st.1 1
      have one2 : nL st.2 + (1 : Int64) = nL (st.2 + 1) := add_nL st.2 1
      have zero2 : nL st.2 + (0 : Int64) = nL st.2 := Int64.add_zero _
      by_cases d : drawV K n S = v
      · have e : drawF K m n v st S = (st.1 + 1, st.2 + 1) := by unfold drawF; rw [if_pos c, if_pos d]
        rw [e]
        obtain ⟨M', fu', g1, g2⟩ := ih (st.1 + 1, st.2 + 1) M5 (by show st.1 + 1 ≤ _; omega) (by show st.2 + 1 ≤ _; omega) rc5 ⟨_, r5, hr.1⟩
        exact ⟨M', fu', (by refine e3.trans ?_; rw [e5, Option.bind_some, ej, Option.bind_some, if_pos d, one, one2]; exact g1), F.tr g2⟩
      · have e : drawF K m n v st S = (st.1 + 1, st.2) := by unfold drawF; rw [if_pos c, if_neg d]; rfl
        rw [e]
        obtain ⟨M', fu', g1, g2⟩ := ih (st.1 + 1, st.2) M5 (by show st.1 + 1 ≤ _; omega) (by show st.2 ≤ _; omega) rc5 ⟨_, r5, hr.1⟩
        exact ⟨M', fu', (by refine e3.trans ?_; rw [e5, Option.bind_some, ej, Option.bind_some, if_neg d, one, zero2]; exact g1), F.tr g2⟩
    · have e : drawF K m n v st S = st := by unfold drawF; rw [if_neg c]
      rw [if_neg (by rw [eq_nI (by omega) (by omega)]; exact c), e]
      exact ih st M (by omega) (by omega) rc r
theorem some_set : ∀ J, J < 11 → ∀ m, m < J + 1 → 2 ^ m - 1 < 2 ^ J ∧ seatsS J (2 ^ m - 1) = m := by decide +kernel
theorem draw_pos {K : Co} {m n : Nat} {v : Int32} (hJ : K.1 0 ≤ 10) (hm : m ≤ K.1 0) (i : Nat) (st : Nat × Nat) (hi : i ≤ 2 ^ m - 1) : 0 < (foldJ (drawF K m n v) (2 ^ K.1 0 - i) i st).1 := by
  obtain ⟨h1, h2⟩ := some_set (K.1 0) (by omega) m (by omega)
  refine foldJ_hit (P := fun x : Nat × Nat => 0 < x.1) (Q := fun _ => True) (m := 2 ^ m - 1) (fun _ _ _ => trivial) (fun x _ => ?_) (fun x j hx => ?_) (2 ^ K.1 0 - i) i st hi (by omega) trivial
  · show 0 < (drawF K m n v x (2 ^ m - 1)).1
    unfold drawF
    rw [if_pos h2]
    exact Nat.succ_pos _
  · show 0 < (drawF K m n v x j).1
    unfold drawF
    split
    · exact Nat.succ_pos _
    · exact hx
theorem jabsl_nL {n : Nat} (h : n < 2 ^ 62) : jabsl (nL n) = nL n := by
  unfold jabsl
  by_cases c : n = 0
  · subst c
    rw [if_neg (by decide)]
    decide
  · rw [if_pos]
    rw [Int64.lt_iff_toInt_lt, nL_toInt (by omega)]
    show (0 : Int) < _
    omega
theorem step_drawn {s : Sy} (o : OKS s) (x y z : Int32) : Step s (f_X10_drawn x y z) (f_X11_drawn x y z) := by
  have hJ := o.C.J
  have h10 := p2_le o.C.J
  have cJ : ∀ M, RX s M → M.1 9 0 0 = nI ((sWo s).1.1 0) := fun M h => h.C.1 0 (by decide)
  have mJ : ∀ M, RM s M → (mR M).1 55 0 0 = nI ((sWo s).1.1 0) := fun M h => (h.r o).C.1 0 (by decide)
  by_cases cx : 1 ≤ x.toInt ∧ x.toInt ≤ ((sWo s).1.1 0 : Nat)
  · obtain ⟨m, m1, m2, rfl⟩ : ∃ m, 1 ≤ m ∧ m ≤ (sWo s).1.1 0 ∧ x = nI m := by
      refine ⟨x.toInt.toNat, by omega, by omega, ?_⟩
      apply Int32.toInt_inj.mp
      rw [nI_toInt (by omega)]
      omega
    have X : ∀ M, RX s M → f_X10_drawn (nI m) y z M = (f_X10_isNoFewRounds y).bind fun r5 => if r5 = 0 then (f_X10_isNoVerdict z.toInt64).bind fun r8 => if r8 = 0 then f_X10_drawn_55 (nI m) y z (nI ((sWo s).1.1 0)) FU (0 : Int32) (0 : Int32) (1 : Int32) M else some (0, stM M 5) else some (0, stM M 5) := by
      intro M h
      unfold f_X10_drawn
      rw [if_neg (by show ¬ nI m < nI 1; rw [lt_nI (by omega) (by omega)]; omega), cJ M h, if_neg (by rw [lt_nI (by omega) (by omega)]; omega)]
      rfl
    have Y : ∀ M, RM s M → f_X11_drawn (nI m) y z M = (f_X11_isIn y.toInt64 (0 : Int64) (9 : Int64)).bind fun r6 => if r6 = 0 then some (0, smM (mR M) 5) else (f_X11_isVerdict z.toInt64).bind fun r9 => if r9 = 0 then some (0, smM (mR M) 5) else (f_X11_keeps (mR M)).bind fun M10 => f_X11_drawn_65 (nI m) y z FU (0 : Int64) (0 : Int64) (0 : Int32) M10 := by
      intro M h
      unfold f_X11_drawn
      simp only [mR_e]
      rw [mJ M h, isIn_t (b := 1) (by rw [t64, nI_toInt (show (sWo s).1.1 0 < 2 ^ 31 by omega)]; exact cx), Option.bind_some, if_neg (by decide)]
      rfl
    rcases arg_in y (n := 10) (by decide) with ⟨n, hn, rfl⟩ | hy
    · by_cases cv : -1 ≤ z.toInt ∧ z.toInt ≤ 1
      · have ef : foldJ (drawF (sWo s).1 m n z) (2 ^ (sWo s).1.1 0) 0 (0, 0) = foldJ (drawF (sWo s).1 m n z) (2 ^ (sWo s).1.1 0 - 1) 1 (0, 0) := by
          obtain ⟨q, hq⟩ : ∃ q, 2 ^ (sWo s).1.1 0 = q + 1 := ⟨2 ^ (sWo s).1.1 0 - 1, by have := Nat.two_pow_pos ((sWo s).1.1 0); omega⟩
          have e0 : drawF (sWo s).1 m n z (0, 0) 0 = (0, 0) := by
            unfold drawF
            refine if_neg ?_
            have : seatsS ((sWo s).1.1 0) 0 = 0 := cntR_zero _ _ (fun j _ _ => by simp)
            rw [this]; omega
          rw [hq, Nat.add_sub_cancel]
          show foldJ (drawF (sWo s).1 m n z) q 1 (drawF (sWo s).1 m n z (0, 0) 0) = _
          rw [e0]
        have hpos : 0 < (foldJ (drawF (sWo s).1 m n z) (2 ^ (sWo s).1.1 0 - 1) 1 (0, 0)).1 := draw_pos hJ m2 1 (0, 0) (by have : 2 ^ 1 ≤ 2 ^ m := Nat.pow_le_pow_right (by decide) m1; omega)
        have hX : ∀ M, RX s M → ∃ M' fu', f_X10_drawn_55 (nI m) (nI n) z (nI ((sWo s).1.1 0)) FU (0 : Int32) (0 : Int32) (1 : Int32) M = f_X10_drawn_55 (nI m) (nI n) z (nI ((sWo s).1.1 0)) (fu' + 1) (nI (foldJ (drawF (sWo s).1 m n z) (2 ^ (sWo s).1.1 0 - 1) 1 (0, 0)).1) (nI (foldJ (drawF (sWo s).1 m n z) (2 ^ (sWo s).1.1 0 - 1) 1 (0, 0)).2) (nI (2 ^ (sWo s).1.1 0)) M' ∧ HFr 4 M M' ∧ (foldJ (drawF (sWo s).1 m n z) (2 ^ (sWo s).1.1 0 - 1) 1 (0, 0)).1 ≤ 2 ^ (sWo s).1.1 0 ∧ (foldJ (drawF (sWo s).1 m n z) (2 ^ (sWo s).1.1 0 - 1) 1 (0, 0)).2 ≤ 2 ^ (sWo s).1.1 0 :=
          fun M h => drx_loop (v := z) o.C (by omega) (by omega) (2 ^ (sWo s).1.1 0 - 1) 1 FU (0, 0) M (by have := Nat.two_pow_pos ((sWo s).1.1 0); omega) (lt_FU (by omega)) (Nat.zero_le _) (Nat.zero_le _) h.C
        have hM : ∀ M4, RepMC (M4.1 55 0) (sWo s).1 → RepMH (M4.1 55 0) (sWo s).1 (sWo s).2.1 → ∃ M' fu', f_X11_drawn_65 (nI m) (nI n) z FU (0 : Int64) (0 : Int64) (0 : Int32) M4 = f_X11_drawn_65 (nI m) (nI n) z (fu' + 1) (nL (foldJ (drawF (sWo s).1 m n z) (2 ^ (sWo s).1.1 0 - 1) 1 (0, 0)).1) (nL (foldJ (drawF (sWo s).1 m n z) (2 ^ (sWo s).1.1 0 - 1) 1 (0, 0)).2) (nI (2 ^ (sWo s).1.1 0)) M' ∧ MFr M4 M' := by
          intro M4 a b
          rw [← ef]
          exact drm_loop (v := z) o.C (by omega) (by omega) (2 ^ (sWo s).1.1 0) 0 FU (0, 0) M4 (by omega) (lt_FU (by omega)) (Nat.zero_le _) (Nat.zero_le _) a ⟨_, b, o.H⟩
        generalize foldJ (drawF (sWo s).1 m n z) (2 ^ (sWo s).1.1 0 - 1) 1 (0, 0) = w at *
        by_cases hw : w.1 ≤ 2 ^ (sWo s).1.1 0 ∧ w.2 ≤ 2 ^ (sWo s).1.1 0
        · have hw2 : w.1 < 2048 := by omega
          refine step_of 1 (setSc (setFr s (frS (nL w.2) w.2 w.1)) 0 0) o (fun M h => ?_) (fun M h => ?_)
          · obtain ⟨M', fu', e1, f1, -⟩ := hX M h
            have h1 : RX s M' := h.q0 o (XQ.hall (by decide) f1) (by rw [f1.2 0 0 (by decide)])
            have h2 := h1.fr (f := frS (nL w.2) w.2 w.1)
            have h3 := h2.1.st (s := setFr s (frS (nL w.2) w.2 w.1)) o 0 XQ.rf
            refine ⟨stM (setF M' 0 17 18 (frS (nL w.2) w.2 w.1)) 0, ?_, h3.1, f1.on.tr (h2.2.tr h3.2)⟩
            rw [X M h, few_t hn, Option.bind_some, if_pos rfl, noVerd_e, if_pos cv, Option.bind_some, if_pos rfl, e1, f_X10_drawn_55, shl_1 _ (by omega), if_neg (by rw [lt_nI (by omega) (by omega)]; omega), nL_of (by omega), nL_of (by omega), tellFraction_sp (x := w.2) (jabsl_nL (by omega)) (by omega) hpos hw2]
            rfl
          · obtain ⟨M4, e4, k4⟩ := X11_keeps_sp (mR M)
            have rc4 : RepMC (M4.1 55 0) (sWo s).1 := by rw [k4.2.2 55 0 (by decide)]; exact (h.r o).C
            have rh4 : RepMH (M4.1 55 0) (sWo s).1 (sWo s).2.1 := by rw [k4.2.2 55 0 (by decide)]; exact (h.r o).H
            obtain ⟨M5, fu', e5, f5⟩ := hM M4 rc4 rh4
            obtain ⟨M7, e7, q7, z7⟩ := X11_gives_sp k4 f5
            have h1 := h.s0 o q7 (by rw [z7]; exact mR_0 M)
            have h2 := h1.1.fr (f := frS (nL w.2) w.2 w.1)
            refine ⟨setF M7 50 2 3 (frS (nL w.2) w.2 w.1), ?_, h2.1, h1.2.tr h2.2⟩
            have rc5 : RepMC (M5.1 55 0) (sWo s).1 := RepMC.fr o.C f5.2.2 rc4
            rw [Y M h, isIn_t0 (n := 10) (by decide) (by decide) hn, Option.bind_some, if_neg (by decide)]
            unfold f_X11_isVerdict
            rw [isIn_t (b := -1) (c := 1) cv, Option.bind_some, if_pos oB, Option.bind_some, if_neg (by decide), e4, Option.bind_some, e5, f_X11_drawn_65, show M5.1 55 0 0 = nI ((sWo s).1.1 0) from rc5.1 0 (by decide), shl_1 _ (by omega), if_neg (by rw [lt_nI (by omega) (by omega)]; omega), e7, Option.bind_some, fraction_sp (x := w.2) (jabsl_nL (by omega)) (by omega) hpos hw2]
            rfl
        · intro M h1 h2
          obtain ⟨-, -, -, -, t1, t2⟩ := hX M h1
          exact absurd ⟨t1, t2⟩ hw
      · refine step_of 0 (setSc s 0 5) o (fun M h => ⟨stM M 5, ?_, h.st o 5 XQ.rf⟩) (fun M h => ⟨smM (mR M) 5, ?_, h.st o 5 (mR_Q M)⟩)
        · rw [X M h, few_t hn, Option.bind_some, if_pos rfl, noVerd_e, if_neg cv]
          rfl
        · rw [Y M h, isIn_t0 (n := 10) (by decide) (by decide) hn, Option.bind_some, if_neg (by decide)]
          unfold f_X11_isVerdict
          rw [isIn_f (b := -1) (c := 1) cv]
          rfl
    · refine step_of 0 (setSc s 0 5) o (fun M h => ⟨stM M 5, ?_, h.st o 5 XQ.rf⟩) (fun M h => ⟨smM (mR M) 5, ?_, h.st o 5 (mR_Q M)⟩)
      · rw [X M h, few_f hy]
        rfl
      · rw [Y M h, isIn_f0 (n := 10) (by decide) (by decide) hy]
        rfl
  · refine step_of 0 (setSc s 0 5) o (fun M h => ⟨stM M 5, ?_, h.st o 5 XQ.rf⟩) (fun M h => ⟨smM (mR M) 5, ?_, h.st o 5 (mR_Q M)⟩)
    · unfold f_X10_drawn
      by_cases c1 : x < (1 : Int32)
      · rw [if_pos c1]; rfl
      · have z1 : ¬ x.toInt < 1 := fun w => c1 (Int32.lt_iff_toInt_lt.mpr w)
        rw [if_neg c1, cJ M h, if_pos (Int32.lt_iff_toInt_lt.mpr (by rw [nI_toInt (by omega)]; omega))]
        rfl
    · unfold f_X11_drawn
      simp only [mR_e]
      rw [mJ M h, isIn_f (b := 1) (by rw [t64, nI_toInt (show (sWo s).1.1 0 < 2 ^ 31 by omega)]; exact cx)]
      rfl
