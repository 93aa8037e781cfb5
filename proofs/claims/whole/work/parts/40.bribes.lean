/-! ===== calls on both: bribes ===== -/
def briL (S : Nat) (c : Int32) (l : Nat → Int32) : Nat → Int32 := fun j => if S.testBit j = true then c else l j
def briP (S i : Nat) (c : Int32) (l : Nat → Int32) : Nat → Int32 := fun j => if j < i ∧ S.testBit j = true then c else l j
theorem briP_0 (S : Nat) (c : Int32) (l : Nat → Int32) : briP S 0 c l = l := by
  funext j
  exact if_neg (by omega)
theorem briP_all {S J i : Nat} (c : Int32) (l : Nat → Int32) (h : S < 2 ^ J) (hi : J ≤ i) : briP S i c l = briL S c l := by
  funext j
  unfold briP briL
  by_cases d : S.testBit j = true
  · rw [if_pos d]
    by_cases e : j < i
    · rw [if_pos ⟨e, d⟩]
    · rw [no_hi h (by omega)] at d; cases d
  · rw [if_neg d, if_neg (fun z => d z.2)]
theorem briP_no {S i : Nat} (c : Int32) (l : Nat → Int32) (h : S.testBit i = false) : briP S (i + 1) c l = briP S i c l := by
  funext j
  unfold briP
  by_cases e : j = i
  · subst e
    rw [if_neg (show ¬ (j < j + 1 ∧ S.testBit j = true) from by rw [h]; intro z; cases z.2), if_neg (show ¬ (j < j ∧ S.testBit j = true) from fun z => by omega)]
  · by_cases d : j < i ∧ S.testBit j = true
    · rw [if_pos d, if_pos ⟨by omega, d.2⟩]
    · rw [if_neg d, if_neg (fun z => d ⟨by omega, z.2⟩)]
theorem briP_up {S i : Nat} (c : Int32) (l : Nat → Int32) (h : S.testBit i = true) : briP S (i + 1) c l = upd (briP S i c l) i c := by
  funext j
  by_cases e : j = i
  · subst e
    rw [upd_at]
    exact if_pos ⟨by omega, h⟩
  · rw [upd_ne _ _ e]
    unfold briP
    by_cases d : j < i ∧ S.testBit j = true
    · rw [if_pos d, if_pos ⟨by omega, d.2⟩]
    · rw [if_neg d, if_neg (fun z => d ⟨by omega, z.2⟩)]
theorem briL_in {S : Nat} {c : Int32} {l : Nat → Int32} (hc : inR (-99) 99 c) (h : inL l) : inL (briL S c l) := by
  intro j hj
  unfold briL
  by_cases d : S.testBit j = true
  · rw [if_pos d]; exact hc
  · rw [if_neg d]; exact h j hj
theorem side_in {v : Int32} (h : v = 1 ∨ v = -1) : inR (-99) 99 (v * 99) := by
  rcases h with h | h
  · subst h; unfold inR; decide
  · subst h; unfold inR; decide
def briA (A : Ha) (S : Nat) (c : Int32) : Ha := (A.1, briL S c A.2.1, A.2.2)
def winV (K : Co) (A : Ha) (c : Int32) (n S : Nat) : Int32 := verdS K (roundsS K (decide (0 < K.1 4)) n (briA A S c))
theorem wn_loop {K : Co} {A : Ha} {S n : Nat} {v side : Int32} (ok : OKC K) (o : OKH (K.1 0) A) (hs : side = 1 ∨ side = -1) (hS : S < 2 ^ K.1 0) (hn : n < 1000) (hb : A.1 2 + n < 16777216) : ∀ (k i fu : Nat) (M : Mem), i + k = 10 → k < fu → RepC M 0 K → RepH M 4 (A.1, briP S i (side * 99) A.2.1, A.2.2) →
    ∃ M', f_X10_wins_17 (nI S) v side (nI n) fu (nI i) M = some (if winV K A (side * 99) n S = v then 1 else 0, M') ∧ HFr 4 M M'
  | k, i, 0, M, _, h, _, _ => by omega
  | 0, i, fu + 1, M, hi, _, rc, r => by
    rw [briP_all _ _ hS (by have := ok.J; omega)] at r
    have o2 : OKH (K.1 0) (A.1, briL S (side * 99) A.2.1, A.2.2) := o.lean (briL_in (side_in hs) o.toL)
    obtain ⟨M2, e2, r2, f2⟩ := X3_talkOn_sp rc r o2 ok.2.2.2.2.1 hn hb
    have hr := rounds_hall (K := K) (e := decide (0 < K.1 4)) n _ _ o2 hb
    have e3 : f_X3_ruling 4 (nI (K.1 5)) M2 = some (winV K A (side * 99) n S) := X3_ruling_sp r2 hr.1 ok.2.2.2.2.2.1
    refine ⟨M2, ?_, f2⟩
    rw [f_X10_wins_17, if_neg (by show ¬ nI i < nI 10; rw [lt_nI (by omega) (by omega)]; omega), e2, Option.bind_some, show M2.1 8 0 12 = nI (K.1 5) from (RepC.fr f2 rc).2.2.1, e3, Option.bind_some]
    by_cases c : winV K A (side * 99) n S = v
    · rw [if_pos c, if_pos c]
    · rw [if_neg c, if_neg c]
  | k + 1, i, fu + 1, M, hi, hk, rc, r => by
    have h10 : S < 1024 := Nat.lt_of_lt_of_le hS (p2_le ok.J)
    rw [f_X10_wins_17, if_pos (by show nI i < nI 10; rw [lt_nI (by omega) (by omega)]; omega), show nI i + (1 : Int32) = nI (i + 1) from add_nI i 1]
    cases hb2 : S.testBit i with
    | false =>
      obtain ⟨M', e1, e2⟩ := wn_loop (v := v) ok o hs hS hn hb k (i + 1) fu M (by omega) (by omega) rc (by rw [briP_no _ _ hb2]; exact r)
      exact ⟨M', by rw [if_pos (by rw [bitZ S i h10 (by omega)]; exact hb2)]; exact e1, e2⟩
    | true =>
      have r2 := putL_H (i := i) (v := side * 99) r
      obtain ⟨M', e1, e2⟩ := wn_loop (v := v) ok o hs hS hn hb k (i + 1) fu (putL M 4 i (side * 99)) (by omega) (by omega) (RepC.fr putL_F rc) (by rw [briP_up _ _ hb2]; exact r2)
      refine ⟨M', ?_, (putL_F (v := side * 99)).tr e2⟩
      rw [if_neg (by rw [bitZ S i h10 (by omega), hb2]; decide), inb_nI_t (show i < 10 by omega) (by decide), if_pos rfl, nI_clamp (by omega)]
      exact e1
theorem wins_sp {M : Mem} {K : Co} {A : Ha} {S n : Nat} {v side : Int32} (ok : OKC K) (o : OKH (K.1 0) A) (hs : side = 1 ∨ side = -1) (hS : S < 2 ^ K.1 0) (hn : n < 1000) (hb : A.1 2 + n < 16777216) (rc : RepC M 0 K) (r : RepH M 0 A) :
    ∃ M', f_X10_wins (nI S) v side (nI n) M = some (if winV K A (side * 99) n S = v then 1 else 0, M') ∧ HFr 4 M M' := by
  obtain ⟨M1, e1, r1, f1⟩ := X3_copyFrom_sp (h := 4) (i := 0) (by decide) r
  obtain ⟨M2, e2, f2⟩ := wn_loop (v := v) ok o hs hS hn hb 10 0 FU M1 (by omega) (lt_FU (by omega)) (RepC.fr f1 rc) (by rw [briP_0]; exact r1)
  refine ⟨M2, ?_, f1.tr f2⟩
  unfold f_X10_wins
  rw [e1, Option.bind_some]
  exact e2
def prF (K : Co) (S : Nat) (a : Int32) (i : Nat) : Int32 := if S.testBit i = true then a + K.2 2 i else a
def prS (K : Co) (S : Nat) : Int32 := foldJ (prF K S) (K.1 0) 0 0
theorem pr_loop {M : Mem} {K : Co} {S : Nat} (ok : OKC K) (rc : RepC M 0 K) (h10 : S < 1024) : ∀ (k i fu : Nat) (a : Int32), i + k = K.1 0 → k < fu →
    f_X1_priceOf_4 0 (nI S) M fu a (nI i) = some (foldJ (prF K S) k i a)
  | k, i, 0, a, _, h => by omega
  | 0, i, fu + 1, a, hi, _ => by
    have hJ := ok.J
    rw [f_X1_priceOf_4, show M.1 9 0 0 = nI (K.1 0) from rc.1 0 (by decide), if_neg (by rw [lt_nI (by omega) (by omega)]; omega)]
    rfl
  | k + 1, i, fu + 1, a, hi, hk => by
    have hJ := ok.J
    rw [f_X1_priceOf_4, show M.1 9 0 0 = nI (K.1 0) from rc.1 0 (by decide), if_pos (by rw [lt_nI (by omega) (by omega)]; omega), show nI i + (1 : Int32) = nI (i + 1) from add_nI i 1]
    show _ = some (foldJ (prF K S) k (i + 1) (prF K S a i))
    cases hb : S.testBit i with
    | false =>
      have e : prF K S a i = a := by unfold prF; rw [hb]; rfl
      rw [if_pos (by rw [bitZ S i h10 (by omega)]; exact hb), pr_loop ok rc h10 k (i + 1) fu a (by omega) (by omega), e]
    | true =>
      have e : prF K S a i = a + K.2 2 i := by unfold prF; rw [if_pos hb]
      rw [if_neg (by rw [bitZ S i h10 (by omega), hb]; decide), inb_nI_t (show i < 10 by omega) (by decide), if_pos rfl, nI_clamp (by omega)]
      simp only
      rw [show M.1 13 0 i = K.2 2 i from (rc.2.2.2.1 i (by omega)).2.2, pr_loop ok rc h10 k (i + 1) fu _ (by omega) (by omega), e]
theorem priceOf_sp {M : Mem} {K : Co} {S : Nat} (ok : OKC K) (rc : RepC M 0 K) (h10 : S < 1024) : f_X1_priceOf 0 (nI S) M = some (prS K S) := by
  have hJ := ok.J
  exact pr_loop ok rc h10 (K.1 0) 0 FU 0 (by omega) (lt_FU (by omega))
theorem pm2_loop {M : Mem} {K : Co} {S : Nat} {k138 : Int32 → Option (Int32 × Mem)} {x1 x2 x3 x4 x5 : Int32} (ok : OKC K) (rc : RepMC (M.1 55 0) K) (h10 : S < 1024) : ∀ (k i fu : Nat) (a : Int32), i + k = K.1 0 → k < fu →
    f_X11_bribes_92 k138 x1 x2 x3 x4 x5 (nI S) M fu a (nI i) = k138 (foldJ (prF K S) k i a)
  | k, i, 0, a, _, h => by omega
  | 0, i, fu + 1, a, hi, _ => by
    have hJ := ok.J
    rw [f_X11_bribes_92, show M.1 55 0 0 = nI (K.1 0) from rc.1 0 (by decide), if_neg (by rw [lt_nI (by omega) (by omega)]; omega)]
    rfl
  | k + 1, i, fu + 1, a, hi, hk => by
    have hJ := ok.J
    rw [f_X11_bribes_92, show M.1 55 0 0 = nI (K.1 0) from rc.1 0 (by decide), if_pos (by rw [lt_nI (by omega) (by omega)]; omega), show nI i + (1 : Int32) = nI (i + 1) from add_nI i 1, has_at h10 (by omega), Option.bind_some]
    show _ = k138 (foldJ (prF K S) k (i + 1) (prF K S a i))
    cases hb : S.testBit i with
    | false =>
      have e : prF K S a i = a := by unfold prF; rw [hb]; rfl
      rw [ifb_f, Int32.add_zero, pm2_loop ok rc h10 k (i + 1) fu a (by omega) (by omega), e]
    | true =>
      have e : prF K S a i = a + K.2 2 i := by unfold prF; rw [if_pos hb]
      rw [ifb_t, show (32 : Int32) + nI i = nI (32 + i) from add_nI 32 i, inb_nI_t (show 32 + i < 2375 by omega) (by decide), if_pos rfl, nI_clamp (by omega)]
      simp only
      rw [show M.1 55 0 (32 + i) = K.2 2 i from (rc.2.2.2.1 i (by omega)).2.2, pm2_loop ok rc h10 k (i + 1) fu _ (by omega) (by omega), e]
theorem pm2_at {M : Mem} {K : Co} {S : Nat} {k138 : Int32 → Option (Int32 × Mem)} {x1 x2 x3 x4 x5 : Int32} (ok : OKC K) (rc : RepMC (M.1 55 0) K) (h10 : S < 1024) : f_X11_bribes_92 k138 x1 x2 x3 x4 x5 (nI S) M FU (0 : Int32) (0 : Int32) = k138 (prS K S) := by
  have hJ := ok.J
  exact pm2_loop ok rc h10 (K.1 0) 0 FU 0 (by omega) (lt_FU (by omega))
theorem bp_loop {K : Co} {A : Ha} {S : Nat} {side : Int32} {k201 : Mem → Option (Int32 × Mem)} {x1 x3 x4 x5 x7 : Int32} (ok : OKC K) (h10 : S < 1024) : ∀ (k i fu : Nat) (M : Mem), i + k = K.1 0 → k < fu → RepMC (M.1 55 0) K → RepMH (M.1 55 0) K (A.1, briP S i (side * 99) A.2.1, A.2.2) →
    ∃ M', f_X11_bribes_160 k201 x1 side x3 x4 x5 (nI S) x7 fu (nI i) M = k201 M' ∧ RepMH (M'.1 55 0) K (A.1, briP S (K.1 0) (side * 99) A.2.1, A.2.2) ∧ MFr M M'
  | k, i, 0, M, _, h, _, _ => by omega
  | 0, i, fu + 1, M, hi, _, rc, r => by
    have hJ := ok.J
    refine ⟨M, ?_, by rw [show K.1 0 = i by omega]; exact (by rw [show K.1 0 = i by omega] at *; exact r), MFr.rf⟩
    rw [f_X11_bribes_160, show M.1 55 0 0 = nI (K.1 0) from rc.1 0 (by decide), if_neg (by rw [lt_nI (by omega) (by omega)]; omega)]
  | k + 1, i, fu + 1, M, hi, hk, rc, r => by
    have hJ := ok.J
    rw [f_X11_bribes_160, show M.1 55 0 0 = nI (K.1 0) from rc.1 0 (by decide), if_pos (by rw [lt_nI (by omega) (by omega)]; omega), show nI i + (1 : Int32) = nI (i + 1) from add_nI i 1, has_at h10 (by omega), Option.bind_some]
    cases hb : S.testBit i with
    | false =>
      rw [ifb_f]
      exact bp_loop ok h10 k (i + 1) fu M (by omega) (by omega) rc (by rw [briP_no _ _ hb]; exact r)
    | true =>
      have F : MFr M (putM M (42 + i) (side * 99)) := putM_F (by unfold hallIx; omega)
      have r2 := putM_L (v := side * 99) hJ (show i < K.1 0 by omega) r
      obtain ⟨M', e1, e2, e3⟩ := bp_loop (A := A) (side := side) (k201 := k201) (x1 := x1) (x3 := x3) (x4 := x4) (x5 := x5) (x7 := x7) ok h10 k (i + 1) fu (putM M (42 + i) (side * 99)) (by omega) (by omega) (RepMC.fr ok F.2.2 rc) (by rw [briP_up _ _ hb]; exact r2)
      refine ⟨M', ?_, e2, F.tr e3⟩
      rw [ifb_t, show (42 : Int32) + nI i = nI (42 + i) from add_nI 42 i, inb_nI_t (show 42 + i < 2375 by omega) (by decide), if_pos rfl, nI_clamp (by omega), Int32.mul_comm]
      exact e1
theorem bm_try {K : Co} {A : Ha} {M : Mem} {S n : Nat} {v side : Int32} {x4 x5 x7 : Int32} (kk : Int32 → Int32 → Int32 → Mem → Option (Int32 × Mem)) (ok : OKC K) (o : OKH (K.1 0) A) (hs : side = 1 ∨ side = -1) (hS : S < 2 ^ K.1 0) (hn : n < 1000) (hb : A.1 2 + n < 16777216) (rc : RepMC (M.1 55 0) K) (r : RepMH (M.1 55 0) K A) :
    ∃ M7, ((f_X11_keeps M).bind fun M12 => f_X11_bribes_160 (fun M_16 => (f_X11_talksFor (nI n) M_16).bind fun M17 => (f_X11_judged M17).bind fun r18 => if r18 = v then f_X11_bribes_219 kk v side (nI n) x4 x5 (nI S) x7 (1 : Int32) M17 else f_X11_bribes_219 kk v side (nI n) x4 x5 (nI S) x7 (0 : Int32) M17) v side (nI n) x4 x5 (nI S) x7 FU (0 : Int32) M12) = (if winV K A (side * 99) n S = v then kk (nI S) x7 (nI (S + 1)) M7 else kk x4 x5 (nI (S + 1)) M7) ∧ MQm M M7 ∧ M7.1 50 0 = M.1 50 0 := by
  have hJ := ok.J
  have h10 : S < 1024 := Nat.lt_of_lt_of_le hS (p2_le ok.J)
  obtain ⟨M4, e4, k4⟩ := X11_keeps_sp M
  have rc4 : RepMC (M4.1 55 0) K := by rw [k4.2.2 55 0 (by decide)]; exact rc
  have r4 : RepMH (M4.1 55 0) K A := by rw [k4.2.2 55 0 (by decide)]; exact r
  obtain ⟨M5, e5, r5, f5⟩ := bp_loop (A := A) (S := S) (side := side) (k201 := fun M_16 => (f_X11_talksFor (nI n) M_16).bind fun M17 => (f_X11_judged M17).bind fun r18 => if r18 = v then f_X11_bribes_219 kk v side (nI n) x4 x5 (nI S) x7 (1 : Int32) M17 else f_X11_bribes_219 kk v side (nI n) x4 x5 (nI S) x7 (0 : Int32) M17) (x1 := v) (x3 := nI n) (x4 := x4) (x5 := x5) (x7 := x7) ok h10 (K.1 0) 0 FU M4 (by omega) (lt_FU (by omega)) rc4 (by rw [briP_0]; exact r4)
  rw [briP_all _ _ hS (Nat.le_refl _)] at r5
  have o2 : OKH (K.1 0) (A.1, briL S (side * 99) A.2.1, A.2.2) := o.lean (briL_in (side_in hs) o.toL)
  have rc5 := RepMC.fr ok f5.2.2 rc4
  obtain ⟨M6, e6, r6, f6⟩ := X11_talksFor_sp ok rc5 r5 o2 hn hb
  have hr := rounds_hall (K := K) (e := decide (0 < K.1 4)) n _ _ o2 hb
  obtain ⟨M7, e7, q7, z7⟩ := X11_gives_sp k4 (f5.tr f6)
  have ej : f_X11_judged M6 = some (winV K A (side * 99) n S) := X11_judged_sp ok (RepMC.fr ok f6.2.2 rc5) r6 hr.1
  refine ⟨M7, ?_, q7, z7⟩
  rw [e4, Option.bind_some]
  refine e5.trans ?_
  rw [e6, Option.bind_some, ej, Option.bind_some]
  unfold f_X11_bribes_219
  rw [e7, Option.bind_some, Option.bind_some, show nI S + (1 : Int32) = nI (S + 1) from add_nI S 1]
  by_cases c : winV K A (side * 99) n S = v
  · rw [if_pos c, if_pos c]; rfl
  · rw [if_neg c, if_neg c]; rfl
theorem and_sub (a b : Nat) : (a &&& b = a) ↔ ∀ i, a.testBit i = true → b.testBit i = true := by
  constructor
  · intro h i hi
    have := congrArg (fun x => Nat.testBit x i) h
    simp only [Nat.testBit_and, hi, Bool.true_and] at this
    exact this
  · intro h
    apply Nat.eq_of_testBit_eq
    intro i
    rw [Nat.testBit_and]
    cases c : a.testBit i with
    | false => rfl
    | true => rw [h i c]; rfl
theorem andn_sub {a S : Nat} (ha : a < 1024) : (nI a &&& (nI S ^^^ (-1 : Int32)) = 0) = (a &&& S = a) := by
  have bit : ∀ i, i < 32 → (nI a &&& (nI S ^^^ (-1 : Int32))).toBitVec.getLsbD i = (a.testBit i && !(S.testBit i)) := by
    intro i hi
    show ((BitVec.ofNat 32 a) &&& ((BitVec.ofNat 32 S) ^^^ (BitVec.allOnes 32))).getLsbD i = _
    rw [BitVec.getLsbD_and, BitVec.getLsbD_xor, BitVec.getLsbD_ofNat, BitVec.getLsbD_ofNat, BitVec.getLsbD_allOnes]
    simp [hi]
  apply propext
  rw [and_sub]
  constructor
  · intro h i hi
    have hi32 : i < 32 := by
      rcases Nat.lt_or_ge i 32 with q | q
      · exact q
      · rw [no_hi (J := 10) (S := a) (j := i) ha (by omega)] at hi; cases hi
    have b := bit i hi32
    rw [h, hi] at b
    have z : (0 : Int32).toBitVec.getLsbD i = false := by
      show (0 : BitVec 32).getLsbD i = false
      simp
    rw [z] at b
    cases c : S.testBit i with
    | true => rfl
    | false => rw [c] at b; cases b
  · intro h
    apply Int32.toBitVec_inj.mp
    apply BitVec.eq_of_getLsbD_eq
    intro i hi
    have z : (0 : Int32).toBitVec.getLsbD i = false := by
      show (0 : BitVec 32).getLsbD i = false
      simp
    rw [bit i hi, z]
    cases c : a.testBit i with
    | false => rfl
    | true => rw [h i c]; rfl
theorem and_eqN {a S : Nat} (ha : a < 1024) : (nI a &&& nI S = nI a) = (a &&& S = a) := by
  rw [and_nI, eq_nI (Nat.lt_of_le_of_lt Nat.and_le_left (by omega)) (by omega)]
def cheapF (K : Co) (A : Ha) (c v : Int32) (n : Nat) (x : Option Nat × Int32) (S : Nat) : Option Nat × Int32 := if S &&& A.1 0 = S ∧ (x.1 = none ∨ prS K S < x.2) ∧ winV K A c n S = v then (some S, prS K S) else x
theorem enN_none {x : Option Nat} (h : ∀ b, x = some b → b < 2 ^ 31) : (enN x = -1) = (x = none) := by
  cases x with
  | none => simp [enN]
  | some b =>
    have hb := h b rfl
    apply propext
    constructor
    · intro z
      have z : nI b = -1 := z
      have := nI_toInt hb
      rw [z] at this
      have : (-1 : Int) = (b : Int) := this
      omega
    · intro z; cases z
theorem enN_neg {x : Option Nat} (h : ∀ b, x = some b → b < 2 ^ 31) : (enN x < 0) = (x = none) := by
  cases x with
  | none => simp [enN]
  | some b =>
    have hb := h b rfl
    apply propext
    constructor
    · intro z; exact absurd z (nI_pos hb)
    · intro z; cases z
theorem cs_loop {K : Co} {A : Ha} {n : Nat} {v side : Int32} (ok : OKC K) (o : OKH (K.1 0) A) (hs : side = 1 ∨ side = -1) (hn : n < 1000) (hb : A.1 2 + n < 16777216) : ∀ (k S fu : Nat) (x : Option Nat × Int32) (M : Mem), S + k = 2 ^ K.1 0 → k < fu → (∀ b, x.1 = some b → b < 2 ^ K.1 0) → RepC M 0 K → RepH M 0 A →
    ∃ M', f_X10_cheapestSet_30 v side (nI n) 0 (nI (A.1 0)) fu (enN x.1) x.2 (nI S) M = some (enN (foldJ (cheapF K A (side * 99) v n) k S x).1, M') ∧ HFr 4 M M' ∧ ∀ b, (foldJ (cheapF K A (side * 99) v n) k S x).1 = some b → b < 2 ^ K.1 0
  | k, S, 0, x, M, _, h, _, _, _ => by omega
  | 0, S, fu + 1, x, M, hi, _, hx, rc, r => by
    have hJ := ok.J
    have h10 := p2_le ok.J
    refine ⟨M, ?_, HFr.rf, hx⟩
    rw [f_X10_cheapestSet_30, show M.1 9 0 0 = nI (K.1 0) from rc.1 0 (by decide), shl_1 _ (by omega), if_neg (by rw [lt_nI (by omega) (by omega)]; omega)]
    rfl
  | k + 1, S, fu + 1, x, M, hi, hk, hx, rc, r => by
    have hJ := ok.J
    have h10 := p2_le ok.J
    have hx31 : ∀ b, x.1 = some b → b < 2 ^ 31 := fun b h => by have := hx b h; omega
    have e76 : ∀ kk : Int32 → Int32 → Int32 → Mem → Option (Int32 × Mem), ∃ M', f_X10_cheapestSet_76 kk v side (nI n) 0 (nI (A.1 0)) (enN x.1) x.2 (nI S) (prS K S) M = (if winV K A (side * 99) n S = v then kk (nI S) (prS K S) (nI (S + 1)) M' else kk (enN x.1) x.2 (nI (S + 1)) M') ∧ HFr 4 M M' := by
      intro kk
      obtain ⟨M', e, f⟩ := wins_sp (v := v) ok o hs (show S < 2 ^ K.1 0 by omega) hn hb rc r
      refine ⟨M', ?_, f⟩
      unfold f_X10_cheapestSet_76
      rw [e, Option.bind_some, show nI S + (1 : Int32) = nI (S + 1) from add_nI S 1]
      by_cases c : winV K A (side * 99) n S = v
      · rw [if_pos c, if_pos c]; rfl
      · rw [if_neg c, if_neg c]; rfl
    rw [f_X10_cheapestSet_30, show M.1 9 0 0 = nI (K.1 0) from rc.1 0 (by decide), shl_1 _ (by omega), if_pos (by rw [lt_nI (by omega) (by omega)]; omega)]
    have ih := fun y M1 => cs_loop (v := v) ok o hs hn hb k (S + 1) fu y M1 (by omega) (by omega)
    have fold : foldJ (cheapF K A (side * 99) v n) (k + 1) S x = foldJ (cheapF K A (side * 99) v n) k (S + 1) (cheapF K A (side * 99) v n x S) := rfl
    rw [fold]
    have keep : cheapF K A (side * 99) v n x S = x → ∃ M', f_X10_cheapestSet_30 v side (nI n) 0 (nI (A.1 0)) fu (enN x.1) x.2 (nI S + (1 : Int32)) M = some (enN (foldJ (cheapF K A (side * 99) v n) k (S + 1) (cheapF K A (side * 99) v n x S)).1, M') ∧ HFr 4 M M' ∧ ∀ b, (foldJ (cheapF K A (side * 99) v n) k (S + 1) (cheapF K A (side * 99) v n x S)).1 = some b → b < 2 ^ K.1 0 := by
      intro e
      rw [e, show nI S + (1 : Int32) = nI (S + 1) from add_nI S 1]
      exact ih x M hx rc r
    have goW : (S &&& A.1 0 = S) → (x.1 = none ∨ prS K S < x.2) → ∃ M', f_X10_cheapestSet_76 (fun x6_3 x7_3 x8_3 M_3 => f_X10_cheapestSet_30 v side (nI n) 0 (nI (A.1 0)) fu x6_3 x7_3 x8_3 M_3) v side (nI n) 0 (nI (A.1 0)) (enN x.1) x.2 (nI S) (prS K S) M = some (enN (foldJ (cheapF K A (side * 99) v n) k (S + 1) (cheapF K A (side * 99) v n x S)).1, M') ∧ HFr 4 M M' ∧ ∀ b, (foldJ (cheapF K A (side * 99) v n) k (S + 1) (cheapF K A (side * 99) v n x S)).1 = some b → b < 2 ^ K.1 0 := by
      intro c1 c2
      obtain ⟨M1, e1, f1⟩ := e76 (fun x6_3 x7_3 x8_3 M_3 => f_X10_cheapestSet_30 v side (nI n) 0 (nI (A.1 0)) fu x6_3 x7_3 x8_3 M_3)
      rw [e1]
      by_cases c : winV K A (side * 99) n S = v
      · have e : cheapF K A (side * 99) v n x S = (some S, prS K S) := if_pos ⟨c1, c2, c⟩
        rw [if_pos c, e]
        obtain ⟨M2, a1, a2, a3⟩ := ih (some S, prS K S) M1 (fun b h => by cases h; omega) (RepC.fr f1 rc) (r.fr f1 (by decide))
        exact ⟨M2, a1, f1.tr a2, a3⟩
      · have e : cheapF K A (side * 99) v n x S = x := if_neg (fun z => c z.2.2)
        rw [if_neg c, e]
        obtain ⟨M2, a1, a2, a3⟩ := ih x M1 hx (RepC.fr f1 rc) (r.fr f1 (by decide))
        exact ⟨M2, a1, f1.tr a2, a3⟩
    by_cases c1 : S &&& A.1 0 = S
    · rw [if_pos (by rw [and_eqN (by omega)]; exact c1), priceOf_sp ok rc (by omega), Option.bind_some]
      by_cases c2 : x.1 = none
      · rw [if_pos (by rw [enN_none hx31]; exact c2)]
        exact goW c1 (Or.inl c2)
      · rw [if_neg (by rw [enN_none hx31]; exact c2)]
        by_cases c3 : prS K S < x.2
        · rw [if_pos c3]
          exact goW c1 (Or.inr c3)
        · rw [if_neg c3]
          exact keep (if_neg (fun z => z.2.1.elim c2 c3))
    · rw [if_neg (by rw [and_eqN (by omega)]; exact c1)]
      exact keep (if_neg (fun z => c1 z.1))
/-- how the reference ends -/
def bribEnd (x : Option Nat × Int32) (M : Mem) : Option (Int32 × Mem) := match x.1 with
  | none => some (-1, smM M 8)
  | some b => some (x.2, sR M 50 0 (upd (M.1 50 0) 31 (nI b)))
theorem cm2_loop {K : Co} {A : Ha} {n : Nat} {v side : Int32} (ok : OKC K) (o : OKH (K.1 0) A) (hs : side = 1 ∨ side = -1) (hn : n < 1000) (hb : A.1 2 + n < 16777216) : ∀ (k S fu : Nat) (x : Option Nat × Int32) (M : Mem), S + k = 2 ^ K.1 0 → k < fu → (∀ b, x.1 = some b → b < 2 ^ K.1 0) → RepMC (M.1 55 0) K → RepMH (M.1 55 0) K A →
    ∃ M', f_X11_bribes_55 v side (nI n) fu (enN x.1) x.2 (nI S) M = bribEnd (foldJ (cheapF K A (side * 99) v n) k S x) M' ∧ MQm M M' ∧ M'.1 50 0 = M.1 50 0
  | k, S, 0, x, M, _, h, _, _, _ => by omega
  | 0, S, fu + 1, x, M, hi, _, hx, rc, r => by
    have hJ := ok.J
    have h10 := p2_le ok.J
    have hx31 : ∀ b, x.1 = some b → b < 2 ^ 31 := fun b h => by have := hx b h; omega
    refine ⟨M, ?_, MQm.rf, rfl⟩
    rw [f_X11_bribes_55, show M.1 55 0 0 = nI (K.1 0) from rc.1 0 (by decide), shl_1 _ (by omega), if_neg (by rw [lt_nI (by omega) (by omega)]; omega)]
    show _ = bribEnd x M
    obtain ⟨x1, x2⟩ := x
    cases x1 with
    | none => rfl
    | some b => rw [if_neg (by rw [enN_neg hx31]; intro z; cases z)]; rfl
  | k + 1, S, fu + 1, x, M, hi, hk, hx, rc, r => by
    have hJ := ok.J
    have h10 := p2_le ok.J
    have hx31 : ∀ b, x.1 = some b → b < 2 ^ 31 := fun b h => by have := hx b h; omega
    rw [f_X11_bribes_55, show M.1 55 0 0 = nI (K.1 0) from rc.1 0 (by decide), shl_1 _ (by omega), if_pos (by rw [lt_nI (by omega) (by omega)]; omega), show M.1 55 0 10 = nI (A.1 0) from r.1]
    have ih := fun y M1 => cm2_loop (v := v) ok o hs hn hb k (S + 1) fu y M1 (by omega) (by omega)
    have fold : foldJ (cheapF K A (side * 99) v n) (k + 1) S x = foldJ (cheapF K A (side * 99) v n) k (S + 1) (cheapF K A (side * 99) v n x S) := rfl
    rw [fold]
    have keep : cheapF K A (side * 99) v n x S = x → ∃ M', f_X11_bribes_55 v side (nI n) fu (enN x.1) x.2 (nI S + (1 : Int32)) M = bribEnd (foldJ (cheapF K A (side * 99) v n) k (S + 1) (cheapF K A (side * 99) v n x S)) M' ∧ MQm M M' ∧ M'.1 50 0 = M.1 50 0 := by
      intro e
      rw [e, show nI S + (1 : Int32) = nI (S + 1) from add_nI S 1]
      exact ih x M hx rc r
    have goW : (S &&& A.1 0 = S) → (x.1 = none ∨ prS K S < x.2) → ∃ M', ((f_X11_keeps M).bind fun M12 => f_X11_bribes_160 (fun M_16 => (f_X11_talksFor (nI n) M_16).bind fun M17 => (f_X11_judged M17).bind fun r18 => if r18 = v then f_X11_bribes_219 (fun x4_21 x5_21 x6_21 M_21 => f_X11_bribes_55 v side (nI n) fu x4_21 x5_21 x6_21 M_21) v side (nI n) (enN x.1) x.2 (nI S) (prS K S) (1 : Int32) M17 else f_X11_bribes_219 (fun x4_21 x5_21 x6_21 M_21 => f_X11_bribes_55 v side (nI n) fu x4_21 x5_21 x6_21 M_21) v side (nI n) (enN x.1) x.2 (nI S) (prS K S) (0 : Int32) M17) v side (nI n) (enN x.1) x.2 (nI S) (prS K S) FU (0 : Int32) M12) = bribEnd (foldJ (cheapF K A (side * 99) v n) k (S + 1) (cheapF K A (side * 99) v n x S)) M' ∧ MQm M M' ∧ M'.1 50 0 = M.1 50 0 := by
      intro c1 c2
      obtain ⟨M1, e1, q1, z1⟩ := bm_try (x4 := enN x.1) (x5 := x.2) (x7 := prS K S) (v := v) (fun x4_21 x5_21 x6_21 M_21 => f_X11_bribes_55 v side (nI n) fu x4_21 x5_21 x6_21 M_21) ok o hs (show S < 2 ^ K.1 0 by omega) hn hb rc r
      have e55 : ∀ j, j < 475 → M1.1 55 0 j = M.1 55 0 j := fun j hj => q1.2.2.2.1 j (by omega)
      rw [e1]
      by_cases c : winV K A (side * 99) n S = v
      · have e : cheapF K A (side * 99) v n x S = (some S, prS K S) := if_pos ⟨c1, c2, c⟩
        rw [if_pos c, e]
        obtain ⟨M2, a1, a2, a3⟩ := ih (some S, prS K S) M1 (fun b h => by cases h; omega) (rc.eq ok e55) (r.eq ok e55)
        exact ⟨M2, a1, q1.tr a2, a3.trans z1⟩
      · have e : cheapF K A (side * 99) v n x S = x := if_neg (fun z => c z.2.2)
        rw [if_neg c, e]
        obtain ⟨M2, a1, a2, a3⟩ := ih x M1 hx (rc.eq ok e55) (r.eq ok e55)
        exact ⟨M2, a1, q1.tr a2, a3.trans z1⟩
    by_cases c1 : S &&& A.1 0 = S
    · rw [if_pos (by rw [andn_sub (by omega)]; exact c1), pm2_at ok rc (show S < 1024 by omega)]
      show ∃ M', (if enN x.1 < 0 then _ else if prS K S < x.2 then _ else _) = _ ∧ _
      by_cases c2 : x.1 = none
      · rw [if_pos (by rw [enN_neg hx31]; exact c2)]
        exact goW c1 (Or.inl c2)
      · rw [if_neg (by rw [enN_neg hx31]; exact c2)]
        by_cases c3 : prS K S < x.2
        · rw [if_pos c3]
          exact goW c1 (Or.inr c3)
        · rw [if_neg c3]
          exact keep (if_neg (fun z => z.2.1.elim c2 c3))
    · rw [if_neg (by rw [andn_sub (by omega)]; exact c1)]
      exact keep (if_neg (fun z => c1 z.1))
theorem cheap_price (K : Co) (A : Ha) (c v : Int32) (n : Nat) : ∀ (k S : Nat) (x : Option Nat × Int32), (∀ b, x.1 = some b → x.2 = prS K b) → ∀ b, (foldJ (cheapF K A c v n) k S x).1 = some b → (foldJ (cheapF K A c v n) k S x).2 = prS K b
  | 0, _, _, h, b, hb => h b hb
  | k + 1, S, x, h, b, hb => by
    refine cheap_price K A c v n k (S + 1) (cheapF K A c v n x S) (fun b hb => ?_) b hb
    unfold cheapF at hb ⊢
    by_cases z : S &&& A.1 0 = S ∧ (x.1 = none ∨ prS K S < x.2) ∧ winV K A c n S = v
    · rw [if_pos z] at hb ⊢
      cases hb
      rfl
    · rw [if_neg z] at hb ⊢
      exact h b hb
theorem RX.q0 {s : Sy} {M M' : Mem} (o : OKS s) (f : XQ M M') (h14 : M'.1 0 0 14 = M.1 0 0 14) (h : RX s M) : RX s M' := by
  have := h.q f (v := sSc s 0) (h14.trans h.1.1) o.2.2.2.1.1
  rw [setSc_same] at this
  exact this
theorem RM.q0 {s : Sy} {M M' : Mem} (o : OKS s) (f : MQm M M') (h0 : M'.1 50 0 0 = M.1 50 0 0) (h : RM s M) : RM s M' := by
  have := h.q o f (v := sSc s 0) (h0.trans h.1.1)
  rw [setSc_same] at this
  exact this
theorem RX.b {s : Sy} {M : Mem} {v : Int32} (h : RX s M) : RX (setSc s 3 v) (sR M 36 0 (upd (M.1 36 0) 8 v)) ∧ onX M (sR M 36 0 (upd (M.1 36 0) 8 v)) := by
  have e : ∀ c i, ¬ (c = 36 ∧ i = 0) → (sR M 36 0 (upd (M.1 36 0) 8 v)).1 c i = M.1 c i := fun c i z => sR_ne _ _ _ _ z
  obtain ⟨⟨a1, a2, a3, a4⟩, ⟨b1, b2⟩, ⟨t1, t2⟩, tr, w, ⟨m1, m2⟩, ⟨o1, o2⟩, ⟨l1, l2⟩, rs⟩ := h
  refine ⟨⟨⟨?_, ?_, ?_, ?_⟩, ⟨b1, b2⟩, ⟨?_, fun j hj => ?_⟩, fun t ht => ⟨?_, ?_, (tr t ht).2.2⟩, w.eq (fun c h1 h2 => ⟨e c 0 (by omega), rfl⟩), ⟨?_, fun k h1 h2 => (m2 k h1 h2).eq (fun c h1 h2 => ⟨e c k (by omega), rfl⟩)⟩, ⟨?_, fun k hk => ?_⟩, ⟨?_, fun hl j hj => ?_⟩, rs⟩, fun c i z => ⟨e c i (by omega), rfl⟩⟩
  · rw [e 0 0 (by decide)]; exact a1.trans (upd_ne (i := 3) (j := 0) s.1 v (by decide)).symm
  · rw [e 0 0 (by decide)]; exact a2.trans (upd_ne (i := 3) (j := 1) s.1 v (by decide)).symm
  · rw [e 0 0 (by decide)]; exact a3.trans (upd_ne (i := 3) (j := 2) s.1 v (by decide)).symm
  · rw [sR_at, upd_at]; exact (upd_at s.1 3 v).symm
  · rw [e 30 0 (by decide)]; exact t1
  · rw [e 31 0 (by decide)]; exact t2 j hj
  · rw [e 5 0 (by decide)]; exact (tr t ht).1
  · rw [e 6 0 (by decide)]; exact (tr t ht).2.1
  · rw [e 0 0 (by decide)]; exact m1
  · rw [sR_at, upd_ne _ _ (by decide)]; exact o1
  · rw [e 42 0 (by decide)]; exact o2 k hk
  · rw [e 0 0 (by decide)]; exact l1
  · rw [e 44 0 (by decide)]; exact l2 hl j hj
theorem RM.b {s : Sy} {M : Mem} {v : Int32} (h : RM s M) : RM (setSc s 3 v) (sR M 50 0 (upd (M.1 50 0) 31 v)) ∧ onM M (sR M 50 0 (upd (M.1 50 0) 31 v)) := by
  have e : ∀ c i, ¬ (c = 50 ∧ i = 0) → (sR M 50 0 (upd (M.1 50 0) 31 v)).1 c i = M.1 c i := fun c i z => sR_ne _ _ _ _ z
  have g : ∀ j, ¬ j = 31 → (sR M 50 0 (upd (M.1 50 0) 31 v)).1 50 0 j = M.1 50 0 j := fun j hj => by rw [sR_at, upd_ne _ _ hj]
  obtain ⟨⟨a1, a2, a3, a4⟩, ⟨b1, b2⟩, ⟨t1, t2⟩, tr, w, ⟨m1, m2⟩, ⟨o1, o2⟩, ⟨l1, l2⟩⟩ := h
  refine ⟨⟨⟨?_, ?_, ?_, ?_⟩, ⟨b1, b2⟩, ⟨?_, fun j hj => ?_⟩, fun t ht => ⟨?_, ?_, (tr t ht).2.2⟩, ?_, ⟨?_, fun k h1 h2 => ?_⟩, ⟨?_, fun k hk => ?_⟩, ⟨?_, fun hl j hj => ?_⟩⟩, fun c i z => ⟨e c i (by omega), rfl⟩⟩
  · rw [g 0 (by decide)]; exact a1.trans (upd_ne (i := 3) (j := 0) s.1 v (by decide)).symm
  · rw [g 10 (by decide)]; exact a2.trans (upd_ne (i := 3) (j := 1) s.1 v (by decide)).symm
  · rw [g 11 (by decide)]; exact a3.trans (upd_ne (i := 3) (j := 2) s.1 v (by decide)).symm
  · rw [sR_at, upd_at]; exact (upd_at s.1 3 v).symm
  · rw [g 8 (by decide)]; exact t1
  · rw [e 54 0 (by decide)]; exact t2 j hj
  · rw [e 52 0 (by decide)]; exact (tr t ht).1
  · rw [e 51 0 (by decide)]; exact (tr t ht).2.1
  · rw [e 55 0 (by decide)]; exact w
  · rw [g 23 (by decide)]; exact m1
  · rw [e 55 0 (by decide)]; exact m2 k h1 h2
  · rw [g 30 (by decide)]; exact o1
  · rw [e 60 0 (by decide)]; exact o2 k hk
  · rw [g 37 (by decide)]; exact l1
  · rw [e 63 0 (by decide)]; exact l2 hl j hj
theorem few_t {n : Nat} (h : n < 10) : f_X10_isNoFewRounds (nI n) = some 0 := by
  unfold f_X10_isNoFewRounds
  rw [if_neg (nI_pos (by omega)), if_neg (by show ¬ nI 9 < nI n; rw [lt_nI (by decide) (by omega)]; omega)]
theorem few_f {x : Int32} (h : x < 0 ∨ ¬ x < nI 10) : f_X10_isNoFewRounds x = some 1 := by
  unfold f_X10_isNoFewRounds
  by_cases c : x < 0
  · rw [if_pos c]
  · rw [if_neg c, if_pos (show (9 : Int32) < x from big_of (n := 9) (by decide) h c)]
theorem step_bribes {s : Sy} (o : OKS s) (x y z : Int32) : Step s (f_X10_bribes x y z) (f_X11_bribes x y z) := by
  have b := hall_bounds o
  have hp := p2_le o.C.J
  by_cases cv : -1 ≤ x.toInt ∧ x.toInt ≤ 1
  · have mv : ∀ M, f_X11_bribes x y z M = (if y = (1 : Int32) then f_X11_bribes_28 x y z (mR M) else if y = (-1 : Int32) then f_X11_bribes_28 x y z (mR M) else some (-1, smM (mR M) 5)) := by
      intro M
      unfold f_X11_bribes f_X11_isVerdict
      simp only [mR_e]
      rw [isIn_t (b := -1) (c := 1) cv, Option.bind_some, if_pos oB, Option.bind_some, if_neg (by decide)]
      rfl
    by_cases hs : y = 1 ∨ y = -1
    · have mv2 : ∀ M, f_X11_bribes x y z M = f_X11_bribes_28 x y z (mR M) := by
        intro M
        rw [mv M]
        rcases hs with h | h
        · rw [if_pos h]
        · rw [if_neg (by rw [h]; decide), if_pos h]
      rcases arg_in z (n := 10) (by decide) with ⟨n, hn, rfl⟩ | hz
      · have bb : ∀ q, (foldJ (cheapF (sWo s).1 (sWo s).2.1 (y * 99) x n) (2 ^ (sWo s).1.1 0) 0 (none, 0)).1 = some q → (foldJ (cheapF (sWo s).1 (sWo s).2.1 (y * 99) x n) (2 ^ (sWo s).1.1 0) 0 (none, 0)).2 = prS (sWo s).1 q := cheap_price _ _ _ _ _ _ _ _ (fun b h => by cases h)
        have hX : ∀ M, RX s M → ∃ M', f_X10_cheapestSet x y (nI n) M = some (enN (foldJ (cheapF (sWo s).1 (sWo s).2.1 (y * 99) x n) (2 ^ (sWo s).1.1 0) 0 (none, 0)).1, M') ∧ HFr 4 M M' ∧ ∀ b, (foldJ (cheapF (sWo s).1 (sWo s).2.1 (y * 99) x n) (2 ^ (sWo s).1.1 0) 0 (none, 0)).1 = some b → b < 2 ^ (sWo s).1.1 0 := by
          intro M h
          unfold f_X10_cheapestSet
          rw [show M.1 20 0 2 = nI ((sWo s).2.1.1 0) from h.H.1 0 (by decide)]
          exact cs_loop (v := x) o.C o.H hs (show n < 1000 by omega) (by omega) (2 ^ (sWo s).1.1 0) 0 FU (none, 0) M (by omega) (lt_FU (by omega)) (fun b h => by cases h) h.C h.H
        have hM : ∀ M, RM s M → ∃ M', f_X11_bribes_28 x y (nI n) (mR M) = bribEnd (foldJ (cheapF (sWo s).1 (sWo s).2.1 (y * 99) x n) (2 ^ (sWo s).1.1 0) 0 (none, 0)) M' ∧ MQm (mR M) M' ∧ M'.1 50 0 = (mR M).1 50 0 := by
          intro M h
          unfold f_X11_bribes_28
          rw [isIn_t0 (n := 10) (by decide) (by decide) hn, Option.bind_some, if_neg (by decide)]
          exact cm2_loop (v := x) o.C o.H hs (show n < 1000 by omega) (by omega) (2 ^ (sWo s).1.1 0) 0 FU (none, 0) (mR M) (by show 0 + 2 ^ (sWo s).1.1 0 = _; omega) (lt_FU (by omega)) (fun b h => by cases h) (h.r o).C (h.r o).H
        generalize foldJ (cheapF (sWo s).1 (sWo s).2.1 (y * 99) x n) (2 ^ (sWo s).1.1 0) 0 (none, 0) = w at *
        have X : ∀ M, f_X10_bribes x y (nI n) M = (f_X10_cheapestSet x y (nI n) M).bind fun q6 => if q6.1 = (-1 : Int32) then some (-1, stM q6.2 8) else (f_X1_priceOf 0 q6.1 (sR q6.2 36 0 (upd (q6.2.1 36 0) 8 q6.1))).bind fun r8 => some (r8, stM (sR q6.2 36 0 (upd (q6.2.1 36 0) 8 q6.1)) 0) := by
          intro M
          unfold f_X10_bribes
          rw [noVerd_e, if_pos cv, Option.bind_some, if_pos rfl, isNoSide_t hs, Option.bind_some, if_pos rfl, few_t hn, Option.bind_some, if_pos rfl]
          rfl
        obtain ⟨w1, w2⟩ := w
        cases w1 with
        | none =>
          refine step_of (-1) (setSc s 0 8) o (fun M h => ?_) (fun M h => ?_)
          · obtain ⟨M', e1, f1, -⟩ := hX M h
            refine ⟨stM M' 8, ?_, h.st o 8 (XQ.hall (by decide) f1)⟩
            rw [X M, e1]
            rfl
          · obtain ⟨M', e1, q1, z1⟩ := hM M h
            refine ⟨smM M' 8, ?_, h.st o 8 ((mR_Q M).tr q1)⟩
            rw [mv2 M, e1]
            rfl
        | some S =>
          have e2 : w2 = prS (sWo s).1 S := bb S rfl
          have hS' : ∀ M, RX s M → S < 2 ^ (sWo s).1.1 0 := fun M h => by obtain ⟨-, -, -, t⟩ := hX M h; exact t S rfl
          by_cases hS : S < 2 ^ (sWo s).1.1 0
          · refine step_of (prS (sWo s).1 S) (setSc (setSc s 3 (nI S)) 0 0) ?_ (fun M h => ?_) (fun M h => ?_)
            · exact ⟨o.1, o.2.1, o.2.2.1, o.2.2.2.1, o.2.2.2.2.1, o.2.2.2.2.2.1, Or.inr ⟨S, by omega, (upd_ne (i := 0) (j := 3) (upd s.1 3 (nI S)) 0 (by decide)).trans (upd_at s.1 3 (nI S))⟩, o.2.2.2.2.2.2.2⟩
            · obtain ⟨M', e1, f1, -⟩ := hX M h
              have h1 : RX s M' := h.q0 o (XQ.hall (by decide) f1) (by rw [f1.2 0 0 (by decide)])
              have h2 := h1.b (v := nI S)
              have o3 : OKS (setSc s 3 (nI S)) := ⟨o.1, o.2.1, o.2.2.1, o.2.2.2.1, o.2.2.2.2.1, o.2.2.2.2.2.1, Or.inr ⟨S, by omega, upd_at s.1 3 (nI S)⟩, o.2.2.2.2.2.2.2⟩
              have h3 := h2.1.st o3 0 XQ.rf
              refine ⟨stM (sR M' 36 0 (upd (M'.1 36 0) 8 (nI S))) 0, ?_, h3.1, f1.on.tr (h2.2.tr h3.2)⟩
              rw [X M, e1, Option.bind_some]
              show (if nI S = (-1 : Int32) then _ else (f_X1_priceOf 0 (nI S) (sR M' 36 0 (upd (M'.1 36 0) 8 (nI S)))).bind _) = _
              rw [if_neg (by have := enN_none (x := some S) (fun b h => by cases h; omega); intro z; rw [show nI S = enN (some S) from rfl, this] at z; cases z), priceOf_sp o.C h2.1.C (by omega)]
              rfl
            · obtain ⟨M', e1, q1, z1⟩ := hM M h
              have h1 : RM (setSc s 0 0) M' := (h.r o).q0 (o.sc 0) q1 (by rw [z1])
              have h2 := h1.b (v := nI S)
              refine ⟨sR M' 50 0 (upd (M'.1 50 0) 31 (nI S)), ?_, ?_, (mR_Q M).on.tr (q1.on.tr h2.2)⟩
              · rw [mv2 M, e1]
                show some (w2, _) = _
                rw [e2]
              · have e : setSc (setSc s 0 0) 3 (nI S) = setSc (setSc s 3 (nI S)) 0 0 := by
                  show (upd (upd s.1 0 0) 3 (nI S), s.2) = (upd (upd s.1 3 (nI S)) 0 0, s.2)
                  congr 1
                  funext j
                  unfold upd
                  by_cases a : j = 0
                  · subst a; rfl
                  · rw [if_neg a, if_neg a]
                rw [← e]
                exact h2.1
          · intro M h1 h2
            exact absurd (hS' M h1) hS
      · refine step_no o 5 (fun M h => ?_) (fun M h => ?_)
        · unfold f_X10_bribes
          rw [noVerd_e, if_pos cv, Option.bind_some, if_pos rfl, isNoSide_t hs, Option.bind_some, if_pos rfl, few_f hz]
          rfl
        · rw [mv2 M]
          unfold f_X11_bribes_28
          rw [isIn_f0 (n := 10) (by decide) (by decide) hz]
          rfl
    · refine step_no o 5 (fun M h => ?_) (fun M h => ?_)
      · unfold f_X10_bribes
        rw [noVerd_e, if_pos cv, Option.bind_some, if_pos rfl, isNoSide_f hs]
        rfl
      · rw [mv M, if_neg (fun z => hs (Or.inl z)), if_neg (fun z => hs (Or.inr z))]
  · refine step_no o 5 (fun M h => ?_) (fun M h => ?_)
    · unfold f_X10_bribes
      rw [noVerd_e, if_neg cv]
      rfl
    · unfold f_X11_bribes f_X11_isVerdict
      simp only [mR_e]
      rw [isIn_f (b := -1) (c := 1) cv]
      rfl
