/-! ===== days, deeds, evidence: the reference's side; buying on both ===== -/
theorem inR_nat {v : Int32} {n : Nat} (hn : n < 2 ^ 31) (h : inR 0 (nI n) v) : v = nI v.toNatClampNeg ∧ v.toNatClampNeg ≤ n := by
  have h0 : (0 : Int) ≤ v.toInt := by
    have := Int32.le_iff_toInt_le.mp h.1
    simpa using this
  have h1 : v.toInt ≤ (n : Int) := by
    have := Int32.le_iff_toInt_le.mp h.2
    rw [nI_toInt hn] at this
    exact this
  have e : (v.toNatClampNeg : Int) = v.toInt := by
    show ((v.toInt.toNat : Nat) : Int) = v.toInt
    omega
  refine ⟨?_, by omega⟩
  apply Int32.toInt_inj.mp
  rw [nI_toInt (by omega), e]
theorem price_nat {K : Co} {j : Nat} (ok : OKC K) (hj : j < K.1 0) : K.2 2 j = nI (K.2 2 j).toNatClampNeg ∧ (K.2 2 j).toNatClampNeg ≤ 99 := inR_nat (by decide) ((ok.2.2.2.2.2.2.2.1 j hj).2.2)
def buyS (K : Co) (j : Nat) (v : Int32) (A : Ha) : Ha := (updN A.1 5 (A.1 5 + (K.2 2 j).toNatClampNeg), upd A.2.1 j v, A.2.2)
theorem X3_buy_sp {M : Mem} {h k j : Nat} {side : Int32} {A : Ha} {K : Co} (ok : OKC K) (rc : RepC M k K) (r : RepH M h A) (hj : j < K.1 0) : ∃ M', f_X3_buy h k (nI j) side M = some M' ∧ RepH M' h (buyS K j (side * 99) A) ∧ HFr h M M' := by
  have hJ := ok.J
  obtain ⟨p1, p2⟩ := price_nat ok hj
  unfold f_X3_buy
  rw [inb_nI_t (show j < 10 by omega) (by decide), if_pos rfl, if_pos rfl, nI_clamp (by omega), show M.1 13 k j = K.2 2 j from (rc.2.2.2.1 j hj).2.2, show M.1 20 h 7 = nI (A.1 5) from r.1 5 (by decide)]
  have e : nI (A.1 5) + K.2 2 j = nI (A.1 5 + (K.2 2 j).toNatClampNeg) := by
    rw [← add_nI, ← p1]
  rw [e]
  exact ⟨_, rfl, putL_H (setN_H (j := 5) (by decide) r), setN_F.tr putL_F⟩
theorem X11_strikesOne_sp {M : Mem} {i : Nat} {A : Ha} {K : Co} (ok : OKC K) (r : RepMH (M.1 55 0) K A) (hi : i < 10) (hS : A.1 0 < 1024) :
    ((A.1 0).testBit i = false ∧ f_X11_strikesOne (nI i) M = some (0, M)) ∨ ((A.1 0).testBit i = true ∧ ∃ M', f_X11_strikesOne (nI i) M = some (1, M') ∧ RepMH (M'.1 55 0) K (updN A.1 0 (A.1 0 &&& (1023 ^^^ 2 ^ i)), A.2) ∧ MFr M M') := by
  unfold f_X11_strikesOne
  rw [X11_isSeated_sp r.1 hS (by omega), Option.bind_some]
  cases hb : (A.1 0).testBit i with
  | false => exact Or.inl ⟨rfl, by rw [ifb_f]⟩
  | true =>
    refine Or.inr ⟨rfl, putM M (posM 0) (nI (A.1 0 &&& (1023 ^^^ 2 ^ i))), ?_, putM_N (by omega) r, putM_F (by unfold hallIx posM; simp)⟩
    rw [ifb_t, r.1, andn_at _ hS i hi]
    rfl
theorem X11_seatsOne_sp {M : Mem} {i : Nat} {A : Ha} {K : Co} (ok : OKC K) (r : RepMH (M.1 55 0) K A) (hi : i < 10) (hS : A.1 0 < 1024) :
    ((A.1 0).testBit i = true ∧ f_X11_seatsOne (nI i) M = some (0, M)) ∨ ((A.1 0).testBit i = false ∧ ∃ M', f_X11_seatsOne (nI i) M = some (1, M') ∧ RepMH (M'.1 55 0) K (updN A.1 0 (A.1 0 ||| 2 ^ i), A.2) ∧ MFr M M') := by
  unfold f_X11_seatsOne
  rw [X11_isSeated_sp r.1 hS (by omega), Option.bind_some]
  cases hb : (A.1 0).testBit i with
  | true => exact Or.inl ⟨rfl, by rw [ifb_t]⟩
  | false =>
    refine Or.inr ⟨rfl, putM M (posM 0) (nI (A.1 0 ||| 2 ^ i)), ?_, putM_N (by omega) r, putM_F (by unfold hallIx posM; simp)⟩
    rw [ifb_f, r.1, shl_1 i (by omega), or_nI]
    rfl
theorem X11_bribesOne_sp {M : Mem} {j : Nat} {side : Int32} {A : Ha} {K : Co} (ok : OKC K) (rc : RepMC (M.1 55 0) K) (r : RepMH (M.1 55 0) K A) (o : OKH (K.1 0) A) (hj : j < K.1 0) (hs : side = 1 ∨ side = -1) :
    ((9999 : Int32) < nI (A.1 5) + K.2 2 j ∧ f_X11_bribesOne (nI j) side M = some (7, M)) ∨ (¬ (9999 : Int32) < nI (A.1 5) + K.2 2 j ∧ (A.1 0).testBit j = false ∧ f_X11_bribesOne (nI j) side M = some (9, M)) ∨
    (¬ (9999 : Int32) < nI (A.1 5) + K.2 2 j ∧ (A.1 0).testBit j = true ∧ ∃ M', f_X11_bribesOne (nI j) side M = some (0, M') ∧ RepMH (M'.1 55 0) K (buyS K j (side * 99) A) ∧ MFr M M') := by
  have hJ := ok.J
  obtain ⟨p1, p2⟩ := price_nat ok hj
  unfold f_X11_bribesOne
  have e : nI (A.1 5) + K.2 2 j = nI (A.1 5 + (K.2 2 j).toNatClampNeg) := by
    rw [← add_nI, ← p1]
  rw [show (32 : Int32) + nI j = nI (32 + j) from add_nI 32 j, show (42 : Int32) + nI j = nI (42 + j) from add_nI 42 j, inb_nI_t (show 32 + j < 2375 by omega) (by decide), inb_nI_t (show 42 + j < 2375 by omega) (by decide), nI_clamp (by omega), nI_clamp (by omega), if_pos rfl, (rc.2.2.2.1 j hj).2.2, r.2.2.2.2.2.1, X11_isSeated_sp r.1 o.S (by omega), Option.bind_some]
  by_cases c : (9999 : Int32) < nI (A.1 5) + K.2 2 j
  · exact Or.inl ⟨c, by rw [if_pos c]⟩
  · right
    rw [if_neg c]
    cases hb : (A.1 0).testBit j with
    | false => exact Or.inl ⟨c, rfl, by rw [ifb_f]⟩
    | true =>
      right
      refine ⟨c, rfl, ?_⟩
      rw [ifb_t, e]
      have q1 := putM_N (j := 5) (v := A.1 5 + (K.2 2 j).toNatClampNeg) (by omega) r
      have f1 : MFr M (putM M (posM 5) (nI (A.1 5 + (K.2 2 j).toNatClampNeg))) := putM_F (by unfold hallIx posM; simp)
      have f2 : ∀ v, MFr (putM M (posM 5) (nI (A.1 5 + (K.2 2 j).toNatClampNeg))) (putM (putM M (posM 5) (nI (A.1 5 + (K.2 2 j).toNatClampNeg))) (42 + j) v) := fun v => putM_F (by unfold hallIx; omega)
      rcases hs with rfl | rfl
      · refine ⟨putM (putM M (posM 5) (nI (A.1 5 + (K.2 2 j).toNatClampNeg))) (42 + j) 99, ?_, putM_L hJ hj q1, f1.tr (f2 _)⟩
        rfl
      · refine ⟨putM (putM M (posM 5) (nI (A.1 5 + (K.2 2 j).toNatClampNeg))) (42 + j) (-99), ?_, putM_L hJ hj q1, f1.tr (f2 _)⟩
        rfl
theorem so_loop {p : Nat} {S : Nat} {K : Co} (ok : OKC K) (hp : p < K.1 1) : ∀ (kk i n a : Nat) (M : Mem) (A : Ha), i + kk = K.1 0 → kk < n → RepMC (M.1 55 0) K → RepMH (M.1 55 0) K A → A.1 0 = S → S < 1024 →
    ∃ M', f_X11_showsOne_17 (nI p) n (nI a) (nI i) M = some (nI (foldJ (showF K S (K.2 4 p)) kk i (A.2.1, a)).2, M') ∧ RepMH (M'.1 55 0) K (A.1, (foldJ (showF K S (K.2 4 p)) kk i (A.2.1, a)).1, A.2.2) ∧ MFr M M'
  | kk, i, 0, a, M, A, _, hn, _, _, _, _ => by omega
  | 0, i, n + 1, a, M, A, hi, _, rc, r, hA, hS => by
    have hJ := ok.J
    have e : i = K.1 0 := by omega
    subst e
    refine ⟨M, ?_, r, MFr.rf⟩
    rw [f_X11_showsOne_17, rc.1 0 (by decide), if_neg (by rw [lt_nI (by omega) (by omega)]; omega)]
    rfl
  | kk + 1, i, n + 1, a, M, A, hi, hn, rc, r, hA, hS => by
    have hJ := ok.J
    have k1 : K.1 1 ≤ 6 := ok.2.1
    have ih := so_loop (S := S) ok hp kk (i + 1) n
    rw [f_X11_showsOne_17, rc.1 0 (by decide), if_pos (by rw [lt_nI (by omega) (by omega)]; omega)]
    rw [X11_isSeated_sp (S := S) (by rw [← hA]; exact r.1) hS (by omega), Option.bind_some]
    rw [show nI i + (1 : Int32) = nI (i + 1) from add_nI i 1]
    have e : ∀ x, foldJ (showF K S (K.2 4 p)) (kk + 1) i x = foldJ (showF K S (K.2 4 p)) kk (i + 1) (showF K S (K.2 4 p) x i) := fun _ => rfl
    rw [e]
    unfold showF
    cases hb : S.testBit i with
    | false =>
      rw [ifb_f]
      exact ih a M A (by omega) (by omega) rc r hA hS
    | true =>
      rw [ifb_t, show (42 : Int32) + nI i = nI (42 + i) from add_nI 42 i, show (22 : Int32) + nI i = nI (22 + i) from add_nI 22 i, show (152 : Int32) + nI p = nI (152 + p) from add_nI 152 p, inb_nI_t (show 42 + i < 2375 by omega) (by decide), inb_nI_t (show 22 + i < 2375 by omega) (by decide), inb_nI_t (show 152 + p < 2375 by omega) (by decide), nI_clamp (by omega), nI_clamp (by omega), nI_clamp (by omega), (rc.2.2.2.1 i (by omega)).2.1, rc.2.2.2.2.2.1 p hp, r.2.2.2.2.2.2.1 i (by omega)]
      simp only [if_true]
      have tl : ∀ b, f_X11_showsOne_109 (fun x2 x3 M_1 => f_X11_showsOne_17 (nI p) n x2 x3 M_1) (nI p) (nI a) (nI i) (A.2.1 i) (nI (42 + i)) (A.2.1 i) b M = f_X11_showsOne_17 (nI p) n (nI (a + if cutS (A.2.1 i + b) = A.2.1 i then 0 else 1)) (nI (i + 1)) (putM M (42 + i) (cutS (A.2.1 i + b))) := by
        intro b
        unfold f_X11_showsOne_109
        rw [cut_eq, Option.bind_some, inb_nI_t (show 42 + i < 2375 by omega) (by decide), if_pos rfl, show (42 : Int32) + nI i = nI (42 + i) from add_nI 42 i, inb_nI_t (show 42 + i < 2375 by omega) (by decide), if_pos rfl, nI_clamp (by omega), show nI i + (1 : Int32) = nI (i + 1) from add_nI i 1]
        show (if (putM M (42 + i) (cutS (A.2.1 i + b))).1 55 0 (42 + i) = A.2.1 i then _ else _) = _
        rw [putM_at, upd_at]
        by_cases c : cutS (A.2.1 i + b) = A.2.1 i
        · rw [if_pos c, if_pos c]
          show f_X11_showsOne_17 (nI p) n (nI a + (0 : Int32)) _ _ = _
          rw [Int32.add_zero, Nat.add_zero]
          rfl
        · rw [if_neg c, if_neg c]
          show f_X11_showsOne_17 (nI p) n (nI a + (1 : Int32)) _ _ = _
          rw [show nI a + (1 : Int32) = nI (a + 1) from add_nI a 1]
          rfl
      have e2 : (if K.2 4 p < 0 then f_X11_showsOne_109 (fun x2 x3 M_1 => f_X11_showsOne_17 (nI p) n x2 x3 M_1) (nI p) (nI a) (nI i) (A.2.1 i) (nI (42 + i)) (A.2.1 i) (-(jmax 0 (jabs (K.2 4 p) - K.2 1 i))) M else f_X11_showsOne_109 (fun x2 x3 M_1 => f_X11_showsOne_17 (nI p) n x2 x3 M_1) (nI p) (nI a) (nI i) (A.2.1 i) (nI (42 + i)) (A.2.1 i) (jmax 0 (jabs (K.2 4 p) - K.2 1 i)) M) = f_X11_showsOne_17 (nI p) n (nI (a + if cutS (A.2.1 i + byS K (K.2 4 p) i) = A.2.1 i then 0 else 1)) (nI (i + 1)) (putM M (42 + i) (cutS (A.2.1 i + byS K (K.2 4 p) i))) := by
        rw [tl, tl]
        unfold byS
        by_cases c : K.2 4 p < 0
        · rw [if_pos c, if_pos c]
        · rw [if_neg c, if_neg c]
      rw [e2]
      have f1 : MFr M (putM M (42 + i) (cutS (A.2.1 i + byS K (K.2 4 p) i))) := putM_F (by unfold hallIx; omega)
      obtain ⟨M', g1, g2, g3⟩ := ih (a + if cutS (A.2.1 i + byS K (K.2 4 p) i) = A.2.1 i then 0 else 1) _ _ (by omega) (by omega) (rc.fr ok f1.2.2) (putM_L (v := cutS (A.2.1 i + byS K (K.2 4 p) i)) hJ (by omega) r) hA hS
      exact ⟨M', g1, g2, f1.tr g3⟩
theorem X11_showsOne_sp {M : Mem} {p : Nat} {A : Ha} {K : Co} (ok : OKC K) (rc : RepMC (M.1 55 0) K) (r : RepMH (M.1 55 0) K A) (o : OKH (K.1 0) A) (hp : p < K.1 1) : ∃ M', f_X11_showsOne (nI p) M = some (nI (showX K p A).2, M') ∧ RepMH (M'.1 55 0) K (showS K p A) ∧ MFr M M' := by
  have hJ := ok.J
  have k1 : K.1 1 ≤ 6 := ok.2.1
  unfold f_X11_showsOne
  rw [r.2.1, shl_1 p (by omega), or_nI]
  have q1 := putM_N (j := 1) (v := A.1 1 ||| 2 ^ p) (by omega) r
  have f1 : MFr M (putM M (posM 1) (nI (A.1 1 ||| 2 ^ p))) := putM_F (by unfold hallIx posM; simp)
  obtain ⟨M', g1, g2, g3⟩ := so_loop (S := A.1 0) ok hp (K.1 0) 0 FU 0 _ _ (by omega) (lt_FU (by omega)) (rc.fr ok f1.2.2) q1 rfl o.S
  exact ⟨M', g1, g2, f1.tr g3⟩
