/-! ===== days, deeds, evidence: the reference's side; buying on both ===== -/
theorem inR_nat {v : Int32} {n : Nat} (hn : n < 2 ^ 31) (h : inR 0 (nI n) v) : v = nI v.toNatClampNeg ∧ v.toNatClampNeg ≤ n := by
  have h0 : (0 : Int) ≤ v.toInt := by
    have := Int32.le_iff_toInt_le.mp h.1
    simpa using this
  have h1 : v.toInt ≤ (n : Int) := by
    have := Int32.le_iff_toInt_le.mp h.2
    rw [nI_toInt hn] at this
    exact this
  have e : (v.toNatClampNeg : Int) = v.toInt := by
    show ((v.toInt.toNat : Nat) : Int) = v.toInt
    omega
  refine ⟨?_, by omega⟩
  apply Int32.toInt_inj.mp
  rw [nI_toInt (by omega), e]
theorem price_nat {K : Co} {j : Nat} (ok : OKC K) (hj : j < K.1 0) : K.2 2 j = nI (K.2 2 j).toNatClampNeg ∧ (K.2 2 j).toNatClampNeg ≤ 99 := inR_nat (by decide) ((ok.2.2.2.2.2.2.2.1 j hj).2.2)
def buyS (K : Co) (j : Nat) (v : Int32) (A : Ha) : Ha := (updN A.1 5 (A.1 5 + (K.2 2 j).toNatClampNeg), upd A.2.1 j v, A.2.2)
theorem X3_buy_sp {M : Mem} {h k j : Nat} {side : Int32} {A : Ha} {K : Co} (ok : OKC K) (rc : RepC M k K) (r : RepH M h A) (hj : j < K.1 0) : ∃ M', f_X3_buy h k (nI j) side M = some M' ∧ RepH M' h (buyS K j (side * 99) A) ∧ HFr h M M' := by
  have hJ := ok.J
  obtain ⟨p1, p2⟩ := price_nat ok hj
  unfold f_X3_buy
  rw [inb_nI_t (show j < 10 by omega) (by decide), if_pos rfl, if_pos rfl, nI_clamp (by omega), show M.1 13 k j = K.2 2 j from (rc.2.2.2.1 j hj).2.2, show M.1 20 h 7 = nI (A.1 5) from r.1 5 (by decide)]
  have e : nI (A.1 5) + K.2 2 j = nI (A.1 5 + (K.2 2 j).toNatClampNeg) := by
    rw [← add_nI, ← p1]
  rw [e]
  exact ⟨_, rfl, putL_H (setN_H (j := 5) (by decide) r), setN_F.tr putL_F⟩
theorem X11_strikesOne_sp {M : Mem} {i : Nat} {A : Ha} {K : Co} (ok : OKC K) (r : RepMH (M.1 55 0) K A) (hi : i < 10) (hS : A.1 0 < 1024) :
    ((A.1 0).testBit i = false ∧ f_X11_strikesOne (nI i) M = some (0, M)) ∨ ((A.1 0).testBit i = true ∧ ∃ M', f_X11_strikesOne (nI i) M = some (1, M') ∧ RepMH (M'.1 55 0) K (updN A.1 0 (A.1 0 &&& (1023 ^^^ 2 ^ i)), A.2) ∧ MFr M M') := by
  unfold f_X11_strikesOne
  rw [X11_isSeated_sp r.1 hS (by omega), Option.bind_some]
  cases hb : (A.1 0).testBit i with
  | false => exact Or.inl ⟨rfl, by rw [ifb_f]⟩
  | true =>
    refine Or.inr ⟨rfl, putM M (posM 0) (nI (A.1 0 &&& (1023 ^^^ 2 ^ i))), ?_, putM_N (by omega) r, putM_F (by unfold hallIx posM; simp)⟩
    rw [ifb_t, r.1, andn_at _ hS i hi]
    rfl
theorem X11_seatsOne_sp {M : Mem} {i : Nat} {A : Ha} {K : Co} (ok : OKC K) (r : RepMH (M.1 55 0) K A) (hi : i < 10) (hS : A.1 0 < 1024) :
    ((A.1 0).testBit i = true ∧ f_X11_seatsOne (nI i) M = some (0, M)) ∨ ((A.1 0).testBit i = false ∧ ∃ M', f_X11_seatsOne (nI i) M = some (1, M') ∧ RepMH (M'.1 55 0) K (updN A.1 0 (A.1 0 ||| 2 ^ i), A.2) ∧ MFr M M') := by
  unfold f_X11_seatsOne
  rw [X11_isSeated_sp r.1 hS (by omega), Option.bind_some]
  cases hb : (A.1 0).testBit i with
  | true => exact Or.inl ⟨rfl, by rw [ifb_t]⟩
  | false =>
    refine Or.inr ⟨rfl, putM M (posM 0) (nI (A.1 0 ||| 2 ^ i)), ?_, putM_N (by omega) r, putM_F (by unfold hallIx posM; simp)⟩
    rw [ifb_f, r.1, shl_1 i (by omega), or_nI]
    rfl
theorem X11_bribesOne_sp {M : Mem} {j : Nat} {side : Int32} {A : Ha} {K : Co} (ok : OKC K) (rc : RepMC (M.1 55 0) K) (r : RepMH (M.1 55 0) K A) (o : OKH (K.1 0) A) (hj : j < K.1 0) (hs : side = 1 ∨ side = -1) :
    ((9999 : Int32) < nI (A.1 5) + K.2 2 j ∧ f_X11_bribesOne (nI j) side M = some (7, M)) ∨ (¬ (9999 : Int32) < nI (A.1 5) + K.2 2 j ∧ (A.1 0).testBit j = false ∧ f_X11_bribesOne (nI j) side M = some (9, M)) ∨
    (¬ (9999 : Int32) < nI (A.1 5) + K.2 2 j ∧ (A.1 0).testBit j = true ∧ ∃ M', f_X11_bribesOne (nI j) side M = some (0, M') ∧ RepMH (M'.1 55 0) K (buyS K j (side * 99) A) ∧ MFr M M') := by
  have hJ := ok.J
  obtain ⟨p1, p2⟩ := price_nat ok hj
  unfold f_X11_bribesOne
  have e : nI (A.1 5) + K.2 2 j = nI (A.1 5 + (K.2 2 j).toNatClampNeg) := by
    rw [← add_nI, ← p1]
  rw [show (32 : Int32) + nI j = nI (32 + j) from add_nI 32 j, show (42 : Int32) + nI j = nI (42 + j) from add_nI 42 j, inb_nI_t (show 32 + j < 2375 by omega) (by decide), inb_nI_t (show 42 + j < 2375 by omega) (by decide), nI_clamp (by omega), nI_clamp (by omega), if_pos rfl, (rc.2.2.2.1 j hj).2.2, r.2.2.2.2.2.1, X11_isSeated_sp r.1 o.S (by omega), Option.bind_some]
  by_cases c : (9999 : Int32) < nI (A.1 5) + K.2 2 j
  · exact Or.inl ⟨c, by rw [if_pos c]⟩
  · right
    rw [if_neg c]
    cases hb : (A.1 0).testBit j with
    | false => exact Or.inl ⟨c, rfl, by rw [ifb_f]⟩
    | true =>
      right
      refine ⟨c, rfl, ?_⟩
      rw [ifb_t, e]
      have q1 := putM_N (j := 5) (v := A.1 5 + (K.2 2 j).toNatClampNeg) (by omega) r
      have f1 : MFr M (putM M (posM 5) (nI (A.1 5 + (K.2 2 j).toNatClampNeg))) := putM_F (by unfold hallIx posM; simp)
      have f2 : ∀ v, MFr (putM M (posM 5) (nI (A.1 5 + (K.2 2 j).toNatClampNeg))) (putM (putM M (posM 5) (nI (A.1 5 + (K.2 2 j).toNatClampNeg))) (42 + j) v) := fun v => putM_F (by unfold hallIx; omega)
      rcases hs with rfl | rfl
      · refine ⟨putM (putM M (posM 5) (nI (A.1 5 + (K.2 2 j).toNatClampNeg))) (42 + j) 99, ?_, putM_L hJ hj q1, f1.tr (f2 _)⟩
        rfl
      · refine ⟨putM (putM M (posM 5) (nI (A.1 5 + (K.2 2 j).toNatClampNeg))) (42 + j) (-99), ?_, putM_L hJ hj q1, f1.tr (f2 _)⟩
        rfl
theorem so_loop {p : Nat} {S : Nat} {K : Co} (ok : OKC K) (hp : p < K.1 1) : ∀ (kk i n a : Nat) (M : Mem) (A : Ha), i + kk = K.1 0 → kk < n → RepMC (M.1 55 0) K → RepMH (M.1 55 0) K A → A.1 0 = S → S < 1024 →
    ∃ M', f_X11_showsOne_17 (nI p) n (nI a) (nI i) M = some (nI (foldJ (showF K S (K.2 4 p)) kk i (A.2.1, a)).2, M') ∧ RepMH (M'.1 55 0) K (A.1, (foldJ (showF K S (K.2 4 p)) kk i (A.2.1, a)).1, A.2.2) ∧ MFr M M'
  | kk, i, 0, a, M, A, _, hn, _, _, _, _ => by omega
  | 0, i, n + 1, a, M, A, hi, _, rc, r, hA, hS => by
    have hJ := ok.J
    have e : i = K.1 0 := by omega
    subst e
    refine ⟨M, ?_, r, MFr.rf⟩
    rw [f_X11_showsOne_17, rc.1 0 (by decide), if_neg (by rw [lt_nI (by omega) (by omega)]; omega)]
    rfl
  | kk + 1, i, n + 1, a, M, A, hi, hn, rc, r, hA, hS => by
    have hJ := ok.J
    have k1 : K.1 1 ≤ 6 := ok.2.1
    have ih := so_loop (S := S) ok hp kk (i + 1) n
    rw [f_X11_showsOne_17, rc.1 0 (by decide), if_pos (by rw [lt_nI (by omega) (by omega)]; omega)]
    rw [X11_isSeated_sp (S := S) (by rw [← hA]; exact r.1) hS (by omega), Option.bind_some]
    rw [show nI i + (1 : Int32) = nI (i + 1) from add_nI i 1]
    have e : ∀ x, foldJ (showF K S (K.2 4 p)) (kk + 1) i x = foldJ (showF K S (K.2 4 p)) kk (i + 1) (showF K S (K.2 4 p) x i) := fun _ => rfl
    rw [e]
    unfold showF
    cases hb : S.testBit i with
    | false =>
      rw [ifb_f]
      exact ih a M A (by omega) (by omega) rc r hA hS
    | true =>
      rw [ifb_t, show (42 : Int32) + nI i = nI (42 + i) from add_nI 42 i, show (22 : Int32) + nI i = nI (22 + i) from add_nI 22 i, show (152 : Int32) + nI p = nI (152 + p) from add_nI 152 p, inb_nI_t (show 42 + i < 2375 by omega) (by decide), inb_nI_t (show 22 + i < 2375 by omega) (by decide), inb_nI_t (show 152 + p < 2375 by omega) (by decide), nI_clamp (by omega), nI_clamp (by omega), nI_clamp (by omega), (rc.2.2.2.1 i (by omega)).2.1, rc.2.2.2.2.2.1 p hp, r.2.2.2.2.2.2.1 i (by omega)]
      simp only [if_true]
      have tl : ∀ b, f_X11_showsOne_109 (fun x2 x3 M_1 => f_X11_showsOne_17 (nI p) n x2 x3 M_1) (nI p) (nI a) (nI i) (A.2.1 i) (nI (42 + i)) (A.2.1 i) b M = f_X11_showsOne_17 (nI p) n (nI (a + if cutS (A.2.1 i + b) = A.2.1 i then 0 else 1)) (nI (i + 1)) (putM M (42 + i) (cutS (A.2.1 i + b))) := by
        intro b
        unfold f_X11_showsOne_109
        rw [cut_eq, Option.bind_some, inb_nI_t (show 42 + i < 2375 by omega) (by decide), if_pos rfl, show (42 : Int32) + nI i = nI (42 + i) from add_nI 42 i, inb_nI_t (show 42 + i < 2375 by omega) (by decide), if_pos rfl, nI_clamp (by omega), show nI i + (1 : Int32) = nI (i + 1) from add_nI i 1]
        show (if (putM M (42 + i) (cutS (A.2.1 i + b))).1 55 0 (42 + i) = A.2.1 i then _ else _) = _
        rw [putM_at, upd_at]
        by_cases c : cutS (A.2.1 i + b) = A.2.1 i
        · rw [if_pos c, if_pos c]
          show f_X11_showsOne_17 (nI p) n (nI a + (0 : Int32)) _ _ = _
          rw [Int32.add_zero, Nat.add_zero]
          rfl
        · rw [if_neg c, if_neg c]
          show f_X11_showsOne_17 (nI p) n (nI a + (1 : Int32)) _ _ = _
          rw [show nI a + (1 : Int32) = nI (a + 1) from add_nI a 1]
          rfl
      have e2 : (if K.2 4 p < 0 then f_X11_showsOne_109 (fun x2 x3 M_1 => f_X11_showsOne_17 (nI p) n x2 x3 M_1) (nI p) (nI a) (nI i) (A.2.1 i) (nI (42 + i)) (A.2.1 i) (-(jmax 0 (jabs (K.2 4 p) - K.2 1 i))) M else f_X11_showsOne_109 (fun x2 x3 M_1 => f_X11_showsOne_17 (nI p) n x2 x3 M_1) (nI p) (nI a) (nI i) (A.2.1 i) (nI (42 + i)) (A.2.1 i) (jmax 0 (jabs (K.2 4 p) - K.2 1 i)) M) = f_X11_showsOne_17 (nI p) n (nI (a + if cutS (A.2.1 i + byS K (K.2 4 p) i) = A.2.1 i then 0 else 1)) (nI (i + 1)) (putM M (42 + i) (cutS (A.2.1 i + byS K (K.2 4 p) i))) := by
        rw [tl, tl]
        unfold byS
        by_cases c : K.2 4 p < 0
        · rw [if_pos c, if_pos c]
        · rw [if_neg c, if_neg c]
      rw [e2]
      have f1 : MFr M (putM M (42 + i) (cutS (A.2.1 i + byS K (K.2 4 p) i))) := putM_F (by unfold hallIx; omega)
      obtain ⟨M', g1, g2, g3⟩ := ih (a + if cutS (A.2.1 i + byS K (K.2 4 p) i) = A.2.1 i then 0 else 1) _ _ (by omega) (by omega) (rc.fr ok f1.2.2) (putM_L (v := cutS (A.2.1 i + byS K (K.2 4 p) i)) hJ (by omega) r) hA hS
      exact ⟨M', g1, g2, f1.tr g3⟩
theorem X11_showsOne_sp {M : Mem} {p : Nat} {A : Ha} {K : Co} (ok : OKC K) (rc : RepMC (M.1 55 0) K) (r : RepMH (M.1 55 0) K A) (o : OKH (K.1 0) A) (hp : p < K.1 1) : ∃ M', f_X11_showsOne (nI p) M = some (nI (showX K p A).2, M') ∧ RepMH (M'.1 55 0) K (showS K p A) ∧ MFr M M' := by
  have hJ := ok.J
  have k1 : K.1 1 ≤ 6 := ok.2.1
  unfold f_X11_showsOne
  rw [r.2.1, shl_1 p (by omega), or_nI]
  have q1 := putM_N (j := 1) (v := A.1 1 ||| 2 ^ p) (by omega) r
  have f1 : MFr M (putM M (posM 1) (nI (A.1 1 ||| 2 ^ p))) := putM_F (by unfold hallIx posM; simp)
  obtain ⟨M', g1, g2, g3⟩ := so_loop (S := A.1 0) ok hp (K.1 0) 0 FU 0 _ _ (by omega) (lt_FU (by omega)) (rc.fr ok f1.2.2) q1 rfl o.S
  exact ⟨M', g1, g2, f1.tr g3⟩
theorem ed_loop {v : Int32} {K : Co} (ok : OKC K) : ∀ (kk i n : Nat) (M : Mem) (A : Ha), i + kk = K.1 0 → kk < n → RepMC (M.1 55 0) K → RepMH (M.1 55 0) K A →
    ∃ M', f_X11_endsDay_123 v n (nI i) M = some (v, M') ∧ RepMH (M'.1 55 0) K (A.1, (fun j => if i ≤ j ∧ j < K.1 0 then K.2 0 j else A.2.1 j), A.2.2) ∧ MFr M M'
  | kk, i, 0, M, A, _, hn, _, _ => by omega
  | 0, i, n + 1, M, A, hi, _, rc, r => by
    have hJ := ok.J
    have e : i = K.1 0 := by omega
    subst e
    refine ⟨M, ?_, ?_, MFr.rf⟩
    · rw [f_X11_endsDay_123, rc.1 0 (by decide), if_neg (by rw [lt_nI (by omega) (by omega)]; omega)]
    · have el : (fun j => if K.1 0 ≤ j ∧ j < K.1 0 then K.2 0 j else A.2.1 j) = A.2.1 := by
        funext j
        rw [if_neg (by omega)]
      rw [el]
      exact r
  | kk + 1, i, n + 1, M, A, hi, hn, rc, r => by
    have hJ := ok.J
    rw [f_X11_endsDay_123, rc.1 0 (by decide), if_pos (by rw [lt_nI (by omega) (by omega)]; omega), show (42 : Int32) + nI i = nI (42 + i) from add_nI 42 i, show (12 : Int32) + nI i = nI (12 + i) from add_nI 12 i, inb_nI_t (show 42 + i < 2375 by omega) (by decide), inb_nI_t (show 12 + i < 2375 by omega) (by decide), if_pos rfl, if_pos rfl, nI_clamp (by omega), nI_clamp (by omega), (rc.2.2.2.1 i (by omega)).1, show nI i + (1 : Int32) = nI (i + 1) from add_nI i 1]
    have f1 : MFr M (putM M (42 + i) (K.2 0 i)) := putM_F (by unfold hallIx; omega)
    obtain ⟨M', g1, g2, g3⟩ := ed_loop ok kk (i + 1) n (putM M (42 + i) (K.2 0 i)) _ (by omega) (by omega) (rc.fr ok f1.2.2) (putM_L (v := K.2 0 i) hJ (by omega) r)
    refine ⟨M', g1, ?_, f1.tr g3⟩
    have el : (fun j => if i + 1 ≤ j ∧ j < K.1 0 then K.2 0 j else (A.1, upd A.2.1 i (K.2 0 i), A.2.2).2.1 j) = (fun j => if i ≤ j ∧ j < K.1 0 then K.2 0 j else A.2.1 j) := by
      funext j
      show (if i + 1 ≤ j ∧ j < K.1 0 then K.2 0 j else upd A.2.1 i (K.2 0 i) j) = _
      by_cases e : j = i
      · subst e
        rw [if_neg (by omega), if_pos (by omega), upd_at]
      · rw [upd_ne _ _ e]
        by_cases c : i + 1 ≤ j ∧ j < K.1 0
        · rw [if_pos c, if_pos (by omega)]
        · rw [if_neg c, if_neg (by omega)]
    rw [el] at g2
    exact g2
theorem X11_endsDay77_sp {M : Mem} {v : Int32} {A : Ha} {K : Co} (ok : OKC K) (rc : RepMC (M.1 55 0) K) (r : RepMH (M.1 55 0) K A) :
    ∃ M', f_X11_endsDay_77 v M = some (v, M') ∧ RepMH (M'.1 55 0) K (openS K (updN A.1 3 (A.1 3 + 1), A.2)) ∧ MFr M M' := by
  have hJ := ok.J
  unfold f_X11_endsDay_77
  have F : ∀ (M : Mem) (j : Nat) (v : Nat), j < 6 → j ≠ 4 → MFr M (putM M (posM j) (nI v)) := fun M j v h1 h2 => putM_F (by
    unfold hallIx posM
    match j, h1, h2 with
    | 0, _, _ => simp
    | 1, _, _ => simp
    | 2, _, _ => simp
    | 3, _, _ => simp
    | 5, _, _ => simp)
  have er : M.1 55 0 6 + (1 : Int32) = nI (A.1 3 + 1) := by rw [r.2.2.2.1]; exact add_nI _ 1
  rw [er]
  have q1 := putM_N (j := 3) (v := A.1 3 + 1) (by omega) r
  have q2 := putM_N (j := 2) (v := 0) (by omega) q1
  have q3 := putM_N (j := 1) (v := 0) (by omega) q2
  have q4 := putM_N (j := 0) (v := 2 ^ K.1 0 - 1) (by omega) q3
  have f1 := F M 3 (A.1 3 + 1) (by decide) (by decide)
  have f2 := F (putM M (posM 3) (nI (A.1 3 + 1))) 2 0 (by decide) (by decide)
  have f3 := F (putM (putM M (posM 3) (nI (A.1 3 + 1))) (posM 2) (nI 0)) 1 0 (by decide) (by decide)
  have f4 := F (putM (putM (putM M (posM 3) (nI (A.1 3 + 1))) (posM 2) (nI 0)) (posM 1) (nI 0)) 0 (2 ^ K.1 0 - 1) (by decide) (by decide)
  have rc3 := rc.fr ok ((f1.tr f2).tr f3).2.2
  have rc4 := rc.fr ok (((f1.tr f2).tr f3).tr f4).2.2
  obtain ⟨M', g1, g2, g3⟩ := ed_loop (v := v) ok (K.1 0) 0 FU _ _ (by omega) (lt_FU (by omega)) rc4 q4
  refine ⟨M', ?_, ?_, (((f1.tr f2).tr f3).tr f4).tr g3⟩
  · rw [← g1]
    show f_X11_endsDay_123 v FU (0 : Int32) (putM (putM (putM (putM M (posM 3) (nI (A.1 3 + 1))) (posM 2) (nI 0)) (posM 1) (nI 0)) (posM 0) (((1 : Int32) <<< (((putM (putM (putM M (posM 3) (nI (A.1 3 + 1))) (posM 2) (nI 0)) (posM 1) (nI 0)).1 55 0 0) &&& 31)) - (1 : Int32))) = _
    rw [rc3.1 0 (by decide), shl_1 _ (by omega), show nI (2 ^ K.1 0) - (1 : Int32) = nI (2 ^ K.1 0 - 1) from sub_nI (Nat.two_pow_pos _)]
    rfl
  · have e1 : updN (updN (updN (updN A.1 3 (A.1 3 + 1)) 2 0) 1 0) 0 (2 ^ K.1 0 - 1) = updN (updN (updN (updN A.1 3 (A.1 3 + 1)) 0 (2 ^ K.1 0 - 1)) 1 0) 2 0 := by
      funext j
      unfold updN
      by_cases c0 : j = 0
      · subst c0; simp
      · by_cases c1 : j = 1
        · subst c1; simp
        · by_cases c2 : j = 2
          · subst c2; simp
          · simp [c0, c1, c2]
    have el : (fun j => if 0 ≤ j ∧ j < K.1 0 then K.2 0 j else A.2.1 j) = (fun j => if j < K.1 0 then K.2 0 j else A.2.1 j) := by
      funext j
      by_cases c : j < K.1 0
      · rw [if_pos c, if_pos ⟨Nat.zero_le _, c⟩]
      · rw [if_neg c, if_neg (fun z => c z.2)]
    have g2 : RepMH (M'.1 55 0) K (updN (updN (updN (updN A.1 3 (A.1 3 + 1)) 2 0) 1 0) 0 (2 ^ K.1 0 - 1), (fun j => if 0 ≤ j ∧ j < K.1 0 then K.2 0 j else A.2.1 j), A.2.2) := g2
    rw [e1, el] at g2
    exact g2
/-- the weather, where there is one -/
theorem putM_W {M : Mem} {v : Nat} {K : Co} {A : Ha} (hW : ¬ K.1 2 = 0) (r : RepMH (M.1 55 0) K A) : RepMH ((putM M 8 (nI v)).1 55 0) K (updN A.1 4 v, A.2) := by
  obtain ⟨r1, r2, r3, r4, r5, r6, r7, r8⟩ := r
  rw [putM_at]
  refine ⟨r1, r2, r3, r4, ?_, r6, fun i hi => ?_, fun q hq => ?_⟩
  · rw [upd_at, if_neg hW]
    show nI v = nI (updN A.1 4 v 4)
    rw [updN_at]
  · rw [upd_ne _ _ (by omega)]; exact r7 i hi
  · rw [upd_ne _ _ (by omega)]; exact r8 q hq
theorem putM_G {M : Mem} {q : Nat} {v : Int32} {K : Co} {A : Ha} (k3 : K.1 3 ≤ 4) (k0 : K.1 0 ≤ 10) (hq : q < K.1 3) (r : RepMH (M.1 55 0) K A) : RepMH ((putM M (194 + q) v).1 55 0) K (A.1, A.2.1, upd A.2.2 q v) := by
  obtain ⟨r1, r2, r3, r4, r5, r6, r7, r8⟩ := r
  rw [putM_at]
  refine ⟨?_, ?_, ?_, ?_, ?_, ?_, fun j hj => ?_, fun i hi => ?_⟩
  · rw [upd_ne _ _ (by omega)]; exact r1
  · rw [upd_ne _ _ (by omega)]; exact r2
  · rw [upd_ne _ _ (by omega)]; exact r3
  · rw [upd_ne _ _ (by omega)]; exact r4
  · rw [upd_ne _ _ (by omega)]; exact r5
  · rw [upd_ne _ _ (by omega)]; exact r6
  · rw [upd_ne _ _ (by omega)]; exact r7 j hj
  · by_cases e : i = q
    · subst e
      rw [upd_at]
      exact (upd_at A.2.2 i v).symm
    · rw [upd_ne _ _ (by omega)]
      exact (r8 i hi).trans (upd_ne A.2.2 v e).symm
theorem X11_growsOn_sp {M : Mem} {q w : Nat} {K : Co} (ok : OKC K) (rc : RepMC (M.1 55 0) K) (hq : q < K.1 3) (hw : w < K.1 2) : f_X11_growsOn (nI q) (nI w) M = some (K.2 5 (6 * q + w)) := by
  obtain ⟨-, -, k2, k3, -⟩ := ok
  unfold f_X11_growsOn
  have ex : (170 : Int32) + (6 : Int32) * nI q + nI w = nI (170 + 6 * q + w) := by rw [show (6 : Int32) = nI 6 from rfl, mul_nI, show (170 : Int32) = nI 170 from rfl, add_nI, add_nI]
  rw [ex, inb_nI_t (by omega) (by decide), if_pos rfl, nI_clamp (by omega)]
  exact congrArg some (rc.2.2.2.2.2.2.2 q w hq hw)
theorem X11_behindOf_sp {M : Mem} {w : Nat} {v : Int32} {K : Co} (ok : OKC K) (rc : RepMC (M.1 55 0) K) (hw : w < K.1 2) (hv : v = 0 ∨ v = 1 ∨ v = -1) : f_X11_behindOf (nI w) v M = some (nI (behS K w v)) := by
  obtain ⟨-, -, k2, k3, -⟩ := ok
  unfold f_X11_behindOf behS
  rw [show (158 : Int32) + nI w = nI (158 + w) from add_nI 158 w, show (164 : Int32) + nI w = nI (164 + w) from add_nI 164 w, inb_nI_t (show 158 + w < 2375 by omega) (by decide), inb_nI_t (show 164 + w < 2375 by omega) (by decide), nI_clamp (by omega), nI_clamp (by omega), (rc.2.2.2.2.2.2.1 w hw).1, (rc.2.2.2.2.2.2.1 w hw).2]
  rcases hv with rfl | rfl | rfl <;> rfl
theorem verdS_in (K : Co) (A : Ha) : verdS K A = 0 ∨ verdS K A = 1 ∨ verdS K A = -1 := by
  unfold verdS ruleN
  repeat' split
  all_goals simp
theorem eg_loop {v : Int32} {K : Co} (ok : OKC K) (hW : ¬ K.1 2 = 0) : ∀ (kk i n : Nat) (M : Mem) (A : Ha), i + kk = K.1 3 → kk < n → RepMC (M.1 55 0) K → RepMH (M.1 55 0) K A → A.1 4 < K.1 2 →
    ∃ n' M', f_X11_endsDay_17 v n (nI i) M = f_X11_endsDay_17 v (n' + 1) (nI (K.1 3)) M' ∧ RepMH (M'.1 55 0) K (A.1, A.2.1, (fun q => if i ≤ q ∧ q < K.1 3 then A.2.2 q + K.2 5 (6 * q + A.1 4) else A.2.2 q)) ∧ MFr M M'
  | kk, i, 0, M, A, _, hn, _, _, _ => by omega
  | 0, i, n + 1, M, A, hi, _, rc, r, _ => by
    have e : i = K.1 3 := by omega
    subst e
    refine ⟨n, M, rfl, ?_, MFr.rf⟩
    have el : (fun q => if K.1 3 ≤ q ∧ q < K.1 3 then A.2.2 q + K.2 5 (6 * q + A.1 4) else A.2.2 q) = A.2.2 := by
      funext j
      rw [if_neg (by omega)]
    rw [el]
    exact r
  | kk + 1, i, n + 1, M, A, hi, hn, rc, r, hw => by
    have k3 : K.1 3 ≤ 4 := ok.2.2.2.1
    have k2 : K.1 2 ≤ 6 := ok.2.2.1
    have r8 := r.2.2.2.2.1
    rw [if_neg hW] at r8
    rw [f_X11_endsDay_17, rc.1 3 (by decide), if_pos (by rw [lt_nI (by omega) (by omega)]; omega), show (194 : Int32) + nI i = nI (194 + i) from add_nI 194 i, inb_nI_t (show 194 + i < 2375 by omega) (by decide), if_pos rfl, r8, X11_growsOn_sp ok rc (by omega) hw, Option.bind_some, if_pos rfl, nI_clamp (by omega), r.2.2.2.2.2.2.2 i (by omega), show nI i + (1 : Int32) = nI (i + 1) from add_nI i 1]
    have f1 : MFr M (putM M (194 + i) (A.2.2 i + K.2 5 (6 * i + A.1 4))) := putM_F (by unfold hallIx; omega)
    obtain ⟨n', M', g1, g2, g3⟩ := eg_loop (v := v) ok hW kk (i + 1) n _ _ (by omega) (by omega) (rc.fr ok f1.2.2) (putM_G (q := i) (v := A.2.2 i + K.2 5 (6 * i + A.1 4)) k3 ok.J (by omega) r) hw
    refine ⟨n', M', g1, ?_, f1.tr g3⟩
    have el : (fun q => if i + 1 ≤ q ∧ q < K.1 3 then (upd A.2.2 i (A.2.2 i + K.2 5 (6 * i + A.1 4))) q + K.2 5 (6 * q + A.1 4) else upd A.2.2 i (A.2.2 i + K.2 5 (6 * i + A.1 4)) q) = (fun q => if i ≤ q ∧ q < K.1 3 then A.2.2 q + K.2 5 (6 * q + A.1 4) else A.2.2 q) := by
      funext j
      by_cases e : j = i
      · subst e
        rw [if_neg (by omega), if_pos (by omega), upd_at]
      · rw [upd_ne _ _ e]
        by_cases c : i + 1 ≤ j ∧ j < K.1 3
        · rw [if_pos c, if_pos (by omega)]
        · rw [if_neg c, if_neg (by omega)]
    rw [← el]
    exact g2
theorem X11_endsDay_sp {M : Mem} {A : Ha} {K : Co} (ok : OKC K) (rc : RepMC (M.1 55 0) K) (r : RepMH (M.1 55 0) K A) (o : OKH (K.1 0) A) (hw : K.1 2 = 0 ∨ A.1 4 < K.1 2) : ∃ M', f_X11_endsDay M = some (verdS K A, M') ∧ RepMH (M'.1 55 0) K (dayS K A) ∧ MFr M M' := by
  have k2 : K.1 2 ≤ 6 := ok.2.2.1
  have k3 : K.1 3 ≤ 4 := ok.2.2.2.1
  unfold f_X11_endsDay
  rw [X11_judged_sp ok rc r o, Option.bind_some]
  have r8 := r.2.2.2.2.1
  by_cases c : K.1 2 = 0
  · rw [if_pos c] at r8
    rw [r8, if_pos (by decide)]
    obtain ⟨M', g1, g2, g3⟩ := X11_endsDay77_sp (v := verdS K A) ok rc r
    refine ⟨M', g1, ?_, g3⟩
    unfold dayS growS
    rw [if_pos c, if_pos c, updN_same]
    exact g2
  · rw [if_neg c] at r8
    have hw : A.1 4 < K.1 2 := by omega
    rw [r8, if_neg (nI_pos (by omega))]
    obtain ⟨n', M1, g1, g2, g3⟩ := eg_loop (v := verdS K A) ok c (K.1 3) 0 FU M A (by omega) (lt_FU (by omega)) rc r hw
    have rc1 := rc.fr ok g3.2.2
    have r81 := g2.2.2.2.2.1
    rw [if_neg c] at r81
    have r81 : M1.1 55 0 8 = nI (A.1 4) := r81
    rw [show (0 : Int32) = nI 0 from rfl, g1, f_X11_endsDay_17, rc1.1 3 (by decide), if_neg (by rw [lt_nI (by omega) (by omega)]; omega), r81, X11_behindOf_sp ok rc1 hw (verdS_in K A), Option.bind_some]
    have q1 := putM_W (v := behS K (A.1 4) (verdS K A)) c g2
    have f1 : MFr M1 (putM M1 8 (nI (behS K (A.1 4) (verdS K A)))) := putM_F (by unfold hallIx; omega)
    obtain ⟨M', h1, h2, h3⟩ := X11_endsDay77_sp (v := verdS K A) ok (rc1.fr ok f1.2.2) q1
    refine ⟨M', h1, ?_, (g3.tr f1).tr h3⟩
    unfold dayS growS
    rw [if_neg c, if_neg c]
    have e3 : updN A.1 4 (behS K (A.1 4) (verdS K A)) 3 = A.1 3 := updN_ne _ _ (by decide)
    have el : (fun q => if 0 ≤ q ∧ q < K.1 3 then A.2.2 q + K.2 5 (6 * q + A.1 4) else A.2.2 q) = (fun q => if q < K.1 3 then A.2.2 q + K.2 5 (6 * q + A.1 4) else A.2.2 q) := by
      funext j
      by_cases c : j < K.1 3
      · rw [if_pos c, if_pos ⟨Nat.zero_le _, c⟩]
      · rw [if_neg c, if_neg (fun z => c z.2)]
    have h2 : RepMH (M'.1 55 0) K (openS K (updN (updN A.1 4 (behS K (A.1 4) (verdS K A))) 3 (updN A.1 4 (behS K (A.1 4) (verdS K A)) 3 + 1), A.2.1, (fun q => if 0 ≤ q ∧ q < K.1 3 then A.2.2 q + K.2 5 (6 * q + A.1 4) else A.2.2 q))) := h2
    rw [e3, el] at h2
    exact h2
