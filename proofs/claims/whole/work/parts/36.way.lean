/-! ===== calls on both: way, reach ===== -/
def dayF (K : Co) (S a w : Nat) : Nat := if S.testBit w then a ||| (2 ^ K.1 (100 + w) ||| 2 ^ K.1 (200 + w)) else a
def moreS (K : Co) (S : Nat) : Nat := foldJ (dayF K S) (K.1 2) 0 S
theorem p2_31 {i n : Nat} (h : i < n) (hn : n ≤ 6) : i < 31 := by omega
theorem dx_loop {M : Mem} {K : Co} {S : Nat} (ok : OKC K) (rc : RepC M 0 K) (hS : S < 1024) : ∀ (k i fu a : Nat), i + k = K.1 2 → k < fu →
    f_X1_dayMore_4 0 (nI S) M fu (nI a) (nI i) = some (nI (foldJ (dayF K S) k i a))
  | k, i, 0, a, _, h => by omega
  | 0, i, fu + 1, a, hi, _ => by
    have hw : K.1 2 ≤ 6 := ok.2.2.1
    rw [f_X1_dayMore_4, show M.1 9 0 2 = nI (K.1 2) from rc.1 2 (by decide), if_neg (by rw [lt_nI (by omega) (by omega)]; omega)]
    rfl
  | k + 1, i, fu + 1, a, hi, hk => by
    have hw : K.1 2 ≤ 6 := ok.2.2.1
    have q := ok.2.2.2.2.2.2.1 i (by omega)
    have r := rc.2.2.2.2.2.2.2.1 i (by omega)
    rw [f_X1_dayMore_4, show M.1 9 0 2 = nI (K.1 2) from rc.1 2 (by decide), if_pos (by rw [lt_nI (by omega) (by omega)]; omega), show nI i + (1 : Int32) = nI (i + 1) from add_nI i 1]
    show _ = some (nI (foldJ (dayF K S) k (i + 1) (dayF K S a i)))
    cases hb : S.testBit i with
    | false =>
      rw [if_pos (by rw [bitZ S i hS (by omega)]; exact hb), dx_loop ok rc hS k (i + 1) fu a (by omega) (by omega)]
      unfold dayF
      rw [hb]; rfl
    | true =>
      rw [if_neg (by rw [bitZ S i hS (by omega), hb]; decide), inb_nI_t (show i < 6 by omega) (by decide), if_pos rfl, if_pos rfl, nI_clamp (by omega)]
      simp only
      rw [show M.1 17 0 i = nI (K.1 (100 + i)) from r.1, show M.1 18 0 i = nI (K.1 (200 + i)) from r.2, shl_1 _ (by omega), shl_1 _ (by omega), or_nI, or_nI, dx_loop ok rc hS k (i + 1) fu _ (by omega) (by omega)]
      unfold dayF
      rw [hb]; rfl
theorem dayMore_sp {M : Mem} {K : Co} {S : Nat} (ok : OKC K) (rc : RepC M 0 K) (hS : S < 1024) : f_X1_dayMore 0 (nI S) M = some (nI (moreS K S)) := by
  have hw : K.1 2 ≤ 6 := ok.2.2.1
  unfold f_X1_dayMore
  exact dx_loop ok rc hS (K.1 2) 0 FU S (by omega) (lt_FU (by omega))
theorem dm_loop {M : Mem} {K : Co} {S : Nat} (ok : OKC K) (rc : RepMC (M.1 55 0) K) (hS : S < 1024) : ∀ (k i fu a : Nat), i + k = K.1 2 → k < fu →
    f_X11_behindSet_4 (nI S) M fu (nI a) (nI i) = some (nI (foldJ (dayF K S) k i a))
  | k, i, 0, a, _, h => by omega
  | 0, i, fu + 1, a, hi, _ => by
    have hw : K.1 2 ≤ 6 := ok.2.2.1
    rw [f_X11_behindSet_4, show M.1 55 0 2 = nI (K.1 2) from rc.1 2 (by decide), if_neg (by rw [lt_nI (by omega) (by omega)]; omega)]
    rfl
  | k + 1, i, fu + 1, a, hi, hk => by
    have hw : K.1 2 ≤ 6 := ok.2.2.1
    have q := ok.2.2.2.2.2.2.1 i (by omega)
    have r := rc.2.2.2.2.2.2.1 i (by omega)
    rw [f_X11_behindSet_4, show M.1 55 0 2 = nI (K.1 2) from rc.1 2 (by decide), if_pos (by rw [lt_nI (by omega) (by omega)]; omega), show nI i + (1 : Int32) = nI (i + 1) from add_nI i 1, has_at hS (by omega), Option.bind_some]
    show _ = some (nI (foldJ (dayF K S) k (i + 1) (dayF K S a i)))
    cases hb : S.testBit i with
    | false =>
      rw [ifb_f, show nI a ||| (0 : Int32) = nI a from by rw [show (0 : Int32) = nI 0 from rfl, or_nI, Nat.or_zero], dm_loop ok rc hS k (i + 1) fu a (by omega) (by omega)]
      unfold dayF
      rw [hb]; rfl
    | true =>
      rw [ifb_t, show (158 : Int32) + nI i = nI (158 + i) from add_nI 158 i, show (164 : Int32) + nI i = nI (164 + i) from add_nI 164 i, inb_nI_t (show 158 + i < 2375 by omega) (by decide), if_pos rfl, inb_nI_t (show 164 + i < 2375 by omega) (by decide), if_pos rfl, nI_clamp (by omega), nI_clamp (by omega)]
      simp only
      rw [show M.1 55 0 (158 + i) = nI (K.1 (100 + i)) from r.1, show M.1 55 0 (164 + i) = nI (K.1 (200 + i)) from r.2, shl_1 _ (by omega), shl_1 _ (by omega), or_nI, or_nI, dm_loop ok rc hS k (i + 1) fu _ (by omega) (by omega)]
      unfold dayF
      rw [hb]; rfl
theorem dayF_or (K : Co) (S : Nat) : ∀ (k i a b : Nat), foldJ (dayF K S) k i (a ||| b) = a ||| foldJ (dayF K S) k i b
  | 0, _, _, _ => rfl
  | k + 1, i, a, b => by
    show foldJ (dayF K S) k (i + 1) (dayF K S (a ||| b) i) = a ||| foldJ (dayF K S) k (i + 1) (dayF K S b i)
    rw [← dayF_or K S k (i + 1) a (dayF K S b i)]
    congr 1
    unfold dayF
    by_cases c : S.testBit i = true
    · rw [if_pos c, if_pos c, Nat.or_assoc]
    · rw [if_neg c, if_neg c]
/-- one step of the reference: what stands, and what can follow -/
theorem behindSet_sp {M : Mem} {K : Co} {S : Nat} (ok : OKC K) (rc : RepMC (M.1 55 0) K) (hS : S < 1024) : ∃ T, f_X11_behindSet (nI S) M = some T ∧ nI S ||| T = nI (moreS K S) := by
  have hw : K.1 2 ≤ 6 := ok.2.2.1
  refine ⟨nI (foldJ (dayF K S) (K.1 2) 0 0), ?_, ?_⟩
  · unfold f_X11_behindSet
    exact dm_loop ok rc hS (K.1 2) 0 FU 0 (by omega) (lt_FU (by omega))
  · rw [or_nI, ← dayF_or, Nat.or_zero]
    rfl
theorem moreS_lt {K : Co} {S : Nat} (ok : OKC K) (h : S < 2 ^ K.1 2) : moreS K S < 2 ^ K.1 2 := by
  unfold moreS
  refine foldJ_inv (P := fun x => x < 2 ^ K.1 2) _ _ _ h (fun x m h1 h2 hx => ?_)
  have q := ok.2.2.2.2.2.2.1 m (by omega)
  unfold dayF
  by_cases c : S.testBit m = true
  · rw [if_pos c]
    exact Nat.or_lt_two_pow hx (Nat.or_lt_two_pow (Nat.pow_lt_pow_right (by decide) q.1) (Nat.pow_lt_pow_right (by decide) q.2))
  · rw [if_neg c]; exact hx
theorem moreS_sub (K : Co) (S : Nat) : S ||| moreS K S = moreS K S := by
  unfold moreS
  rw [← dayF_or, Nat.or_self]
def itS (K : Co) : Nat → Nat → Nat
  | 0, S => S
  | n + 1, S => itS K n (moreS K S)
theorem itS_succ (K : Co) : ∀ (n S : Nat), itS K (n + 1) S = moreS K (itS K n S)
  | 0, _ => rfl
  | n + 1, S => itS_succ K n (moreS K S)
theorem itS_lt {K : Co} (ok : OKC K) : ∀ (n S : Nat), S < 2 ^ K.1 2 → itS K n S < 2 ^ K.1 2
  | 0, _, h => h
  | n + 1, S, h => itS_lt ok n _ (moreS_lt ok h)
theorem pc_grow : ∀ S, S < 64 → ∀ T, T < 64 → S ||| T = T → S = T ∨ pc10 S < pc10 T := by decide +kernel
theorem pc_full : ∀ S, S < 64 → pc10 S ≤ 6 := by decide +kernel
theorem pc_one : ∀ S, S < 64 → S = 0 ∨ 1 ≤ pc10 S := by decide +kernel
theorem p2_64 {W : Nat} (h : W ≤ 6) : 2 ^ W ≤ 64 := by
  have := Nat.pow_le_pow_right (n := 2) (by decide) h
  simpa using this
theorem itS_grow {K : Co} (ok : OKC K) {S : Nat} (h : S < 2 ^ K.1 2) (h0 : ¬ S = 0) : ∀ n, itS K (n + 1) S = itS K n S ∨ n + 2 ≤ pc10 (itS K (n + 1) S)
  | 0 => by
    have hw := p2_64 ok.2.2.1
    have l1 := itS_lt ok 1 S h
    rcases pc_grow S (by omega) (itS K 1 S) (by omega) (moreS_sub K S) with c | c
    · exact Or.inl c.symm
    · rcases pc_one S (by omega) with d | d
      · exact absurd d h0
      · right
        show 0 + 2 ≤ pc10 (itS K 1 S)
        omega
  | n + 1 => by
    have hw := p2_64 ok.2.2.1
    have l1 := itS_lt ok (n + 1) S h
    have l2 := itS_lt ok (n + 2) S h
    rcases itS_grow ok h h0 n with c | c
    · left
      rw [itS_succ K (n + 1) S, c, ← itS_succ K n S, c]
    · rcases pc_grow (itS K (n + 1) S) (by omega) (itS K (n + 2) S) (by omega) (by rw [itS_succ K (n + 1) S]; exact moreS_sub K _) with d | d
      · exact Or.inl d.symm
      · right
        show n + 1 + 2 ≤ pc10 (itS K (n + 2) S)
        omega
theorem itS_6 {K : Co} (ok : OKC K) {S : Nat} (h : S < 2 ^ K.1 2) (h0 : ¬ S = 0) : itS K 6 S = itS K 5 S := by
  have hw := p2_64 ok.2.2.1
  rcases itS_grow ok h h0 5 with c | c
  · exact c
  · have := pc_full (itS K 6 S) (by have := itS_lt ok 6 S h; omega)
    have c : 5 + 2 ≤ pc10 (itS K 6 S) := c
    omega
def wayS (K : Co) (v : Nat) : Nat → Nat → Nat → Option Nat
  | 0, _, _ => none
  | k + 1, n, S => if S.testBit v = true then some n else wayS K v k (n + 1) (moreS K S)
theorem wayS_more (K : Co) (v : Nat) : ∀ (k n S : Nat), (itS K (k + 1) S = itS K k S) → wayS K v (k + 2) n S = wayS K v (k + 1) n S
  | 0, n, S, h => by
    have h : moreS K S = S := h
    show (if S.testBit v = true then some n else if (moreS K S).testBit v = true then some (n + 1) else none) = if S.testBit v = true then some n else none
    rw [h]
    by_cases c : S.testBit v = true
    · rw [if_pos c, if_pos c]
    · rw [if_neg c, if_neg c, if_neg c]
  | k + 1, n, S, h => by
    show (if S.testBit v = true then some n else wayS K v (k + 2) (n + 1) (moreS K S)) = if S.testBit v = true then some n else wayS K v (k + 1) (n + 1) (moreS K S)
    rw [wayS_more K v k (n + 1) (moreS K S) h]
theorem wx_loop {M : Mem} {K : Co} {v : Nat} (ok : OKC K) (rc : RepC M 0 K) (hv : v < 6) : ∀ (k n fu S : Nat), n + k = 6 → k < fu → S < 2 ^ K.1 2 →
    f_X10_way_30 (nI v) M fu (nI S) (nI n) = some (ansO (wayS K v k n S), stM M (ansC (wayS K v k n S)))
  | k, n, 0, S, _, h, _ => by omega
  | 0, n, fu + 1, S, hn, _, _ => by
    rw [f_X10_way_30, if_neg (by show ¬ nI n < nI 6; rw [lt_nI (by omega) (by omega)]; omega)]
    rfl
  | k + 1, n, fu + 1, S, hn, hk, hS => by
    have hw := p2_64 ok.2.2.1
    rw [f_X10_way_30, if_pos (by show nI n < nI 6; rw [lt_nI (by omega) (by omega)]; omega)]
    cases hb : S.testBit v with
    | false =>
      rw [if_pos (by rw [bitZ S v (by omega) (by omega)]; exact hb), dayMore_sp ok rc (by omega), Option.bind_some, show nI n + (1 : Int32) = nI (n + 1) from add_nI n 1, wx_loop ok rc hv k (n + 1) fu _ (by omega) (by omega) (moreS_lt ok hS)]
      rw [show wayS K v (k + 1) n S = wayS K v k (n + 1) (moreS K S) from if_neg (by rw [hb]; decide)]
    | true =>
      rw [if_neg (by rw [bitZ S v (by omega) (by omega), hb]; decide), show wayS K v (k + 1) n S = some n from if_pos hb]
      rfl
theorem wm_loop {M : Mem} {K : Co} {v : Nat} (ok : OKC K) (rc : RepMC (M.1 55 0) K) (hv : v < 6) : ∀ (k n fu S : Nat), n + k = 7 → k < fu → S < 2 ^ K.1 2 →
    f_X11_way_36 (nI v) M fu (nI S) (nI n) = some (ansO (wayS K v k n S), if ansC (wayS K v k n S) = 0 then M else smM M 8)
  | k, n, 0, S, _, h, _ => by omega
  | 0, n, fu + 1, S, hn, _, _ => by
    rw [f_X11_way_36, if_pos (by show nI 6 < nI n; rw [lt_nI (by omega) (by omega)]; omega)]
    rfl
  | k + 1, n, fu + 1, S, hn, hk, hS => by
    have hw := p2_64 ok.2.2.1
    rw [f_X11_way_36, if_neg (by show ¬ nI 6 < nI n; rw [lt_nI (by omega) (by omega)]; omega), has_at (by omega) (by omega), Option.bind_some]
    cases hb : S.testBit v with
    | false =>
      obtain ⟨T, t1, t2⟩ := behindSet_sp ok rc (show S < 1024 by omega)
      rw [ifb_f, t1, Option.bind_some, t2, show nI n + (1 : Int32) = nI (n + 1) from add_nI n 1, wm_loop ok rc hv k (n + 1) fu _ (by omega) (by omega) (moreS_lt ok hS)]
      rw [show wayS K v (k + 1) n S = wayS K v k (n + 1) (moreS K S) from if_neg (by rw [hb]; decide)]
    | true =>
      rw [ifb_t, show wayS K v (k + 1) n S = some n from if_pos hb]
      rfl
theorem step_way {s : Sy} (o : OKS s) (x : Int32) : Step s (f_X10_way x) (f_X11_way x) := by
  have hw : (sWo s).1.1 2 ≤ 6 := o.C.2.2.1
  rcases arg_in x (n := (sWo s).1.1 2) (by omega) with ⟨v, hv, rfl⟩ | hx
  · have h0 : ¬ (sWo s).1.1 2 = 0 := by omega
    have h4 := o.w h0
    have hS : 2 ^ (sWo s).2.1.1 4 < 2 ^ (sWo s).1.1 2 := Nat.pow_lt_pow_right (by decide) h4
    have e7 : wayS (sWo s).1 v 7 0 (2 ^ (sWo s).2.1.1 4) = wayS (sWo s).1 v 6 0 (2 ^ (sWo s).2.1.1 4) :=
      wayS_more (sWo s).1 v 5 0 _ (itS_6 o.C hS (by have := Nat.two_pow_pos ((sWo s).2.1.1 4); omega))
    refine step_of (ansO (wayS (sWo s).1 v 6 0 (2 ^ (sWo s).2.1.1 4))) (setSc s 0 (ansC (wayS (sWo s).1 v 6 0 (2 ^ (sWo s).2.1.1 4)))) o (fun M h => ⟨_, ?_, h.st o _ XQ.rf⟩) (fun M h => ?_)
    · unfold f_X10_way
      rw [show f_X10_isNo (2 : Int32) (nI v) M = some 0 from isNo_t (q := 2) h o (by decide) hv, Option.bind_some, if_pos rfl]
      simp only
      rw [show M.1 20 0 6 = nI ((sWo s).2.1.1 4) from h.H.1 4 (by decide), shl_1 _ (by omega)]
      exact wx_loop o.C h.C (by omega) 6 0 FU _ (by omega) (lt_FU (by omega)) hS
    · have e8 : f_X11_way (nI v) M = some (ansO (wayS (sWo s).1 v 7 0 (2 ^ (sWo s).2.1.1 4)), if ansC (wayS (sWo s).1 v 7 0 (2 ^ (sWo s).2.1.1 4)) = 0 then mR M else smM (mR M) 8) := by
        unfold f_X11_way
        simp only [mR_e]
        rw [isWea_t o.C (h.r o).C hv, Option.bind_some, if_neg (by decide), wea_at (h.r o) h0, show (sWo (setSc s 0 0)).2.1.1 4 = (sWo s).2.1.1 4 from rfl, shl_1 _ (by omega)]
        exact wm_loop o.C (h.r o).C (by omega) 7 0 FU _ (by omega) (lt_FU (by omega)) hS
      rw [e7] at e8
      cases hs : wayS (sWo s).1 v 6 0 (2 ^ (sWo s).2.1.1 4) with
      | none =>
        rw [hs] at e8
        exact ⟨smM (mR M) 8, e8, h.st o 8 (mR_Q M)⟩
      | some n =>
        rw [hs] at e8
        exact ⟨mR M, e8, h.s0 o MQm.rf (mR_0 M)⟩
  · refine step_no o 2 (fun M h => ?_) (fun M h => ?_)
    · unfold f_X10_way
      rw [show f_X10_isNo (2 : Int32) x M = some 1 from isNo_f (q := 2) h (by decide) hx]
      rfl
    · unfold f_X11_way
      simp only [mR_e]
      rw [isWea_f o.C (h.r o).C hx]
      rfl
theorem rcx_loop {M : Mem} {K : Co} (ok : OKC K) (rc : RepC M 0 K) : ∀ (k n fu S : Nat), n + k = 6 → k < fu → S < 2 ^ K.1 2 →
    f_X10_reach_28 M fu (nI S) (nI n) = some (nI (itS K k S), stM M 0)
  | k, n, 0, S, _, h, _ => by omega
  | 0, n, fu + 1, S, hn, _, _ => by
    rw [f_X10_reach_28, if_neg (by show ¬ nI n < nI 6; rw [lt_nI (by omega) (by omega)]; omega)]
    rfl
  | k + 1, n, fu + 1, S, hn, hk, hS => by
    have hw := p2_64 ok.2.2.1
    rw [f_X10_reach_28, if_pos (by show nI n < nI 6; rw [lt_nI (by omega) (by omega)]; omega), dayMore_sp ok rc (by omega), Option.bind_some, show nI n + (1 : Int32) = nI (n + 1) from add_nI n 1, rcx_loop ok rc k (n + 1) fu _ (by omega) (by omega) (moreS_lt ok hS)]
    rfl
theorem rcm_loop {M : Mem} {K : Co} (ok : OKC K) (rc : RepMC (M.1 55 0) K) : ∀ (k n fu S : Nat), n + k = 6 → k < fu → S < 2 ^ K.1 2 →
    f_X11_reach_36 M fu (nI S) (nI n) = some (nI (itS K k S), M)
  | k, n, 0, S, _, h, _ => by omega
  | 0, n, fu + 1, S, hn, _, _ => by
    rw [f_X11_reach_36, if_neg (by show ¬ nI n < nI 6; rw [lt_nI (by omega) (by omega)]; omega)]
    rfl
  | k + 1, n, fu + 1, S, hn, hk, hS => by
    have hw := p2_64 ok.2.2.1
    obtain ⟨T, t1, t2⟩ := behindSet_sp ok rc (show S < 1024 by omega)
    rw [f_X11_reach_36, if_pos (by show nI n < nI 6; rw [lt_nI (by omega) (by omega)]; omega), t1, Option.bind_some, t2, show nI n + (1 : Int32) = nI (n + 1) from add_nI n 1, rcm_loop ok rc k (n + 1) fu _ (by omega) (by omega) (moreS_lt ok hS)]
    rfl
theorem itS_none {K : Co} (h : K.1 2 = 0) : ∀ n, itS K n 0 = 0
  | 0 => rfl
  | n + 1 => by
    rw [itS_succ, itS_none h n]
    unfold moreS
    rw [h]; rfl
theorem noWeaX {s : Sy} {M : Mem} (h : RX s M) (o : OKS s) : f_X10_hasNoWeather M = some (if (sWo s).1.1 2 = 0 then 1 else 0) := by
  have hw : (sWo s).1.1 2 ≤ 6 := o.C.2.2.1
  unfold f_X10_hasNoWeather
  rw [show M.1 9 0 2 = nI ((sWo s).1.1 2) from h.C.1 2 (by decide)]
  by_cases c : (sWo s).1.1 2 = 0
  · rw [if_pos (by rw [c]; rfl), if_pos c]
  · rw [if_neg (by rw [nI_z (by omega)]; exact c), if_neg c]
theorem step_reach {s : Sy} (o : OKS s) : Step s f_X10_reach f_X11_reach := by
  have hw : (sWo s).1.1 2 ≤ 6 := o.C.2.2.1
  by_cases c : (sWo s).1.1 2 = 0
  · refine step_ans o 0 (fun M h => ?_) (fun M h => ?_)
    · unfold f_X10_reach
      rw [noWeaX h o, if_pos c]
      rfl
    · have e8 : (mR M).1 55 0 8 = -1 := by
        have q : (mR M).1 55 0 8 = (if (sWo s).1.1 2 = 0 then -1 else nI ((sWo s).2.1.1 4)) := (h.r o).H.2.2.2.2.1
        rw [q, if_pos c]
      unfold f_X11_reach
      simp only [mR_e]
      refine (if_pos (by rw [e8]; decide)).trans ?_
      have := rcm_loop o.C (h.r o).C 6 0 FU 0 (by omega) (lt_FU (by omega)) (Nat.two_pow_pos _)
      rw [itS_none (K := (sWo s).1) c] at this
      exact this
  · have h4 := o.w c
    have hS : 2 ^ (sWo s).2.1.1 4 < 2 ^ (sWo s).1.1 2 := Nat.pow_lt_pow_right (by decide) h4
    refine step_ans o (nI (itS (sWo s).1 6 (2 ^ (sWo s).2.1.1 4))) (fun M h => ?_) (fun M h => ?_)
    · unfold f_X10_reach
      rw [noWeaX h o, if_neg c, Option.bind_some, if_pos rfl]
      simp only
      rw [show M.1 20 0 6 = nI ((sWo s).2.1.1 4) from h.H.1 4 (by decide), shl_1 _ (by omega)]
      exact rcx_loop o.C h.C 6 0 FU _ (by omega) (lt_FU (by omega)) hS
    · unfold f_X11_reach
      simp only [mR_e]
      have e8 : (mR M).1 55 0 8 = nI ((sWo s).2.1.1 4) := wea_at (s := setSc s 0 0) (h.r o) c
      refine (if_neg (by rw [e8]; exact nI_pos (by omega))).trans ?_
      show f_X11_reach_36 (mR M) FU ((1 : Int32) <<< ((mR M).1 55 0 8 &&& 31)) 0 = _
      rw [e8, shl_1 _ (by omega)]
      exact rcm_loop o.C (h.r o).C 6 0 FU _ (by omega) (lt_FU (by omega)) hS
