/-! ===== the reference's tokens ===== -/
noncomputable def byF (v : Int32) : Bool := decide (f_X11_isLetter (v &&& 255) = some (if isL v = true then 1 else 0)) && decide (f_X11_isDigit (v &&& 255) = some (if isD v = true then 1 else 0)) && decide (f_X11_isSignByte (v &&& 255) = some (if isG v = true then 1 else 0)) && decide (decide (v &&& 255 = 10) = decide (v = 10)) && decide (decide (v &&& 255 = 32) = decide (v = 32)) && (!(isL v) || decide ((v &&& 255).toInt64 - (96 : Int64) = ((v - (97 : Int32)) + (1 : Int32)).toInt64)) && (!(isD v) || decide (v &&& 255 = v)) && (!(isG v) || decide (v &&& 255 = v))
set_option maxHeartbeats 600000 in
theorem byF_all : ∀ k, k < 256 → byF (nI k + (-128 : Int32)) = true := by decide +kernel
set_option maxHeartbeats 600000 in
theorem byF_of {v : Int32} (h : inR (-128) 127 v) : byF v = true := by
  obtain ⟨h1, h2⟩ := h
  have e1 : (-128 : Int) ≤ v.toInt := by rw [Int32.le_iff_toInt_le] at h1; exact h1
  have e2 : v.toInt ≤ 127 := by rw [Int32.le_iff_toInt_le] at h2; exact h2
  have e : v = nI (v.toInt + 128).toNat + (-128 : Int32) := by
    have q : (v + (128 : Int32)).toInt = v.toInt + 128 := by
      rw [Int32.toInt_add, show (128 : Int32).toInt = 128 from by decide]
      apply Int.bmod_eq_of_le <;> omega
    have q2 : v + (128 : Int32) = nI (v.toInt + 128).toNat := by
      apply Int32.toInt_inj.mp
      rw [q, nI_toInt (by omega)]
      omega
    rw [← q2, Int32.add_assoc, show (128 : Int32) + (-128) = 0 from by decide, Int32.add_zero]
  rw [e]
  exact byF_all _ (by omega)
set_option maxHeartbeats 600000 in
theorem by_f {v : Int32} (h : inR (-128) 127 v) : f_X11_isLetter (v &&& 255) = some (if isL v = true then 1 else 0) ∧ f_X11_isDigit (v &&& 255) = some (if isD v = true then 1 else 0) ∧ f_X11_isSignByte (v &&& 255) = some (if isG v = true then 1 else 0) ∧ (v &&& 255 = 10 ↔ v = 10) ∧ (v &&& 255 = 32 ↔ v = 32) ∧ (isL v = true → (v &&& 255).toInt64 - (96 : Int64) = ((v - (97 : Int32)) + (1 : Int32)).toInt64) ∧ (isD v = true → v &&& 255 = v) ∧ (isG v = true → v &&& 255 = v) := by
  have q := byF_of h
  unfold byF at q
  simp only [Bool.and_eq_true, decide_eq_true_eq, decide_eq_decide, Bool.or_eq_true, Bool.not_eq_true'] at q
  obtain ⟨⟨⟨⟨⟨⟨⟨a1, a2⟩, a3⟩, a4⟩, a5⟩, a6⟩, a7⟩, a8⟩ := q
  exact ⟨a1, a2, a3, a4, a5, fun z => a6.resolve_left (by rw [z]; decide), fun z => a7.resolve_left (by rw [z]; decide), fun z => a8.resolve_left (by rw [z]; decide)⟩
def AFm (M M' : Mem) : Prop := (∀ c i, ¬ (c = 50 ∧ i = 0) → M'.1 c i = M.1 c i ∧ M'.2 c i = M.2 c i) ∧ (∀ j, ¬ (14 ≤ j ∧ j ≤ 18) → M'.1 50 0 j = M.1 50 0 j) ∧ ∀ j, ¬ j = 19 → M'.2 50 0 j = M.2 50 0 j
set_option maxHeartbeats 600000 in
theorem AFm.rf {M : Mem} : AFm M M := ⟨fun _ _ _ => ⟨rfl, rfl⟩, fun _ _ => rfl, fun _ _ => rfl⟩
set_option maxHeartbeats 600000 in
theorem AFm.tr {M M1 M2 : Mem} (a : AFm M M1) (b : AFm M1 M2) : AFm M M2 := ⟨fun c i h => ⟨(b.1 c i h).1.trans (a.1 c i h).1, (b.1 c i h).2.trans (a.1 c i h).2⟩, fun j h => (b.2.1 j h).trans (a.2.1 j h), fun j h => (b.2.2 j h).trans (a.2.2 j h)⟩
set_option maxHeartbeats 600000 in
theorem AFm.R {M : Mem} {p : Nat} {v : Int32} (hp : 14 ≤ p ∧ p ≤ 18) : AFm M (sR M 50 0 (upd (M.1 50 0) p v)) := ⟨fun c i h => ⟨sR_ne _ _ _ _ h, rfl⟩, fun j h => by rw [sR_at, upd_ne _ _ (fun z => h (by rw [z]; exact hp))], fun _ _ => rfl⟩
set_option maxHeartbeats 600000 in
theorem AFm.L {M : Mem} {v : Int64} : AFm M (sL M 50 0 (vp_updL (M.2 50 0) 19 v)) := ⟨fun c i h => ⟨rfl, sL_ne _ _ _ _ h⟩, fun _ _ => rfl, fun j h => by rw [sL_at, updL_ne _ _ h]⟩
def TkM (M : Mem) (t : Tk) : Prop := M.1 50 0 15 = nI t.1 ∧ M.1 50 0 16 = nI t.2.1 ∧ M.1 50 0 14 = nI t.2.2.1 ∧ (t.2.2.1 = 1 → M.1 50 0 18 = nI t.2.2.2.1 ∧ M.2 50 0 19 = (if 8 < t.2.2.2.1 then -1 else t.2.2.2.2.1)) ∧ (t.2.2.1 = 2 ∨ t.2.2.1 = 3 → M.1 50 0 17 = t.2.2.2.2.2)
def TapM (M : Mem) (P : Nat → Int32) (n : Nat) : Prop := M.1 50 0 9 = nI n ∧ (∀ j, j < n → M.1 54 0 j = P j) ∧ ∀ j, j < n → inR (-128) 127 (P j)
set_option maxHeartbeats 600000 in
theorem AFm.T {M M' : Mem} {P : Nat → Int32} {n : Nat} (f : AFm M M') (h : TapM M P n) : TapM M' P n :=
  ⟨by rw [f.2.1 9 (by omega)]; exact h.1, fun j hj => by rw [(f.1 54 0 (by decide)).1]; exact h.2.1 j hj, h.2.2⟩
set_option maxHeartbeats 600000 in
theorem look_in {M : Mem} {P : Nat → Int32} {n p : Nat} (hn : n ≤ 900) (hT : TapM M P n) (hp : p < n) : f_X11_look2 (nI p) M = some (P p &&& 255) := by
  unfold f_X11_look2
  rw [hT.1, if_pos (by rw [lt_nI (by omega) (by omega)]; exact hp), inb_nI_t (show p < 900 by omega) (by decide), if_pos rfl, nI_clamp (by omega), hT.2.1 p hp]
set_option maxHeartbeats 600000 in
theorem look_out {M : Mem} {P : Nat → Int32} {n p : Nat} (hn : n ≤ 900) (hT : TapM M P n) (hp : n ≤ p) (hp9 : p ≤ 1000) : f_X11_look2 (nI p) M = some 0 := by
  unfold f_X11_look2
  rw [hT.1, if_neg (by rw [lt_nI (by omega) (by omega)]; omega)]
set_option maxHeartbeats 600000 in
theorem let_0 : f_X11_isLetter 0 = some 0 := by decide +kernel
set_option maxHeartbeats 600000 in
theorem dig_0 : f_X11_isDigit 0 = some 0 := by decide +kernel
set_option maxHeartbeats 600000 in
theorem pack_m (l a b : Int64) : (l * (32 : Int64)) + a - (96 : Int64) = l * (32 : Int64) + (a - (96 : Int64)) := by rw [Int64.sub_eq_add_neg, Int64.sub_eq_add_neg, Int64.add_assoc]
set_option maxHeartbeats 600000 in
theorem num_m (l a : Int32) : (((10 : Int32) * l) + a) - (48 : Int32) = l * (10 : Int32) + (a - (48 : Int32)) := by rw [Int32.sub_eq_add_neg, Int32.sub_eq_add_neg, Int32.add_assoc, Int32.mul_comm]
set_option maxHeartbeats 600000 in
theorem nx210_loop {P : Nat → Int32} {n a : Nat} (hn : n ≤ 900) : ∀ (k p fu : Nat) (M : Mem), p + k = n → k < fu → a ≤ p → TapM M P n → M.1 50 0 16 = nI p → M.1 50 0 15 = nI a → M.1 50 0 17 = numS P a (min 4 (p - a)) →
    ∃ M', f_X11_next_210 fu M = some M' ∧ M'.1 50 0 16 = nI (runP isD P k p) ∧ M'.1 50 0 14 = nI (if 4 < runP isD P k p - a then 4 else 2) ∧ M'.1 50 0 17 = numS P a (min 4 (runP isD P k p - a)) ∧ M'.1 50 0 15 = nI a ∧ AFm M M'
  | k, p, 0, M, _, h, _, _, _, _, _ => by omega
  | k, p, fu + 1, M, hp, hk, ha, hT, h4, h5, h7 => by
    have fin : ∃ M', (if (4 : Int32) < nI p - nI a then some (sR M 50 0 (upd (M.1 50 0) 14 (4 : Int32))) else some (sR M 50 0 (upd (M.1 50 0) 14 (2 : Int32)))) = some M' ∧ M'.1 50 0 16 = nI p ∧ M'.1 50 0 14 = nI (if 4 < p - a then 4 else 2) ∧ M'.1 50 0 17 = numS P a (min 4 (p - a)) ∧ M'.1 50 0 15 = nI a ∧ AFm M M' := by
      rw [nsub ha]
      by_cases c : 4 < p - a
      · refine ⟨_, if_pos (show (4 : Int32) < nI (p - a) from by show nI 4 < _; rw [lt_nI (by omega) (by omega)]; exact c), ?_, ?_, ?_, ?_, AFm.R (by omega)⟩
        · rw [sR_at, upd_ne _ _ (by decide)]; exact h4
        · rw [sR_at, upd_at, if_pos c]; rfl
        · rw [sR_at, upd_ne _ _ (by decide)]; exact h7
        · rw [sR_at, upd_ne _ _ (by decide)]; exact h5
      · refine ⟨_, if_neg (show ¬ (4 : Int32) < nI (p - a) from by show ¬ nI 4 < _; rw [lt_nI (by omega) (by omega)]; exact c), ?_, ?_, ?_, ?_, AFm.R (by omega)⟩
        · rw [sR_at, upd_ne _ _ (by decide)]; exact h4
        · rw [sR_at, upd_at, if_neg c]; rfl
        · rw [sR_at, upd_ne _ _ (by decide)]; exact h7
        · rw [sR_at, upd_ne _ _ (by decide)]; exact h5
    cases k with
    | zero =>
      rw [f_X11_next_210, h4, look_out hn hT (by omega) (by omega), Option.bind_some, dig_0, Option.bind_some, if_pos rfl, h5]
      exact fin
    | succ k =>
      have es : runP isD P (k + 1) p = if isD (P p) = true then runP isD P k (p + 1) else p := rfl
      have bf := by_f (hT.2.2 p (by omega))
      rw [f_X11_next_210, h4, look_in hn hT (by omega), Option.bind_some, bf.2.1, Option.bind_some, es, h5]
      by_cases c1 : isD (P p) = true
      · rw [if_pos c1, if_neg (by decide), if_pos c1, nsub ha, bf.2.2.2.2.2.2.1 c1]
        by_cases c3 : p - a < 4
        · rw [if_pos (show nI (p - a) < (4 : Int32) from by show _ < nI 4; rw [lt_nI (by omega) (by omega)]; exact c3), Option.bind_some, h7, num_m]
          simp only
          have e4 : (sR M 50 0 (upd (M.1 50 0) 17 (numS P a (min 4 (p - a)) * (10 : Int32) + (P p - (48 : Int32))))).1 50 0 16 = nI p := by rw [sR_at, upd_ne _ _ (by decide)]; exact h4
          rw [e4, show nI p + (1 : Int32) = nI (p + 1) from add_nI p 1]
          have F : AFm M (sR (sR M 50 0 (upd (M.1 50 0) 17 (numS P a (min 4 (p - a)) * (10 : Int32) + (P p - (48 : Int32))))) 50 0 (upd ((sR M 50 0 (upd (M.1 50 0) 17 (numS P a (min 4 (p - a)) * (10 : Int32) + (P p - (48 : Int32))))).1 50 0) 16 (nI (p + 1)))) := (AFm.R (by omega)).tr (AFm.R (by omega))
          obtain ⟨M', a1, a2, a3, a4, a5, a6⟩ := nx210_loop (P := P) (a := a) hn k (p + 1) fu (sR (sR M 50 0 (upd (M.1 50 0) 17 (numS P a (min 4 (p - a)) * (10 : Int32) + (P p - (48 : Int32))))) 50 0 (upd ((sR M 50 0 (upd (M.1 50 0) 17 (numS P a (min 4 (p - a)) * (10 : Int32) + (P p - (48 : Int32))))).1 50 0) 16 (nI (p + 1)))) (by omega) (by omega) (by omega) (F.T hT) (by rw [sR_at, upd_at]) (by rw [sR_at, upd_ne _ _ (by decide), sR_at, upd_ne _ _ (by decide)]; exact h5) (by
            rw [sR_at, upd_ne _ _ (by decide), sR_at, upd_at, Nat.min_eq_right (show p - a ≤ 4 by omega), Nat.min_eq_right (show p + 1 - a ≤ 4 by omega), show p + 1 - a = (p - a) + 1 by omega]
            show _ = numS P a (p - a) * (10 : Int32) + (P (a + (p - a)) - (48 : Int32))
            rw [show a + (p - a) = p by omega])
          exact ⟨M', a1, a2, a3, a4, a5, F.tr a6⟩
        · rw [if_neg (show ¬ nI (p - a) < (4 : Int32) from by show ¬ _ < nI 4; rw [lt_nI (by omega) (by omega)]; exact c3), show nI p + (1 : Int32) = nI (p + 1) from add_nI p 1]
          have F : AFm M (sR M 50 0 (upd (M.1 50 0) 16 (nI (p + 1)))) := AFm.R (by omega)
          obtain ⟨M', a1, a2, a3, a4, a5, a6⟩ := nx210_loop (P := P) (a := a) hn k (p + 1) fu (sR M 50 0 (upd (M.1 50 0) 16 (nI (p + 1)))) (by omega) (by omega) (by omega) (F.T hT) (by rw [sR_at, upd_at]) (by rw [sR_at, upd_ne _ _ (by decide)]; exact h5) (by
            rw [sR_at, upd_ne _ _ (by decide), h7, Nat.min_eq_left (by omega), Nat.min_eq_left (by omega)])
          exact ⟨M', a1, a2, a3, a4, a5, F.tr a6⟩
      · rw [if_neg c1, if_pos rfl, if_neg c1]
        exact fin
set_option maxHeartbeats 600000 in
theorem nx109_loop {P : Nat → Int32} {n a : Nat} (hn : n ≤ 900) : ∀ (k p fu : Nat) (M : Mem), p + k = n → k < fu → a ≤ p → TapM M P n → M.1 50 0 16 = nI p → M.1 50 0 15 = nI a → M.2 50 0 19 = (if 8 < p - a then -1 else packS P a (p - a)) →
    ∃ M', f_X11_next_109 fu M = some M' ∧ M'.1 50 0 16 = nI (runP isL P k p) ∧ M'.1 50 0 14 = M.1 50 0 14 ∧ M'.1 50 0 18 = nI (runP isL P k p - a) ∧ M'.2 50 0 19 = (if 8 < runP isL P k p - a then -1 else packS P a (runP isL P k p - a)) ∧ M'.1 50 0 15 = nI a ∧ AFm M M'
  | k, p, 0, M, _, h, _, _, _, _, _ => by omega
  | k, p, fu + 1, M, hp, hk, ha, hT, h4, h5, h7 => by
    have fin : ∃ M', some (sR M 50 0 (upd (M.1 50 0) 18 (nI p - nI a))) = some M' ∧ M'.1 50 0 16 = nI p ∧ M'.1 50 0 14 = M.1 50 0 14 ∧ M'.1 50 0 18 = nI (p - a) ∧ M'.2 50 0 19 = (if 8 < p - a then -1 else packS P a (p - a)) ∧ M'.1 50 0 15 = nI a ∧ AFm M M' := by
      refine ⟨_, rfl, ?_, ?_, ?_, h7, ?_, AFm.R (by omega)⟩
      · rw [sR_at, upd_ne _ _ (by decide)]; exact h4
      · rw [sR_at, upd_ne _ _ (by decide)]
      · rw [sR_at, upd_at, nsub ha]
      · rw [sR_at, upd_ne _ _ (by decide)]; exact h5
    cases k with
    | zero =>
      rw [f_X11_next_109, h4, look_out hn hT (by omega) (by omega), Option.bind_some, let_0, Option.bind_some, if_pos rfl, h5]
      exact fin
    | succ k =>
      have es : runP isL P (k + 1) p = if isL (P p) = true then runP isL P k (p + 1) else p := rfl
      have bf := by_f (hT.2.2 p (by omega))
      rw [f_X11_next_109, h4, look_in hn hT (by omega), Option.bind_some, bf.1, Option.bind_some, es, h5]
      by_cases c1 : isL (P p) = true
      · rw [if_pos c1, if_neg (by decide), if_pos c1, nsub ha]
        by_cases c3 : p - a < 8
        · rw [if_pos (show nI (p - a) < (8 : Int32) from by show _ < nI 8; rw [lt_nI (by omega) (by omega)]; exact c3), Option.bind_some, h7, if_neg (by omega), pack_m _ _ 0, bf.2.2.2.2.2.1 c1]
          simp only
          rw [show (sL M 50 0 (vp_updL (M.2 50 0) 19 (packS P a (p - a) * (32 : Int64) + (P p - (97 : Int32) + (1 : Int32)).toInt64))).1 50 0 16 = nI p from h4, show nI p + (1 : Int32) = nI (p + 1) from add_nI p 1]
          have F : AFm M (sR (sL M 50 0 (vp_updL (M.2 50 0) 19 (packS P a (p - a) * (32 : Int64) + (P p - (97 : Int32) + (1 : Int32)).toInt64))) 50 0 (upd ((sL M 50 0 (vp_updL (M.2 50 0) 19 (packS P a (p - a) * (32 : Int64) + (P p - (97 : Int32) + (1 : Int32)).toInt64))).1 50 0) 16 (nI (p + 1)))) := AFm.L.tr (AFm.R (by omega))
          obtain ⟨M', a1, a2, a3, a4, a5, a6, a7⟩ := nx109_loop (P := P) (a := a) hn k (p + 1) fu (sR (sL M 50 0 (vp_updL (M.2 50 0) 19 (packS P a (p - a) * (32 : Int64) + (P p - (97 : Int32) + (1 : Int32)).toInt64))) 50 0 (upd ((sL M 50 0 (vp_updL (M.2 50 0) 19 (packS P a (p - a) * (32 : Int64) + (P p - (97 : Int32) + (1 : Int32)).toInt64))).1 50 0) 16 (nI (p + 1)))) (by omega) (by omega) (by omega) (F.T hT) (by rw [sR_at, upd_at]) (by rw [sR_at, upd_ne _ _ (by decide)]; exact h5) (by
            rw [sR_2, sL_at, updL_at, if_neg (by omega), show p + 1 - a = (p - a) + 1 by omega]
            show _ = packS P a (p - a) * (32 : Int64) + ((P (a + (p - a)) - (97 : Int32)) + (1 : Int32)).toInt64
            rw [show a + (p - a) = p by omega])
          refine ⟨M', a1, a2, ?_, a4, a5, a6, F.tr a7⟩
          rw [a3, sR_at, upd_ne _ _ (by decide)]
          rfl
        · rw [if_neg (show ¬ nI (p - a) < (8 : Int32) from by show ¬ _ < nI 8; rw [lt_nI (by omega) (by omega)]; exact c3)]
          simp only
          rw [show (sL M 50 0 (vp_updL (M.2 50 0) 19 (-1 : Int64))).1 50 0 16 = nI p from h4, show nI p + (1 : Int32) = nI (p + 1) from add_nI p 1]
          have F : AFm M (sR (sL M 50 0 (vp_updL (M.2 50 0) 19 (-1 : Int64))) 50 0 (upd ((sL M 50 0 (vp_updL (M.2 50 0) 19 (-1 : Int64))).1 50 0) 16 (nI (p + 1)))) := AFm.L.tr (AFm.R (by omega))
          obtain ⟨M', a1, a2, a3, a4, a5, a6, a7⟩ := nx109_loop (P := P) (a := a) hn k (p + 1) fu (sR (sL M 50 0 (vp_updL (M.2 50 0) 19 (-1 : Int64))) 50 0 (upd ((sL M 50 0 (vp_updL (M.2 50 0) 19 (-1 : Int64))).1 50 0) 16 (nI (p + 1)))) (by omega) (by omega) (by omega) (F.T hT) (by rw [sR_at, upd_at]) (by rw [sR_at, upd_ne _ _ (by decide)]; exact h5) (by
            rw [sR_2, sL_at, updL_at, if_pos (by omega)])
          refine ⟨M', a1, a2, ?_, a4, a5, a6, F.tr a7⟩
          rw [a3, sR_at, upd_ne _ _ (by decide)]
          rfl
      · rw [if_neg c1, if_pos rfl, if_neg c1]
        exact fin
set_option maxHeartbeats 600000 in
theorem nx58_sp {M : Mem} {P : Nat → Int32} {n a : Nat} (hn : n ≤ 900) (hT : TapM M P n) (h5 : M.1 50 0 15 = nI a) (ha9 : a ≤ 900) : ∃ M', f_X11_next_58 M = some M' ∧ TkM M' (tokA P n a) ∧ AFm M M' := by
  have F2 : AFm M (sR M 50 0 (upd (M.1 50 0) 16 (M.1 50 0 15))) := AFm.R (by omega)
  have g5 : (sR M 50 0 (upd (M.1 50 0) 16 (M.1 50 0 15))).1 50 0 15 = nI a := by rw [sR_at, upd_ne _ _ (by decide)]; exact h5
  have g6 : (sR M 50 0 (upd (M.1 50 0) 16 (M.1 50 0 15))).1 50 0 16 = nI a := by rw [sR_at, upd_at]; exact h5
  unfold f_X11_next_58
  generalize sR M 50 0 (upd (M.1 50 0) 16 (M.1 50 0 15)) = M2 at F2 g5 g6 ⊢
  have T2 := F2.T hT
  simp only
  rw [g5, T2.1]
  unfold tokA
  by_cases c : n ≤ a
  · rw [if_neg (by rw [lt_nI (by omega) (by omega)]; omega), if_pos c]
    refine ⟨_, rfl, ⟨?_, ?_, ?_, fun z => absurd (show (0 : Nat) = 1 from z) (by decide), fun z => absurd (show (0 : Nat) = 2 ∨ (0 : Nat) = 3 from z) (by decide)⟩, F2.tr (AFm.R (by omega))⟩
    · rw [sR_at, upd_ne _ _ (by decide)]; exact g5
    · rw [sR_at, upd_ne _ _ (by decide)]; exact g6
    · rw [sR_at, upd_at]; rfl
  · have bf := by_f (T2.2.2 a (by omega))
    rw [if_pos (by rw [lt_nI (by omega) (by omega)]; omega), if_neg c, look_in hn T2 (by omega), Option.bind_some, bf.1, Option.bind_some]
    by_cases c1 : isL (P a) = true
    · rw [if_pos c1, if_neg (show ¬ (1 : Int32) = 0 from by decide), if_pos c1]
      have F5 : AFm M2 (sL (sR M2 50 0 (upd (M2.1 50 0) 14 (1 : Int32))) 50 0 (vp_updL ((sR M2 50 0 (upd (M2.1 50 0) 14 (1 : Int32))).2 50 0) 19 (0 : Int64))) := (AFm.R (by omega)).tr AFm.L
      obtain ⟨M', b1, b2, b3, b4, b5, b6, b7⟩ := nx109_loop (P := P) (n := n) (a := a) hn (n - a) a FU (sL (sR M2 50 0 (upd (M2.1 50 0) 14 (1 : Int32))) 50 0 (vp_updL ((sR M2 50 0 (upd (M2.1 50 0) 14 (1 : Int32))).2 50 0) 19 (0 : Int64))) (by omega) (lt_FU (by omega)) (Nat.le_refl _) (F5.T T2) (by rw [sL_1, sR_at, upd_ne _ _ (by decide)]; exact g6) (by rw [sL_1, sR_at, upd_ne _ _ (by decide)]; exact g5) (by rw [sL_at, updL_at, Nat.sub_self]; rfl)
      refine ⟨M', b1, ⟨b6, b2, ?_, fun _ => ⟨b4, ?_⟩, fun z => absurd (show (1 : Nat) = 2 ∨ (1 : Nat) = 3 from z) (by decide)⟩, F2.tr (F5.tr b7)⟩
      · rw [b3, sL_1, sR_at, upd_at]; rfl
      · rw [b5]
        by_cases y : 8 < runP isL P (n - a) a - a
        · exact (if_pos y).trans (if_pos (show 8 < (a, runP isL P (n - a) a, 1, runP isL P (n - a) a - a, (if 8 < runP isL P (n - a) a - a then 0 else packS P a (runP isL P (n - a) a - a)), (0 : Int32)).2.2.2.1 from y)).symm
        · refine (if_neg y).trans ((if_neg (show ¬ 8 < (a, runP isL P (n - a) a, 1, runP isL P (n - a) a - a, (if 8 < runP isL P (n - a) a - a then 0 else packS P a (runP isL P (n - a) a - a)), (0 : Int32)).2.2.2.1 from y)).trans ?_).symm
          exact if_neg y
    · rw [if_neg c1, if_pos (show (0 : Int32) = 0 from rfl), if_neg c1, bf.2.1, Option.bind_some]
      by_cases c2 : isD (P a) = true
      · rw [if_pos c2, if_neg (show ¬ (1 : Int32) = 0 from by decide), if_pos c2]
        have F5 : AFm M2 (sR M2 50 0 (upd (M2.1 50 0) 17 (0 : Int32))) := AFm.R (by omega)
        obtain ⟨M', b1, b2, b3, b4, b5, b6⟩ := nx210_loop (P := P) (n := n) (a := a) hn (n - a) a FU (sR M2 50 0 (upd (M2.1 50 0) 17 (0 : Int32))) (by omega) (lt_FU (by omega)) (Nat.le_refl _) (F5.T T2) (by rw [sR_at, upd_ne _ _ (by decide)]; exact g6) (by rw [sR_at, upd_ne _ _ (by decide)]; exact g5) (by rw [sR_at, upd_at, Nat.sub_self]; rfl)
        refine ⟨M', b1, ⟨b5, b2, b3, fun z => ?_, fun _ => b4⟩, F2.tr (F5.tr b6)⟩
        exfalso
        have z : (if 4 < runP isD P (n - a) a - a then 4 else 2) = 1 := z
        by_cases y : 4 < runP isD P (n - a) a - a
        · rw [if_pos y] at z; omega
        · rw [if_neg y] at z; omega
      · rw [if_neg c2, if_pos (show (0 : Int32) = 0 from rfl), if_neg c2, bf.2.2.1, Option.bind_some, show nI a + (1 : Int32) = nI (a + 1) from add_nI a 1]
        have F7 : AFm M2 (sR (sR M2 50 0 (upd (M2.1 50 0) 16 (nI (a + 1)))) 50 0 (upd ((sR M2 50 0 (upd (M2.1 50 0) 16 (nI (a + 1)))).1 50 0) 17 (P a &&& 255))) := (AFm.R (by omega)).tr (AFm.R (by omega))
        have q5 : (sR (sR M2 50 0 (upd (M2.1 50 0) 16 (nI (a + 1)))) 50 0 (upd ((sR M2 50 0 (upd (M2.1 50 0) 16 (nI (a + 1)))).1 50 0) 17 (P a &&& 255))).1 50 0 15 = nI a := by rw [sR_at, upd_ne _ _ (by decide), sR_at, upd_ne _ _ (by decide)]; exact g5
        have q6 : (sR (sR M2 50 0 (upd (M2.1 50 0) 16 (nI (a + 1)))) 50 0 (upd ((sR M2 50 0 (upd (M2.1 50 0) 16 (nI (a + 1)))).1 50 0) 17 (P a &&& 255))).1 50 0 16 = nI (a + 1) := by rw [sR_at, upd_ne _ _ (by decide), sR_at, upd_at]
        have q7 : (sR (sR M2 50 0 (upd (M2.1 50 0) 16 (nI (a + 1)))) 50 0 (upd ((sR M2 50 0 (upd (M2.1 50 0) 16 (nI (a + 1)))).1 50 0) 17 (P a &&& 255))).1 50 0 17 = P a &&& 255 := by rw [sR_at, upd_at]
        generalize sR (sR M2 50 0 (upd (M2.1 50 0) 16 (nI (a + 1)))) 50 0 (upd ((sR M2 50 0 (upd (M2.1 50 0) 16 (nI (a + 1)))).1 50 0) 17 (P a &&& 255)) = M7 at F7 q5 q6 q7 ⊢
        by_cases c3 : isG (P a) = true
        · rw [if_pos c3, if_neg (show ¬ (1 : Int32) = 0 from by decide), if_pos c3]
          refine ⟨_, rfl, ⟨?_, ?_, ?_, fun z => absurd (show (3 : Nat) = 1 from z) (by decide), fun _ => ?_⟩, F2.tr (F7.tr (AFm.R (by omega)))⟩
          · rw [sR_at, upd_ne _ _ (by decide)]; exact q5
          · rw [sR_at, upd_ne _ _ (by decide)]; exact q6
          · rw [sR_at, upd_at]; rfl
          · rw [sR_at, upd_ne _ _ (by decide), q7]; exact bf.2.2.2.2.2.2.2 c3
        · rw [if_neg c3, if_pos (show (0 : Int32) = 0 from rfl), if_neg c3]
          refine ⟨_, rfl, ⟨?_, ?_, ?_, fun z => absurd (show (4 : Nat) = 1 from z) (by decide), fun z => absurd (show (4 : Nat) = 2 ∨ (4 : Nat) = 3 from z) (by decide)⟩, F2.tr (F7.tr (AFm.R (by omega)))⟩
          · rw [sR_at, upd_ne _ _ (by decide)]; exact q5
          · rw [sR_at, upd_ne _ _ (by decide)]; exact q6
          · rw [sR_at, upd_at]; rfl
set_option maxHeartbeats 600000 in
theorem nx8_loop {P : Nat → Int32} {n : Nat} (hn : n ≤ 900) : ∀ (k p fu : Nat) (M : Mem), p + k = n ∨ (k = 0 ∧ n ≤ p ∧ p ≤ 900) → k < fu → TapM M P n → M.1 50 0 15 = nI p → ∃ M', f_X11_next_8 fu M = some M' ∧ TkM M' (tokA P n (runP isW P k p)) ∧ AFm M M'
  | k, p, 0, M, _, h, _, _ => by omega
  | 0, p, fu + 1, M, hp, _, hT, h4 => by
    obtain ⟨M', a1, a2, a3⟩ := nx58_sp (a := p) hn hT h4 (by omega)
    refine ⟨M', ?_, a2, a3⟩
    rw [f_X11_next_8, h4, hT.1, if_neg (by rw [lt_nI (by omega) (by omega)]; omega)]
    exact a1
  | k + 1, p, fu + 1, M, hp, hk, hT, h4 => by
    have hp : p + (k + 1) = n := by omega
    have es : runP isW P (k + 1) p = if isW (P p) = true then runP isW P k (p + 1) else p := rfl
    have bf := by_f (hT.2.2 p (by omega))
    have step : isW (P p) = true → ∃ M', f_X11_next_8 fu (sR M 50 0 (upd (M.1 50 0) 15 (nI p + (1 : Int32)))) = some M' ∧ TkM M' (tokA P n (runP isW P (k + 1) p)) ∧ AFm M M' := by
      intro hw
      rw [es, if_pos hw, show nI p + (1 : Int32) = nI (p + 1) from add_nI p 1]
      have F : AFm M (sR M 50 0 (upd (M.1 50 0) 15 (nI (p + 1)))) := AFm.R (by omega)
      obtain ⟨M', a1, a2, a3⟩ := nx8_loop (P := P) hn k (p + 1) fu _ (Or.inl (by omega)) (by omega) (F.T hT) (by rw [sR_at, upd_at])
      exact ⟨M', a1, a2, F.tr a3⟩
    rw [f_X11_next_8, h4, hT.1, if_pos (by rw [lt_nI (by omega) (by omega)]; omega), look_in hn hT (by omega), Option.bind_some]
    by_cases c1 : P p = 10
    · rw [if_pos (bf.2.2.2.1.mpr c1)]
      exact step (by unfold isW; simp [c1])
    · rw [if_neg (fun z => c1 (bf.2.2.2.1.mp z)), Option.bind_some]
      by_cases c2 : P p = 32
      · rw [if_pos (bf.2.2.2.2.1.mpr c2)]
        exact step (by unfold isW; simp [c2])
      · have e : isW (P p) = false := by unfold isW; simp [c1, c2]
        rw [if_neg (fun z => c2 (bf.2.2.2.2.1.mp z)), es, e, if_neg (show ¬ (false = true) from by decide)]
        exact nx58_sp (a := p) hn hT h4 (by omega)
set_option maxHeartbeats 600000 in
theorem next_sp {M : Mem} {P : Nat → Int32} {n p : Nat} (hn : n ≤ 900) (hp : p ≤ 900) (hT : TapM M P n) (h4 : M.1 50 0 16 = nI p) : ∃ M', f_X11_next M = some M' ∧ TkM M' (tokS P n p) ∧ AFm M M' := by
  have F : AFm M (sR M 50 0 (upd (M.1 50 0) 15 (M.1 50 0 16))) := AFm.R (by omega)
  have g : (sR M 50 0 (upd (M.1 50 0) 15 (M.1 50 0 16))).1 50 0 15 = nI p := by rw [sR_at, upd_at]; exact h4
  unfold f_X11_next
  simp only
  by_cases c : p ≤ n
  · obtain ⟨M', a1, a2, a3⟩ := nx8_loop (P := P) hn (n - p) p FU _ (Or.inl (by omega)) (lt_FU (by omega)) (F.T hT) g
    exact ⟨M', a1, a2, F.tr a3⟩
  · obtain ⟨M', a1, a2, a3⟩ := nx8_loop (P := P) hn 0 p FU _ (Or.inr ⟨rfl, by omega, hp⟩) (lt_FU (by omega)) (F.T hT) g
    refine ⟨M', a1, ?_, F.tr a3⟩
    unfold tokS
    rw [show n - p = 0 by omega]
    exact a2
