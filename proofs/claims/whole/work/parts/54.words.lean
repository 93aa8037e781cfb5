/-! ===== what a token is, on both ===== -/
def WfT (n : Nat) (t : Tk) : Prop := t.1 ≤ n ∧ t.2.1 ≤ n ∧ t.2.2.1 ≤ 4 ∧ (t.2.2.1 = 1 → 1 ≤ t.2.2.2.1 ∧ (8 < t.2.2.2.1 → t.2.2.2.2.1 = 0) ∧ (t.2.2.2.1 ≤ 8 → ¬ t.2.2.2.2.1 = 0)) ∧ (t.2.2.1 = 0 ∨ t.1 < t.2.1) ∧ t.2.2.2.1 ≤ n
set_option maxHeartbeats 600000 in
theorem runP_all {q : Int32 → Bool} {P : Nat → Int32} : ∀ (k p j : Nat), p ≤ j → j < runP q P k p → q (P j) = true
  | 0, p, j, h1, h2 => by
    have : j < p := h2
    omega
  | k + 1, p, j, h1, h2 => by
    have h2 : j < (if q (P p) = true then runP q P k (p + 1) else p) := h2
    by_cases c : q (P p) = true
    · rw [if_pos c] at h2
      by_cases e : j = p
      · rw [e]; exact c
      · exact runP_all k (p + 1) j (by omega) h2
    · rw [if_neg c] at h2; omega
set_option maxHeartbeats 600000 in
theorem let_dig : ∀ k, k < 256 → isL (nI k + (-128 : Int32)) = true → ∃ d, d < 32 ∧ 1 ≤ d ∧ (((nI k + (-128 : Int32)) - (97 : Int32)) + (1 : Int32)).toInt64 = Int64.ofNat d := by decide +kernel
set_option maxHeartbeats 600000 in
theorem byt_k {v : Int32} (h : inR (-128) 127 v) : ∃ k, k < 256 ∧ v = nI k + (-128 : Int32) := by
  obtain ⟨h1, h2⟩ := h
  have e1 : (-128 : Int) ≤ v.toInt := by rw [Int32.le_iff_toInt_le] at h1; exact h1
  have e2 : v.toInt ≤ 127 := by rw [Int32.le_iff_toInt_le] at h2; exact h2
  refine ⟨(v.toInt + 128).toNat, by omega, ?_⟩
  have q : (v + (128 : Int32)).toInt = v.toInt + 128 := by
    rw [Int32.toInt_add, show (128 : Int32).toInt = 128 from by decide]
    apply Int.bmod_eq_of_le <;> omega
  have q2 : v + (128 : Int32) = nI (v.toInt + 128).toNat := by
    apply Int32.toInt_inj.mp
    rw [q, nI_toInt (by omega)]
    omega
  rw [← q2, Int32.add_assoc, show (128 : Int32) + (-128) = 0 from by decide, Int32.add_zero]
set_option maxHeartbeats 600000 in
theorem pack_nat {P : Nat → Int32} {s : Nat} : ∀ k, (∀ j, s ≤ j → j < s + k → isL (P j) = true ∧ inR (-128) 127 (P j)) → ∃ v, v < 32 ^ k ∧ (1 ≤ k → 1 ≤ v) ∧ packS P s k = Int64.ofNat v
  | 0, _ => ⟨0, by decide, fun z => absurd z (by decide), rfl⟩
  | k + 1, h => by
    obtain ⟨v, h1, h2, h3⟩ := pack_nat k (fun j a b => h j a (by omega))
    obtain ⟨hl, hb⟩ := h (s + k) (by omega) (by omega)
    obtain ⟨m, hm, em⟩ := byt_k hb
    rw [em] at hl
    obtain ⟨d, d1, d2, d3⟩ := let_dig m hm hl
    refine ⟨v * 32 + d, ?_, fun _ => by omega, ?_⟩
    · rw [Nat.pow_succ]; omega
    · show packS P s k * (32 : Int64) + ((P (s + k) - (97 : Int32)) + (1 : Int32)).toInt64 = _
      rw [h3, em, d3, Int64.ofNat_add, Int64.ofNat_mul]
      rfl
set_option maxHeartbeats 600000 in
theorem pack_ne0 {P : Nat → Int32} {s k : Nat} (hk : 1 ≤ k) (hk8 : k ≤ 8) (h : ∀ j, s ≤ j → j < s + k → isL (P j) = true ∧ inR (-128) 127 (P j)) : ¬ packS P s k = 0 := by
  obtain ⟨v, h1, h2, h3⟩ := pack_nat k h
  have h4 : (32 : Nat) ^ k ≤ 32 ^ 8 := Nat.pow_le_pow_right (by decide) hk8
  have h5 : (32 : Nat) ^ 8 = 1099511627776 := by decide
  rw [h3]
  intro z
  have := congrArg Int64.toInt z
  rw [Int64.toInt_ofNat_of_lt (by omega)] at this
  have z0 : (0 : Int64).toInt = 0 := by decide
  omega
set_option maxHeartbeats 600000 in
theorem tokA_wf {P : Nat → Int32} {n a : Nat} (ha : a ≤ n) (hb : ∀ j, j < n → inR (-128) 127 (P j)) : WfT n (tokA P n a) := by
  unfold tokA
  by_cases c : n ≤ a
  · rw [if_pos c]
    exact ⟨ha, ha, show (0 : Nat) ≤ 4 by decide, fun z => absurd (show (0 : Nat) = 1 from z) (by decide), Or.inl rfl, Nat.zero_le _⟩
  · rw [if_neg c]
    by_cases c1 : isL (P a) = true
    · rw [if_pos c1]
      have hr := runP_le isL P (n - a) a
      have hs : a < runP isL P (n - a) a := by
        obtain ⟨k, hk⟩ : ∃ k, n - a = k + 1 := ⟨n - a - 1, by omega⟩
        rw [hk]
        show a < (if isL (P a) = true then runP isL P k (a + 1) else a)
        rw [if_pos c1]
        have := runP_le isL P k (a + 1)
        omega
      refine ⟨ha, show runP isL P (n - a) a ≤ n by omega, show (1 : Nat) ≤ 4 by decide, fun _ => ⟨show 1 ≤ runP isL P (n - a) a - a by omega, fun y => ?_, fun y => ?_⟩, Or.inr hs, show runP isL P (n - a) a - a ≤ n by omega⟩
      · exact if_pos y
      · show ¬ (if 8 < runP isL P (n - a) a - a then 0 else packS P a (runP isL P (n - a) a - a)) = 0
        have y : runP isL P (n - a) a - a ≤ 8 := y
        rw [if_neg (by omega)]
        exact pack_ne0 (by omega) y (fun j h1 h2 => ⟨runP_all (n - a) a j h1 (by omega), hb j (by omega)⟩)
    · rw [if_neg c1]
      by_cases c2 : isD (P a) = true
      · rw [if_pos c2]
        have hr := runP_le isD P (n - a) a
        have hs : a < runP isD P (n - a) a := by
          obtain ⟨k, hk⟩ : ∃ k, n - a = k + 1 := ⟨n - a - 1, by omega⟩
          rw [hk]
          show a < (if isD (P a) = true then runP isD P k (a + 1) else a)
          rw [if_pos c2]
          have := runP_le isD P k (a + 1)
          omega
        refine ⟨ha, show runP isD P (n - a) a ≤ n by omega, ?_, fun z => ?_, Or.inr hs, Nat.zero_le _⟩
        · show (if 4 < runP isD P (n - a) a - a then 4 else 2) ≤ 4
          split <;> decide
        · exfalso
          have z : (if 4 < runP isD P (n - a) a - a then 4 else 2) = 1 := z
          split at z <;> omega
      · rw [if_neg c2]
        refine ⟨ha, show a + 1 ≤ n by omega, ?_, fun z => ?_, Or.inr (show a < a + 1 by omega), Nat.zero_le _⟩
        · show (if isG (P a) = true then 3 else 4) ≤ 4
          split <;> decide
        · exfalso
          have z : (if isG (P a) = true then 3 else 4) = 1 := z
          split at z <;> omega
set_option maxHeartbeats 600000 in
theorem tokS_wf {P : Nat → Int32} {n p : Nat} (hp : p ≤ n) (hb : ∀ j, j < n → inR (-128) 127 (P j)) : WfT n (tokS P n p) := by
  have := runP_le isW P (n - p) p
  exact tokA_wf (by omega) hb
set_option maxHeartbeats 600000 in
theorem tokS_ge {P : Nat → Int32} {n p : Nat} : p ≤ (tokS P n p).1 := by
  have h := (runP_le isW P (n - p) p).1
  have e : ∀ a, (tokA P n a).1 = a := by
    intro a
    unfold tokA
    split
    · rfl
    · split
      · rfl
      · split <;> rfl
  unfold tokS
  rw [e]
  exact h
def wdS (t : Tk) : Int32 := if t.2.2.1 = 1 then kwS t.2.2.2.2.1 else -1
def iw (w : Int32) (i : Nat) : Int32 := if w = nI i then 1 else 0
set_option maxHeartbeats 600000 in
theorem kwS_val {l : Int64} : kwS l = -1 ∨ ∃ j, j < 30 ∧ kwS l = nI j := by
  rcases kwF_val (l := l) 30 0 with z | ⟨j, h1, h2, h3, h4⟩
  · exact Or.inl z
  · exact Or.inr ⟨j, by omega, h3⟩
set_option maxHeartbeats 600000 in
theorem wd_val {t : Tk} : wdS t = -1 ∨ ∃ j, j < 30 ∧ wdS t = nI j := by
  unfold wdS
  by_cases c : t.2.2.1 = 1
  · rw [if_pos c]; exact kwS_val
  · rw [if_neg c]; exact Or.inl rfl
set_option maxHeartbeats 600000 in
theorem word_sp {M : Mem} {t : Tk} (h : TkX M t) (hk : t.2.2.1 ≤ 4) : f_X5_word M = some (wdS t) := by
  unfold f_X5_word wdS
  rw [h.2.2.1]
  by_cases c : t.2.2.1 = 1
  · rw [if_pos (by rw [c]; rfl), if_pos c, (h.2.2.2.1 c).1]
  · rw [if_neg (by rw [show (1 : Int32) = nI 1 from rfl, eq_nI (by omega) (by omega)]; exact c), if_neg c]
set_option maxHeartbeats 600000 in
theorem isWord_sp {M : Mem} {t : Tk} {n i : Nat} {l : Int64} (hl : l = resW i) (h : TkM M t) (hw : WfT n t) (hi : i < 30) : f_X11_isWord l M = some (iw (wdS t) i) := by
  unfold f_X11_isWord wdS iw
  rw [h.2.2.1, hl]
  by_cases c : t.2.2.1 = 1
  · rw [if_pos (by rw [c]; rfl), if_pos c, (h.2.2.2.1 c).2]
    obtain ⟨w1, w2, w3⟩ := hw.2.2.2.1 c
    by_cases d : 8 < t.2.2.2.1
    · rw [if_pos d, w2 d, kw_0, if_neg (by rw [lg_cmp_eq]; exact fun z => res_pos i hi z.symm), if_neg (fun z => m1_nI i hi z.symm)]
    · rw [if_neg d]
      by_cases e : t.2.2.2.2.1 = resW i
      · rw [if_pos (by rw [lg_cmp_eq]; exact e), if_pos ((kw_iff hi).mpr e)]
      · rw [if_neg (by rw [lg_cmp_eq]; exact e), if_neg (fun z => e ((kw_iff hi).mp z))]
  · rw [if_neg (by rw [show (1 : Int32) = nI 1 from rfl, eq_nI (by have := hw.2.2.1; omega) (by omega)]; exact c), if_neg c, if_neg (fun z => m1_nI i hi z.symm)]
set_option maxHeartbeats 600000 in
theorem spw_all : f_X11_spelled (97 : Int32) (108 : Int32) (108 : Int32) (0 : Int32) (0 : Int32) (0 : Int32) = some (Int64.ofNat 1420) := by decide +kernel
set_option maxHeartbeats 600000 in
theorem spw_bribe : f_X11_spelled (98 : Int32) (114 : Int32) (105 : Int32) (98 : Int32) (101 : Int32) (0 : Int32) = some (Int64.ofNat 2696261) := by decide +kernel
set_option maxHeartbeats 600000 in
theorem spw_crop : f_X11_spelled (99 : Int32) (114 : Int32) (111 : Int32) (112 : Int32) (0 : Int32) (0 : Int32) = some (Int64.ofNat 117232) := by decide +kernel
set_option maxHeartbeats 600000 in
theorem spw_end : f_X11_spelled (101 : Int32) (110 : Int32) (100 : Int32) (0 : Int32) (0 : Int32) (0 : Int32) = some (Int64.ofNat 5572) := by decide +kernel
set_option maxHeartbeats 600000 in
theorem spw_follow : f_X11_spelled (102 : Int32) (111 : Int32) (108 : Int32) (108 : Int32) (111 : Int32) (119 : Int32) = some (Int64.ofNat 217461239) := by decide +kernel
set_option maxHeartbeats 600000 in
theorem spw_free : f_X11_spelled (102 : Int32) (114 : Int32) (101 : Int32) (101 : Int32) (0 : Int32) (0 : Int32) = some (Int64.ofNat 215205) := by decide +kernel
set_option maxHeartbeats 600000 in
theorem spw_guilty : f_X11_spelled (103 : Int32) (117 : Int32) (105 : Int32) (108 : Int32) (116 : Int32) (121 : Int32) = some (Int64.ofNat 257208985) := by decide +kernel
set_option maxHeartbeats 600000 in
theorem spw_hunger : f_X11_spelled (104 : Int32) (117 : Int32) (110 : Int32) (103 : Int32) (101 : Int32) (114 : Int32) = some (Int64.ofNat 290921650) := by decide +kernel
set_option maxHeartbeats 600000 in
theorem spw_juror : f_X11_spelled (106 : Int32) (117 : Int32) (114 : Int32) (111 : Int32) (114 : Int32) (0 : Int32) = some (Int64.ofNat 11192818) := by decide +kernel
set_option maxHeartbeats 600000 in
theorem spw_law : f_X11_spelled (108 : Int32) (97 : Int32) (119 : Int32) (0 : Int32) (0 : Int32) (0 : Int32) = some (Int64.ofNat 12343) := by decide +kernel
set_option maxHeartbeats 600000 in
theorem spw_leans : f_X11_spelled (108 : Int32) (101 : Int32) (97 : Int32) (110 : Int32) (115 : Int32) (0 : Int32) = some (Int64.ofNat 12748243) := by decide +kernel
set_option maxHeartbeats 600000 in
theorem spw_less : f_X11_spelled (108 : Int32) (101 : Int32) (115 : Int32) (115 : Int32) (0 : Int32) (0 : Int32) = some (Int64.ofNat 398963) := by decide +kernel
set_option maxHeartbeats 600000 in
theorem spw_loop : f_X11_spelled (108 : Int32) (111 : Int32) (111 : Int32) (112 : Int32) (0 : Int32) (0 : Int32) = some (Int64.ofNat 409072) := by decide +kernel
set_option maxHeartbeats 600000 in
theorem spw_mood : f_X11_spelled (109 : Int32) (111 : Int32) (111 : Int32) (100 : Int32) (0 : Int32) (0 : Int32) = some (Int64.ofNat 441828) := by decide +kernel
set_option maxHeartbeats 600000 in
theorem spw_most : f_X11_spelled (109 : Int32) (111 : Int32) (115 : Int32) (116 : Int32) (0 : Int32) (0 : Int32) = some (Int64.ofNat 441972) := by decide +kernel
set_option maxHeartbeats 600000 in
theorem spw_on : f_X11_spelled (111 : Int32) (110 : Int32) (0 : Int32) (0 : Int32) (0 : Int32) (0 : Int32) = some (Int64.ofNat 494) := by decide +kernel
set_option maxHeartbeats 600000 in
theorem spw_price : f_X11_spelled (112 : Int32) (114 : Int32) (105 : Int32) (99 : Int32) (101 : Int32) (0 : Int32) = some (Int64.ofNat 17376357) := by decide +kernel
set_option maxHeartbeats 600000 in
theorem spw_proof : f_X11_spelled (112 : Int32) (114 : Int32) (111 : Int32) (111 : Int32) (102 : Int32) (0 : Int32) = some (Int64.ofNat 17382886) := by decide +kernel
set_option maxHeartbeats 600000 in
theorem spw_seat : f_X11_spelled (115 : Int32) (101 : Int32) (97 : Int32) (116 : Int32) (0 : Int32) (0 : Int32) = some (Int64.ofNat 627764) := by decide +kernel
set_option maxHeartbeats 600000 in
theorem spw_show : f_X11_spelled (115 : Int32) (104 : Int32) (111 : Int32) (119 : Int32) (0 : Int32) (0 : Int32) = some (Int64.ofNat 631287) := by decide +kernel
set_option maxHeartbeats 600000 in
theorem spw_stop : f_X11_spelled (115 : Int32) (116 : Int32) (111 : Int32) (112 : Int32) (0 : Int32) (0 : Int32) = some (Int64.ofNat 643568) := by decide +kernel
set_option maxHeartbeats 600000 in
theorem spw_strike : f_X11_spelled (115 : Int32) (116 : Int32) (114 : Int32) (105 : Int32) (107 : Int32) (101 : Int32) = some (Int64.ofNat 659105125) := by decide +kernel
set_option maxHeartbeats 600000 in
theorem spw_stubbo : f_X11_spelled (115 : Int32) (116 : Int32) (117 : Int32) (98 : Int32) (98 : Int32) (111 : Int32) = some (Int64.ofNat 659195983) := by decide +kernel
set_option maxHeartbeats 600000 in
theorem spw_sways : f_X11_spelled (115 : Int32) (119 : Int32) (97 : Int32) (121 : Int32) (115 : Int32) (0 : Int32) = some (Int64.ofNat 20678451) := by decide +kernel
set_option maxHeartbeats 600000 in
theorem spw_talk : f_X11_spelled (116 : Int32) (97 : Int32) (108 : Int32) (107 : Int32) (0 : Int32) (0 : Int32) = some (Int64.ofNat 656779) := by decide +kernel
set_option maxHeartbeats 600000 in
theorem spw_two : f_X11_spelled (116 : Int32) (119 : Int32) (111 : Int32) (0 : Int32) (0 : Int32) (0 : Int32) = some (Int64.ofNat 21231) := by decide +kernel
set_option maxHeartbeats 600000 in
theorem spw_verdic : f_X11_spelled (118 : Int32) (101 : Int32) (114 : Int32) (100 : Int32) (105 : Int32) (99 : Int32) = some (Int64.ofNat 744034595) := by decide +kernel
set_option maxHeartbeats 600000 in
theorem spw_votes : f_X11_spelled (118 : Int32) (111 : Int32) (116 : Int32) (101 : Int32) (115 : Int32) (0 : Int32) = some (Int64.ofNat 23580851) := by decide +kernel
set_option maxHeartbeats 600000 in
theorem spw_weathe : f_X11_spelled (119 : Int32) (101 : Int32) (97 : Int32) (116 : Int32) (104 : Int32) (101 : Int32) = some (Int64.ofNat 777048325) := by decide +kernel
set_option maxHeartbeats 600000 in
theorem spw_when : f_X11_spelled (119 : Int32) (104 : Int32) (101 : Int32) (110 : Int32) (0 : Int32) (0 : Int32) = some (Int64.ofNat 762030) := by decide +kernel
set_option maxHeartbeats 600000 in
theorem iw_b (w : Int32) (i : Nat) : isB (iw w i) = true := by
  unfold iw
  split <;> decide
set_option maxHeartbeats 600000 in
theorem r_Juror {M : Mem} {t : Tk} {n : Nat} (h : TkM M t) (hw : WfT n t) : f_X11_isJuror M = some (iw (wdS t) 0) := by
  unfold f_X11_isJuror
  rw [spw_juror, Option.bind_some, isWord_sp (i := 0) (by decide +kernel) h hw (by decide), Option.bind_some, if_pos (iw_b _ _)]
set_option maxHeartbeats 600000 in
theorem r_Leans {M : Mem} {t : Tk} {n : Nat} (h : TkM M t) (hw : WfT n t) : f_X11_isLeans M = some (iw (wdS t) 1) := by
  unfold f_X11_isLeans
  rw [spw_leans, Option.bind_some, isWord_sp (i := 1) (by decide +kernel) h hw (by decide), Option.bind_some, if_pos (iw_b _ _)]
set_option maxHeartbeats 600000 in
theorem r_Less {M : Mem} {t : Tk} {n : Nat} (h : TkM M t) (hw : WfT n t) : f_X11_isLess M = some (iw (wdS t) 2) := by
  unfold f_X11_isLess
  rw [spw_less, Option.bind_some, isWord_sp (i := 2) (by decide +kernel) h hw (by decide), Option.bind_some, if_pos (iw_b _ _)]
set_option maxHeartbeats 600000 in
theorem r_Stubborn {M : Mem} {t : Tk} {n : Nat} (h : TkM M t) (hw : WfT n t) : f_X11_isStubborn M = some (iw (wdS t) 3) := by
  unfold f_X11_isStubborn
  rw [spw_stubbo, Option.bind_some, isWord_sp (i := 3) (by decide +kernel) h hw (by decide), Option.bind_some, if_pos (iw_b _ _)]
set_option maxHeartbeats 600000 in
theorem r_Price {M : Mem} {t : Tk} {n : Nat} (h : TkM M t) (hw : WfT n t) : f_X11_isPrice M = some (iw (wdS t) 4) := by
  unfold f_X11_isPrice
  rw [spw_price, Option.bind_some, isWord_sp (i := 4) (by decide +kernel) h hw (by decide), Option.bind_some, if_pos (iw_b _ _)]
set_option maxHeartbeats 600000 in
theorem r_Sways {M : Mem} {t : Tk} {n : Nat} (h : TkM M t) (hw : WfT n t) : f_X11_isSways M = some (iw (wdS t) 5) := by
  unfold f_X11_isSways
  rw [spw_sways, Option.bind_some, isWord_sp (i := 5) (by decide +kernel) h hw (by decide), Option.bind_some, if_pos (iw_b _ _)]
set_option maxHeartbeats 600000 in
theorem r_Proof {M : Mem} {t : Tk} {n : Nat} (h : TkM M t) (hw : WfT n t) : f_X11_isProof M = some (iw (wdS t) 6) := by
  unfold f_X11_isProof
  rw [spw_proof, Option.bind_some, isWord_sp (i := 6) (by decide +kernel) h hw (by decide), Option.bind_some, if_pos (iw_b _ _)]
set_option maxHeartbeats 600000 in
theorem r_Weather {M : Mem} {t : Tk} {n : Nat} (h : TkM M t) (hw : WfT n t) : f_X11_isWeather M = some (iw (wdS t) 7) := by
  unfold f_X11_isWeather
  rw [spw_weathe, Option.bind_some, isWord_sp (i := 7) (by decide +kernel) h hw (by decide), Option.bind_some, if_pos (iw_b _ _)]
set_option maxHeartbeats 600000 in
theorem r_Follows {M : Mem} {t : Tk} {n : Nat} (h : TkM M t) (hw : WfT n t) : f_X11_isFollows M = some (iw (wdS t) 8) := by
  unfold f_X11_isFollows
  rw [spw_follow, Option.bind_some, isWord_sp (i := 8) (by decide +kernel) h hw (by decide), Option.bind_some, if_pos (iw_b _ _)]
set_option maxHeartbeats 600000 in
theorem r_Guilty {M : Mem} {t : Tk} {n : Nat} (h : TkM M t) (hw : WfT n t) : f_X11_isGuilty M = some (iw (wdS t) 9) := by
  unfold f_X11_isGuilty
  rw [spw_guilty, Option.bind_some, isWord_sp (i := 9) (by decide +kernel) h hw (by decide), Option.bind_some, if_pos (iw_b _ _)]
set_option maxHeartbeats 600000 in
theorem r_Free {M : Mem} {t : Tk} {n : Nat} (h : TkM M t) (hw : WfT n t) : f_X11_isFree M = some (iw (wdS t) 10) := by
  unfold f_X11_isFree
  rw [spw_free, Option.bind_some, isWord_sp (i := 10) (by decide +kernel) h hw (by decide), Option.bind_some, if_pos (iw_b _ _)]
set_option maxHeartbeats 600000 in
theorem r_Crop {M : Mem} {t : Tk} {n : Nat} (h : TkM M t) (hw : WfT n t) : f_X11_isCrop M = some (iw (wdS t) 11) := by
  unfold f_X11_isCrop
  rw [spw_crop, Option.bind_some, isWord_sp (i := 11) (by decide +kernel) h hw (by decide), Option.bind_some, if_pos (iw_b _ _)]
set_option maxHeartbeats 600000 in
theorem r_On {M : Mem} {t : Tk} {n : Nat} (h : TkM M t) (hw : WfT n t) : f_X11_isOn M = some (iw (wdS t) 12) := by
  unfold f_X11_isOn
  rw [spw_on, Option.bind_some, isWord_sp (i := 12) (by decide +kernel) h hw (by decide), Option.bind_some, if_pos (iw_b _ _)]
set_option maxHeartbeats 600000 in
theorem r_Hunger {M : Mem} {t : Tk} {n : Nat} (h : TkM M t) (hw : WfT n t) : f_X11_isHunger M = some (iw (wdS t) 13) := by
  unfold f_X11_isHunger
  rw [spw_hunger, Option.bind_some, isWord_sp (i := 13) (by decide +kernel) h hw (by decide), Option.bind_some, if_pos (iw_b _ _)]
set_option maxHeartbeats 600000 in
theorem r_Law {M : Mem} {t : Tk} {n : Nat} (h : TkM M t) (hw : WfT n t) : f_X11_isLaw M = some (iw (wdS t) 14) := by
  unfold f_X11_isLaw
  rw [spw_law, Option.bind_some, isWord_sp (i := 14) (by decide +kernel) h hw (by decide), Option.bind_some, if_pos (iw_b _ _)]
set_option maxHeartbeats 600000 in
theorem r_End {M : Mem} {t : Tk} {n : Nat} (h : TkM M t) (hw : WfT n t) : f_X11_isEnd M = some (iw (wdS t) 28) := by
  unfold f_X11_isEnd
  rw [spw_end, Option.bind_some, isWord_sp (i := 28) (by decide +kernel) h hw (by decide), Option.bind_some, if_pos (iw_b _ _)]
def lawV (w : Int32) : Int32 := if w = nI 15 then 0 else if w = nI 16 then 1 else if w = nI 17 then 2 else -1
def stpV (w : Int32) : Int32 := if w = nI 18 then 0 else if w = nI 19 then 1 else if w = nI 20 then 2 else if w = nI 21 then 3 else if w = nI 22 then 4 else if w = nI 23 then 5 else if w = nI 24 then 6 else if w = nI 25 then 7 else if w = nI 27 then 8 else if w = nI 29 then 9 else -1
def tstV (w : Int32) : Int32 := if w = nI 26 then 0 else if w = nI 7 then 1 else if w = nI 11 then 2 else -1
set_option maxHeartbeats 600000 in
theorem r_lawWord {M : Mem} {t : Tk} {n : Nat} (h : TkM M t) (hw : WfT n t) : f_X11_lawWord M = some (lawV (wdS t)) := by
  unfold f_X11_lawWord lawV
  rw [spw_most, Option.bind_some, isWord_sp (i := 15) (by decide +kernel) h hw (by decide), Option.bind_some]
  unfold iw
  by_cases c0 : wdS t = nI 15
  · rw [if_pos c0, if_neg (show ¬ (1 : Int32) = 0 from by decide), if_pos c0]
  rw [if_neg c0, if_pos (show (0 : Int32) = 0 from rfl), if_neg c0]
  rw [spw_all, Option.bind_some, isWord_sp (i := 16) (by decide +kernel) h hw (by decide), Option.bind_some]
  unfold iw
  by_cases c1 : wdS t = nI 16
  · rw [if_pos c1, if_neg (show ¬ (1 : Int32) = 0 from by decide), if_pos c1]
  rw [if_neg c1, if_pos (show (0 : Int32) = 0 from rfl), if_neg c1]
  rw [spw_two, Option.bind_some, isWord_sp (i := 17) (by decide +kernel) h hw (by decide), Option.bind_some]
  unfold iw
  by_cases c2 : wdS t = nI 17
  · rw [if_pos c2, if_neg (show ¬ (1 : Int32) = 0 from by decide), if_pos c2]
  rw [if_neg c2, if_pos (show (0 : Int32) = 0 from rfl), if_neg c2]
set_option maxHeartbeats 600000 in
theorem r_stepWord {M : Mem} {t : Tk} {n : Nat} (h : TkM M t) (hw : WfT n t) : f_X11_stepWord M = some (stpV (wdS t)) := by
  unfold f_X11_stepWord stpV
  rw [spw_show, Option.bind_some, isWord_sp (i := 18) (by decide +kernel) h hw (by decide), Option.bind_some]
  unfold iw
  by_cases c0 : wdS t = nI 18
  · rw [if_pos c0, if_neg (show ¬ (1 : Int32) = 0 from by decide), if_pos c0]
  rw [if_neg c0, if_pos (show (0 : Int32) = 0 from rfl), if_neg c0]
  rw [spw_talk, Option.bind_some, isWord_sp (i := 19) (by decide +kernel) h hw (by decide), Option.bind_some]
  unfold iw
  by_cases c1 : wdS t = nI 19
  · rw [if_pos c1, if_neg (show ¬ (1 : Int32) = 0 from by decide), if_pos c1]
  rw [if_neg c1, if_pos (show (0 : Int32) = 0 from rfl), if_neg c1]
  rw [spw_verdic, Option.bind_some, isWord_sp (i := 20) (by decide +kernel) h hw (by decide), Option.bind_some]
  unfold iw
  by_cases c2 : wdS t = nI 20
  · rw [if_pos c2, if_neg (show ¬ (1 : Int32) = 0 from by decide), if_pos c2]
  rw [if_neg c2, if_pos (show (0 : Int32) = 0 from rfl), if_neg c2]
  rw [spw_strike, Option.bind_some, isWord_sp (i := 21) (by decide +kernel) h hw (by decide), Option.bind_some]
  unfold iw
  by_cases c3 : wdS t = nI 21
  · rw [if_pos c3, if_neg (show ¬ (1 : Int32) = 0 from by decide), if_pos c3]
  rw [if_neg c3, if_pos (show (0 : Int32) = 0 from rfl), if_neg c3]
  rw [spw_seat, Option.bind_some, isWord_sp (i := 22) (by decide +kernel) h hw (by decide), Option.bind_some]
  unfold iw
  by_cases c4 : wdS t = nI 22
  · rw [if_pos c4, if_neg (show ¬ (1 : Int32) = 0 from by decide), if_pos c4]
  rw [if_neg c4, if_pos (show (0 : Int32) = 0 from rfl), if_neg c4]
  rw [spw_bribe, Option.bind_some, isWord_sp (i := 23) (by decide +kernel) h hw (by decide), Option.bind_some]
  unfold iw
  by_cases c5 : wdS t = nI 23
  · rw [if_pos c5, if_neg (show ¬ (1 : Int32) = 0 from by decide), if_pos c5]
  rw [if_neg c5, if_pos (show (0 : Int32) = 0 from rfl), if_neg c5]
  rw [spw_mood, Option.bind_some, isWord_sp (i := 24) (by decide +kernel) h hw (by decide), Option.bind_some]
  unfold iw
  by_cases c6 : wdS t = nI 24
  · rw [if_pos c6, if_neg (show ¬ (1 : Int32) = 0 from by decide), if_pos c6]
  rw [if_neg c6, if_pos (show (0 : Int32) = 0 from rfl), if_neg c6]
  rw [spw_when, Option.bind_some, isWord_sp (i := 25) (by decide +kernel) h hw (by decide), Option.bind_some]
  unfold iw
  by_cases c7 : wdS t = nI 25
  · rw [if_pos c7, if_neg (show ¬ (1 : Int32) = 0 from by decide), if_pos c7]
  rw [if_neg c7, if_pos (show (0 : Int32) = 0 from rfl), if_neg c7]
  rw [spw_loop, Option.bind_some, isWord_sp (i := 27) (by decide +kernel) h hw (by decide), Option.bind_some]
  unfold iw
  by_cases c8 : wdS t = nI 27
  · rw [if_pos c8, if_neg (show ¬ (1 : Int32) = 0 from by decide), if_pos c8]
  rw [if_neg c8, if_pos (show (0 : Int32) = 0 from rfl), if_neg c8]
  rw [spw_stop, Option.bind_some, isWord_sp (i := 29) (by decide +kernel) h hw (by decide), Option.bind_some]
  unfold iw
  by_cases c9 : wdS t = nI 29
  · rw [if_pos c9, if_neg (show ¬ (1 : Int32) = 0 from by decide), if_pos c9]
  rw [if_neg c9, if_pos (show (0 : Int32) = 0 from rfl), if_neg c9]
set_option maxHeartbeats 600000 in
theorem r_testWord {M : Mem} {t : Tk} {n : Nat} (h : TkM M t) (hw : WfT n t) : f_X11_testWord M = some (tstV (wdS t)) := by
  unfold f_X11_testWord tstV
  rw [spw_votes, Option.bind_some, isWord_sp (i := 26) (by decide +kernel) h hw (by decide), Option.bind_some]
  unfold iw
  by_cases c0 : wdS t = nI 26
  · rw [if_pos c0, if_neg (show ¬ (1 : Int32) = 0 from by decide), if_pos c0]
  rw [if_neg c0, if_pos (show (0 : Int32) = 0 from rfl), if_neg c0]
  rw [r_Weather h hw, Option.bind_some]
  unfold iw
  by_cases c1 : wdS t = nI 7
  · rw [if_pos c1, if_neg (show ¬ (1 : Int32) = 0 from by decide), if_pos c1]
  rw [if_neg c1, if_pos (show (0 : Int32) = 0 from rfl), if_neg c1]
  rw [r_Crop h hw, Option.bind_some]
  unfold iw
  by_cases c2 : wdS t = nI 11
  · rw [if_pos c2, if_neg (show ¬ (1 : Int32) = 0 from by decide), if_pos c2]
  rw [if_neg c2, if_pos (show (0 : Int32) = 0 from rfl), if_neg c2]
def keptV (w : Int32) : Int32 := if iw w 0 = 0 then if iw w 1 = 0 then if iw w 2 = 0 then if iw w 3 = 0 then if iw w 4 = 0 then if iw w 5 = 0 then if iw w 6 = 0 then if iw w 8 = 0 then if iw w 9 = 0 then if iw w 10 = 0 then if iw w 12 = 0 then if iw w 13 = 0 then if iw w 14 = 0 then if lawV w < 0 then if stpV w < 0 then if tstV w < 0 then if iw w 28 = 0 then 0 else 1 else 1 else 1 else 1 else 1 else 1 else 1 else 1 else 1 else 1 else 1 else 1 else 1 else 1 else 1 else 1 else 1
set_option maxHeartbeats 600000 in
theorem kept_n : keptV (-1) = 0 := by decide +kernel
set_option maxHeartbeats 600000 in
theorem kept_y : ∀ j, j < 30 → keptV (nI j) = 1 := by decide +kernel
set_option maxHeartbeats 600000 in
theorem r_isKept {M : Mem} {t : Tk} {n : Nat} (h : TkM M t) (hw : WfT n t) : f_X11_isKept M = some (keptV (wdS t)) := by
  unfold f_X11_isKept keptV
  rw [r_Juror h hw, Option.bind_some]
  by_cases c0 : iw (wdS t) 0 = 0
  case' neg => rw [if_neg c0, if_neg c0]
  rw [if_pos c0, if_pos c0]
  rw [r_Leans h hw, Option.bind_some]
  by_cases c1 : iw (wdS t) 1 = 0
  case' neg => rw [if_neg c1, if_neg c1]
  rw [if_pos c1, if_pos c1]
  rw [r_Less h hw, Option.bind_some]
  by_cases c2 : iw (wdS t) 2 = 0
  case' neg => rw [if_neg c2, if_neg c2]
  rw [if_pos c2, if_pos c2]
  rw [r_Stubborn h hw, Option.bind_some]
  by_cases c3 : iw (wdS t) 3 = 0
  case' neg => rw [if_neg c3, if_neg c3]
  rw [if_pos c3, if_pos c3]
  rw [r_Price h hw, Option.bind_some]
  by_cases c4 : iw (wdS t) 4 = 0
  case' neg => rw [if_neg c4, if_neg c4]
  rw [if_pos c4, if_pos c4]
  rw [r_Sways h hw, Option.bind_some]
  by_cases c5 : iw (wdS t) 5 = 0
  case' neg => rw [if_neg c5, if_neg c5]
  rw [if_pos c5, if_pos c5]
  rw [r_Proof h hw, Option.bind_some]
  by_cases c6 : iw (wdS t) 6 = 0
  case' neg => rw [if_neg c6, if_neg c6]
  rw [if_pos c6, if_pos c6]
  rw [r_Follows h hw, Option.bind_some]
  by_cases c7 : iw (wdS t) 8 = 0
  case' neg => rw [if_neg c7, if_neg c7]
  rw [if_pos c7, if_pos c7]
  rw [r_Guilty h hw, Option.bind_some]
  by_cases c8 : iw (wdS t) 9 = 0
  case' neg => rw [if_neg c8, if_neg c8]
  rw [if_pos c8, if_pos c8]
  rw [r_Free h hw, Option.bind_some]
  by_cases c9 : iw (wdS t) 10 = 0
  case' neg => rw [if_neg c9, if_neg c9]
  rw [if_pos c9, if_pos c9]
  rw [r_On h hw, Option.bind_some]
  by_cases c10 : iw (wdS t) 12 = 0
  case' neg => rw [if_neg c10, if_neg c10]
  rw [if_pos c10, if_pos c10]
  rw [r_Hunger h hw, Option.bind_some]
  by_cases c11 : iw (wdS t) 13 = 0
  case' neg => rw [if_neg c11, if_neg c11]
  rw [if_pos c11, if_pos c11]
  rw [r_Law h hw, Option.bind_some]
  by_cases c12 : iw (wdS t) 14 = 0
  case' neg => rw [if_neg c12, if_neg c12]
  rw [if_pos c12, if_pos c12]
  rw [r_lawWord h hw, Option.bind_some]
  by_cases d0 : lawV (wdS t) < 0
  case' neg => rw [if_neg d0, if_neg d0]
  rw [if_pos d0, if_pos d0]
  rw [r_stepWord h hw, Option.bind_some]
  by_cases d1 : stpV (wdS t) < 0
  case' neg => rw [if_neg d1, if_neg d1]
  rw [if_pos d1, if_pos d1]
  rw [r_testWord h hw, Option.bind_some]
  by_cases d2 : tstV (wdS t) < 0
  case' neg => rw [if_neg d2, if_neg d2]
  rw [if_pos d2, if_pos d2]
  rw [r_End h hw, Option.bind_some]
  by_cases e : iw (wdS t) 28 = 0
  · rw [if_pos e, if_pos e]
  · rw [if_neg e, if_neg e]
def isNm (t : Tk) : Bool := decide (t.2.2.1 = 1) && decide (wdS t = -1) && decide (¬ t.2.2.2.2.1 = 0)
set_option maxHeartbeats 600000 in
theorem isName_x {M : Mem} {t : Tk} {n : Nat} (h : TkX M t) (hw : WfT n t) : f_X5_isName M = some (if isNm t = true then 1 else 0) := by
  unfold f_X5_isName isNm
  rw [h.2.2.1]
  by_cases c : t.2.2.1 = 1
  · rw [if_pos (by rw [c]; rfl), (h.2.2.2.1 c).1, (h.2.2.2.1 c).2]
    have e : wdS t = kwS t.2.2.2.2.1 := if_pos c
    by_cases d : kwS t.2.2.2.2.1 = -1
    · rw [if_pos d]
      by_cases z : t.2.2.2.2.1 = 0
      · rw [if_pos (by rw [lg_cmp_eq]; exact z)]
        simp [z]
      · rw [if_neg (by rw [lg_cmp_eq]; exact z)]
        simp [c, e, d, z]
    · rw [if_neg d]
      simp [e, d]
  · rw [if_neg (by rw [show (1 : Int32) = nI 1 from rfl, eq_nI (by have := hw.2.2.1; omega) (by omega)]; exact c)]
    simp [c]
set_option maxHeartbeats 600000 in
theorem isName_m {M : Mem} {t : Tk} {n : Nat} (h : TkM M t) (hw : WfT n t) (hn : n ≤ 900) : f_X11_isName M = some (if isNm t = true then 1 else 0) := by
  have hl := hw.2.2.2.2.2
  unfold f_X11_isName isNm
  rw [h.2.2.1]
  by_cases c : t.2.2.1 = 1
  · obtain ⟨w1, w2, w3⟩ := hw.2.2.2.1 c
    rw [if_pos (by rw [c]; rfl), (h.2.2.2.1 c).1]
    by_cases d : 8 < t.2.2.2.1
    · rw [if_pos (show (8 : Int32) < nI t.2.2.2.1 from by show nI 8 < _; rw [lt_nI (by omega) (by omega)]; exact d)]
      simp [w2 d]
    · rw [if_neg (show ¬ (8 : Int32) < nI t.2.2.2.1 from by show ¬ nI 8 < _; rw [lt_nI (by omega) (by omega)]; exact d), r_isKept h hw, Option.bind_some]
      have z := w3 (by omega)
      rcases wd_val (t := t) with e | ⟨j, hj, e⟩
      · rw [e, kept_n, if_pos rfl]
        simp [c, z]
      · rw [e, kept_y j hj, if_neg (show ¬ (1 : Int32) = 0 from by decide)]
        simp [fun q : nI j = -1 => m1_nI j hj q]
  · rw [if_neg (by rw [show (1 : Int32) = nI 1 from rfl, eq_nI (by have := hw.2.2.1; omega) (by omega)]; exact c)]
    simp [c]
