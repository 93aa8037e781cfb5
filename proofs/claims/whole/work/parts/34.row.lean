/-! ===== rows of verdicts ===== -/
theorem noVerd64 (x : Int64) : f_X10_isNoVerdict x = some (if -1 ≤ x.toInt ∧ x.toInt ≤ 1 then 0 else 1) := by
  have h := isIn_spec x (-1) 1
  unfold f_X11_isIn at h
  unfold f_X10_isNoVerdict
  by_cases c1 : lg_cmp x (-1) < 0
  · rw [if_pos c1] at h ⊢
    by_cases z : -1 ≤ x.toInt ∧ x.toInt ≤ 1
    · rw [if_pos (show (-1 : Int64).toInt ≤ x.toInt ∧ x.toInt ≤ (1 : Int64).toInt from z)] at h
      exact absurd h (by decide)
    · rw [if_neg z]
  · rw [if_neg c1] at h ⊢
    by_cases c2 : 0 < lg_cmp x 1
    · rw [if_pos c2] at h ⊢
      by_cases z : -1 ≤ x.toInt ∧ x.toInt ≤ 1
      · rw [if_pos (show (-1 : Int64).toInt ≤ x.toInt ∧ x.toInt ≤ (1 : Int64).toInt from z)] at h
        exact absurd h (by decide)
      · rw [if_neg z]
    · rw [if_neg c2] at h ⊢
      by_cases z : -1 ≤ x.toInt ∧ x.toInt ≤ 1
      · rw [if_pos z]
      · rw [if_neg (show ¬ ((-1 : Int64).toInt ≤ x.toInt ∧ x.toInt ≤ (1 : Int64).toInt) from z)] at h
        exact absurd h (by decide)
theorem isVerd64 (x : Int64) : f_X11_isVerdict x = some (if -1 ≤ x.toInt ∧ x.toInt ≤ 1 then 1 else 0) := by
  have h := isIn_spec x (-1) 1
  have h : f_X11_isIn x (-1) 1 = some (if -1 ≤ x.toInt ∧ x.toInt ≤ 1 then 1 else 0) := h
  unfold f_X11_isVerdict
  rw [h, Option.bind_some]
  by_cases z : -1 ≤ x.toInt ∧ x.toInt ≤ 1
  · rw [if_pos z]; rfl
  · rw [if_neg z]; rfl
/-- the places i .. n - 1 of the row hold verdicts -/
def verdB (v : Int64) : Bool := decide (-1 ≤ v.toInt ∧ v.toInt ≤ 1)
def rowS (L : Nat → Int64) (w : Nat) : Nat → Nat → Int32
  | 0, _ => if w = 0 then 8 else 0
  | k + 1, i => if verdB (L i) = true then rowS L w k (i + 1) else 5
theorem rx_loop {M : Mem} {t w n : Nat} {L : Nat → Int64} (ht : t < 4) (hw : w < 2 ^ 31) (hn : n ≤ 60) (hM : M.1 9 0 2 = nI w) (hL : ∀ j, j < 60 → M.2 4 t j = L j) : ∀ (k i fu : Nat), i + k = n → k < fu →
    f_X10_wrongVerdicts_22 (nI t) (nI n) M fu (nI i) = some (rowS L w k i)
  | k, i, 0, _, h => by omega
  | 0, i, fu + 1, hi, _ => by
    rw [f_X10_wrongVerdicts_22, if_neg (by rw [lt_nI (by omega) (by omega)]; omega)]
    unfold f_X10_hasNoWeather rowS
    rw [hM]
    by_cases c : w = 0
    · rw [if_pos (by rw [c]; rfl), if_pos c]; rfl
    · rw [if_neg (by rw [nI_z hw]; exact c), if_neg c]; rfl
  | k + 1, i, fu + 1, hi, hk => by
    rw [f_X10_wrongVerdicts_22, if_pos (by rw [lt_nI (by omega) (by omega)]; omega), inb_nI_t ht (by decide), if_pos rfl, inb_nI_t (show i < 60 by omega) (by decide), if_pos rfl, nI_clamp (by omega), nI_clamp (by omega), hL i (by omega), noVerd64, Option.bind_some, show nI i + (1 : Int32) = nI (i + 1) from add_nI i 1, rx_loop ht hw hn hM hL k (i + 1) fu (by omega) (by omega)]
    show _ = some (if verdB (L i) = true then rowS L w k (i + 1) else 5)
    unfold verdB
    by_cases z : -1 ≤ (L i).toInt ∧ (L i).toInt ≤ 1
    · rw [if_pos z, if_pos rfl, if_pos (by simpa using z)]
    · rw [if_neg z, if_neg (by decide), if_neg (by simpa using z)]
theorem rm_loop {M : Mem} {t w n : Nat} {L : Nat → Int64} {d : Int32} (ht : t < 4) (hn : n ≤ 60) (hM : M.1 55 0 8 = d) (hd : (d < 0 ∧ w = 0) ∨ (¬ d < 0 ∧ ¬ w = 0)) (hL : ∀ j, j < 60 → M.2 53 0 (60 * t + j) = L j) : ∀ (k i fu : Nat), i + k = n → k < fu →
    f_X11_goesRow_49 (nI t) (nI n) M fu (nI i) = some (rowS L w k i)
  | k, i, 0, _, h => by omega
  | 0, i, fu + 1, hi, _ => by
    rw [f_X11_goesRow_49, if_neg (by rw [lt_nI (by omega) (by omega)]; omega), hM]
    unfold rowS
    rcases hd with ⟨h1, h2⟩ | ⟨h1, h2⟩
    · rw [if_pos h1, if_pos h2]
    · rw [if_neg h1, if_neg h2]
  | k + 1, i, fu + 1, hi, hk => by
    have en : f_X11_numberOf (nI t) (nI i) M = some (L i) := by
      unfold f_X11_numberOf
      rw [show (60 : Int32) * nI t + nI i = nI (60 * t + i) from by rw [show (60 : Int32) = nI 60 from rfl, mul_nI, add_nI], inb_nI_t (by omega) (by decide), if_pos rfl, nI_clamp (by omega), hL i (by omega)]
    rw [f_X11_goesRow_49, if_pos (by rw [lt_nI (by omega) (by omega)]; omega), en, Option.bind_some, isVerd64, Option.bind_some, show nI i + (1 : Int32) = nI (i + 1) from add_nI i 1, rm_loop ht hn hM hd hL k (i + 1) fu (by omega) (by omega)]
    show _ = some (if verdB (L i) = true then rowS L w k (i + 1) else 5)
    unfold verdB
    by_cases z : -1 ≤ (L i).toInt ∧ (L i).toInt ≤ 1
    · rw [if_pos z, if_neg (by decide), if_pos (by simpa using z)]
    · rw [if_neg z, if_pos rfl, if_neg (by simpa using z)]
theorem rowS_0 {L : Nat → Int64} {w : Nat} : ∀ (k i : Nat), rowS L w k i = 0 → ¬ w = 0 ∧ ∀ j, i ≤ j → j < i + k → verdB (L j) = true
  | 0, i, h => by
    unfold rowS at h
    by_cases c : w = 0
    · rw [if_pos c] at h; exact absurd h (by decide)
    · exact ⟨c, fun j h1 h2 => by omega⟩
  | k + 1, i, h => by
    have h : (if verdB (L i) = true then rowS L w k (i + 1) else 5) = 0 := h
    by_cases c : verdB (L i) = true
    · rw [if_pos c] at h
      obtain ⟨q1, q2⟩ := rowS_0 k (i + 1) h
      refine ⟨q1, fun j h1 h2 => ?_⟩
      by_cases d : j = i
      · rw [d]; exact c
      · exact q2 j (by omega) (by omega)
    · rw [if_neg c] at h; exact absurd h (by decide)
theorem rowS_pos {L : Nat → Int64} {w : Nat} : ∀ (k i : Nat), rowS L w k i = 0 ∨ 0 < rowS L w k i
  | 0, i => by
    unfold rowS
    by_cases c : w = 0
    · rw [if_pos c]; right; decide
    · rw [if_neg c]; left; rfl
  | k + 1, i => by
    show (if verdB (L i) = true then rowS L w k (i + 1) else 5) = 0 ∨ 0 < (if verdB (L i) = true then rowS L w k (i + 1) else 5)
    by_cases c : verdB (L i) = true
    · rw [if_pos c]; exact rowS_pos k (i + 1)
    · rw [if_neg c]; right; decide
theorem row_both {s : Sy} (o : OKS s) (x y : Int32) : ∃ e : Int32, (∀ M, RX s M → f_X10_wrongVerdicts x y M = some e) ∧ (∀ M, RM s M → f_X11_goesRow x y M = some e) ∧ (e = 0 ∨ 0 < e) ∧
    (e = 0 → ∃ t n, t < 4 ∧ n ≤ 60 ∧ x = nI t ∧ y = nI n ∧ ¬ (sWo s).1.1 2 = 0 ∧ ∀ j, j < n → verdB ((sTr s).2.2 t j) = true) := by
  rcases arg_in x (n := 4) (by decide) with ⟨t, ht, rfl⟩ | hx
  · have ex : ∀ M, RX s M → M.1 5 0 t = (sTr s).1 t := fun M h => (h.T t ht).1
    have em : ∀ M, RM s M → M.1 52 0 t = (sTr s).1 t := fun M h => (h.T t ht).1
    rcases (o.T t ht).2 with hl | ⟨m, hm, hl⟩
    · refine ⟨3, fun M h => ?_, fun M h => ?_, Or.inr (by decide), fun z => absurd z (by decide)⟩
      · unfold f_X10_wrongVerdicts f_X10_wrongRow f_X10_wrongTray f_X6_isMissing
        rw [isTrayX_t ht, Option.bind_some, if_neg (by decide), inb_nI_t ht (by decide), if_pos rfl, nI_clamp (by omega), ex M h, hl]
        rfl
      · unfold f_X11_goesRow
        rw [isTrayM_t ht, Option.bind_some, if_neg (by decide), inb_nI_t ht (by decide), if_pos rfl, nI_clamp (by omega), em M h, hl]
        rfl
    · have m0 : ¬ nI m < 0 := nI_pos (by omega)
      have X : ∀ M, RX s M → f_X10_wrongVerdicts (nI t) y M = if nI m < y then some 4 else if y < 0 then some 5 else f_X10_wrongVerdicts_22 (nI t) y M FU (0 : Int32) := by
        intro M h
        unfold f_X10_wrongVerdicts f_X10_wrongRow f_X10_wrongTray f_X6_isMissing
        rw [isTrayX_t ht, Option.bind_some, if_neg (by decide), inb_nI_t ht (by decide), if_pos rfl, nI_clamp (by omega), ex M h, hl, if_neg m0, Option.bind_some, if_pos rfl, Option.bind_some, if_pos rfl, if_pos rfl]
        by_cases c : nI m < y
        · rw [if_pos c, if_pos c]; rfl
        · rw [if_neg c, if_neg c, Option.bind_some, if_pos rfl]
      have Y : ∀ M, RM s M → f_X11_goesRow (nI t) y M = if nI m < y then some 4 else (f_X11_isIn y.toInt64 (0 : Int64) (60 : Int64)).bind fun r4 => if r4 = 0 then some (5 : Int32) else f_X11_goesRow_49 (nI t) y M FU (0 : Int32) := by
        intro M h
        unfold f_X11_goesRow
        rw [isTrayM_t ht, Option.bind_some, if_neg (by decide), inb_nI_t ht (by decide), if_pos rfl, nI_clamp (by omega), em M h, hl, if_neg m0, if_pos rfl]
      rcases arg_in y (n := m + 1) (by omega) with ⟨n, hn, rfl⟩ | hy
      · have c : ¬ nI m < nI n := by rw [lt_nI (by omega) (by omega)]; omega
        have hw : (sWo s).1.1 2 ≤ 6 := o.C.2.2.1
        have hb : (sWo s).2.1.1 4 < 16777216 := o.H.2.2.1 4 (by decide)
        refine ⟨rowS ((sTr s).2.2 t) ((sWo s).1.1 2) n 0, fun M h => ?_, fun M h => ?_, rowS_pos _ _, fun z => ?_⟩
        · rw [X M h, if_neg c, if_neg (nI_pos (by omega))]
          exact rx_loop ht (by omega) (by omega) (h.C.1 2 (by decide)) (h.T t ht).2.2 n 0 FU (by omega) (lt_FU (by omega))
        · rw [Y M h, if_neg c, isIn_t0 (n := 61) (by decide) (by decide) (by omega), Option.bind_some, if_neg (by decide)]
          refine rm_loop ht (by omega) h.H.2.2.2.2.1 ?_ (h.T t ht).2.2 n 0 FU (by omega) (lt_FU (by omega))
          by_cases q : (sWo s).1.1 2 = 0
          · rw [if_pos q]; exact Or.inl ⟨by decide, q⟩
          · rw [if_neg q]; exact Or.inr ⟨nI_pos (by omega), q⟩
        · obtain ⟨q1, q2⟩ := rowS_0 _ _ z
          exact ⟨t, n, ht, by omega, rfl, rfl, q1, fun j hj => q2 j (by omega) (by omega)⟩
      · by_cases c : y < 0
        · have c2 : ¬ nI m < y := by
            intro w
            have w1 := Int32.lt_iff_toInt_lt.mp w
            have w2 := neg_toInt c
            rw [nI_toInt (by omega)] at w1
            omega
          refine ⟨5, fun M h => ?_, fun M h => ?_, Or.inr (by decide), fun z => absurd z (by decide)⟩
          · rw [X M h, if_neg c2, if_pos c]
          · rw [Y M h, if_neg c2, isIn_f0 (n := 61) (by decide) (by decide) (Or.inl c)]
            rfl
        · have c2 : nI m < y := big_of (n := m) (by omega) hy c
          refine ⟨4, fun M h => ?_, fun M h => ?_, Or.inr (by decide), fun z => absurd z (by decide)⟩
          · rw [X M h, if_pos c2]
          · rw [Y M h, if_pos c2]
  · refine ⟨1, fun M h => ?_, fun M h => ?_, Or.inr (by decide), fun z => absurd z (by decide)⟩
    · unfold f_X10_wrongVerdicts f_X10_wrongRow f_X10_wrongTray
      rw [isTrayX_f hx]
      rfl
    · unfold f_X11_goesRow
      rw [isTrayM_f hx]
      rfl
