/-! ===== rows of verdicts ===== -/
theorem noVerd64 (x : Int64) : f_X10_isNoVerdict x = some (if -1 ≤ x.toInt ∧ x.toInt ≤ 1 then 0 else 1) := by
  have h := isIn_spec x (-1) 1
  unfold f_X11_isIn at h
  unfold f_X10_isNoVerdict
  by_cases c1 : lg_cmp x (-1) < 0
  · rw [if_pos c1] at h ⊢
    by_cases z : -1 ≤ x.toInt ∧ x.toInt ≤ 1
    · rw [if_pos (show (-1 : Int64).toInt ≤ x.toInt ∧ x.toInt ≤ (1 : Int64).toInt from z)] at h
      exact absurd h (by decide)
    · rw [if_neg z]
  · rw [if_neg c1] at h ⊢
    by_cases c2 : 0 < lg_cmp x 1
    · rw [if_pos c2] at h ⊢
      by_cases z : -1 ≤ x.toInt ∧ x.toInt ≤ 1
      · rw [if_pos (show (-1 : Int64).toInt ≤ x.toInt ∧ x.toInt ≤ (1 : Int64).toInt from z)] at h
        exact absurd h (by decide)
      · rw [if_neg z]
    · rw [if_neg c2] at h ⊢
      by_cases z : -1 ≤ x.toInt ∧ x.toInt ≤ 1
      · rw [if_pos z]
      · rw [if_neg (show ¬ ((-1 : Int64).toInt ≤ x.toInt ∧ x.toInt ≤ (1 : Int64).toInt) from z)] at h
        exact absurd h (by decide)
theorem isVerd64 (x : Int64) : f_X11_isVerdict x = some (if -1 ≤ x.toInt ∧ x.toInt ≤ 1 then 1 else 0) := by
  have h := isIn_spec x (-1) 1
  have h : f_X11_isIn x (-1) 1 = some (if -1 ≤ x.toInt ∧ x.toInt ≤ 1 then 1 else 0) := h
  unfold f_X11_isVerdict
  rw [h, Option.bind_some]
  by_cases z : -1 ≤ x.toInt ∧ x.toInt ≤ 1
  · rw [if_pos z]; rfl
  · rw [if_neg z]; rfl
/-- the places i .. n - 1 of the row hold verdicts -/
def verdB (v : Int64) : Bool := decide (-1 ≤ v.toInt ∧ v.toInt ≤ 1)
def rowS (L : Nat → Int64) (w : Nat) : Nat → Nat → Int32
  | 0, _ => if w = 0 then 8 else 0
  | k + 1, i => if verdB (L i) = true then rowS L w k (i + 1) else 5
theorem rx_loop {M : Mem} {t w n : Nat} {L : Nat → Int64} (ht : t < 4) (hw : w < 2 ^ 31) (hn : n ≤ 60) (hM : M.1 9 0 2 = nI w) (hL : ∀ j, j < 60 → M.2 4 t j = L j) : ∀ (k i fu : Nat), i + k = n → k < fu →
    f_X10_wrongVerdicts_22 (nI t) (nI n) M fu (nI i) = some (rowS L w k i)
  | k, i, 0, _, h => by omega
  | 0, i, fu + 1, hi, _ => by
    rw [f_X10_wrongVerdicts_22, if_neg (by rw [lt_nI (by omega) (by omega)]; omega)]
    unfold f_X10_hasNoWeather rowS
    rw [hM]
    by_cases c : w = 0
    · rw [if_pos (by rw [c]; rfl), if_pos c]; rfl
    · rw [if_neg (by rw [nI_z hw]; exact c), if_neg c]; rfl
  | k + 1, i, fu + 1, hi, hk => by
    rw [f_X10_wrongVerdicts_22, if_pos (by rw [lt_nI (by omega) (by omega)]; omega), inb_nI_t ht (by decide), if_pos rfl, inb_nI_t (show i < 60 by omega) (by decide), if_pos rfl, nI_clamp (by omega), nI_clamp (by omega), hL i (by omega), noVerd64, Option.bind_some, show nI i + (1 : Int32) = nI (i + 1) from add_nI i 1, rx_loop ht hw hn hM hL k (i + 1) fu (by omega) (by omega)]
    show _ = some (if verdB (L i) = true then rowS L w k (i + 1) else 5)
    unfold verdB
    by_cases z : -1 ≤ (L i).toInt ∧ (L i).toInt ≤ 1
    · rw [if_pos z, if_pos rfl, if_pos (by simpa using z)]
    · rw [if_neg z, if_neg (by decide), if_neg (by simpa using z)]
theorem rm_loop {M : Mem} {t w n : Nat} {L : Nat → Int64} {d : Int32} (ht : t < 4) (hn : n ≤ 60) (hM : M.1 55 0 8 = d) (hd : (d < 0 ∧ w = 0) ∨ (¬ d < 0 ∧ ¬ w = 0)) (hL : ∀ j, j < 60 → M.2 53 0 (60 * t + j) = L j) : ∀ (k i fu : Nat), i + k = n → k < fu →
    f_X11_goesRow_49 (nI t) (nI n) M fu (nI i) = some (rowS L w k i)
  | k, i, 0, _, h => by omega
  | 0, i, fu + 1, hi, _ => by
    rw [f_X11_goesRow_49, if_neg (by rw [lt_nI (by omega) (by omega)]; omega), hM]
    unfold rowS
    rcases hd with ⟨h1, h2⟩ | ⟨h1, h2⟩
    · rw [if_pos h1, if_pos h2]
    · rw [if_neg h1, if_neg h2]
  | k + 1, i, fu + 1, hi, hk => by
    have en : f_X11_numberOf (nI t) (nI i) M = some (L i) := by
      unfold f_X11_numberOf
      rw [show (60 : Int32) * nI t + nI i = nI (60 * t + i) from by rw [show (60 : Int32) = nI 60 from rfl, mul_nI, add_nI], inb_nI_t (by omega) (by decide), if_pos rfl, nI_clamp (by omega), hL i (by omega)]
    rw [f_X11_goesRow_49, if_pos (by rw [lt_nI (by omega) (by omega)]; omega), en, Option.bind_some, isVerd64, Option.bind_some, show nI i + (1 : Int32) = nI (i + 1) from add_nI i 1, rm_loop ht hn hM hd hL k (i + 1) fu (by omega) (by omega)]
    show _ = some (if verdB (L i) = true then rowS L w k (i + 1) else 5)
    unfold verdB
    by_cases z : -1 ≤ (L i).toInt ∧ (L i).toInt ≤ 1
    · rw [if_pos z, if_neg (by decide), if_pos (by simpa using z)]
    · rw [if_neg z, if_pos rfl, if_neg (by simpa using z)]
