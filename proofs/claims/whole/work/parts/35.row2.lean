/-! ===== calls on both: row ===== -/
def rowW (K : Co) (L : Nat → Int64) : Nat → Nat → Nat → Nat
  | 0, _, w => w
  | k + 1, i, w => rowW K L k (i + 1) (behS K w (L i).toInt32)
theorem behS_lt {K : Co} (ok : OKC K) {w : Nat} {v : Int32} (h : w < K.1 2) : behS K w v < K.1 2 := by
  have q := ok.2.2.2.2.2.2.1 w h
  unfold behS
  by_cases c : v = 0
  · rw [if_pos c]; exact h
  · rw [if_neg c]
    by_cases d : v = 1
    · rw [if_pos d]; exact q.1
    · rw [if_neg d]; exact q.2
theorem rw_loop {M : Mem} {K : Co} {t n : Nat} {L : Nat → Int64} (ok : OKC K) (rc : RepC M 0 K) (ht : t < 4) (hn : n ≤ 60) (hL : ∀ j, j < 60 → M.2 4 t j = L j) : ∀ (k i fu w : Nat), i + k = n → k < fu → w < K.1 2 →
    f_X10_row_32 (nI t) (nI n) M fu (nI w) (nI i) = some (nI (rowW K L k i w), stM M 0)
  | k, i, 0, w, _, h, _ => by omega
  | 0, i, fu + 1, w, hi, _, _ => by
    rw [f_X10_row_32, if_neg (by rw [lt_nI (by omega) (by omega)]; omega), X10_answer_e]
    rfl
  | k + 1, i, fu + 1, w, hi, hk, hw => by
    rw [f_X10_row_32, if_pos (by rw [lt_nI (by omega) (by omega)]; omega), inb_nI_t ht (by decide), if_pos rfl, inb_nI_t (show i < 60 by omega) (by decide), if_pos rfl, nI_clamp (by omega), nI_clamp (by omega), hL i (by omega), X1_weatherBehind_sp ok rc hw, Option.bind_some, show nI i + (1 : Int32) = nI (i + 1) from add_nI i 1, rw_loop ok rc ht hn hL k (i + 1) fu _ (by omega) (by omega) (behS_lt ok hw)]
    rfl
