/-! ===== rows of the law ===== -/
def LC (E : wEnv) (Y : YT) (b L : Nat) (xs : Nat → Int32) : Prop := Cx E Y cL_law 4 RL 1000 ∧ va_X b L xs (ys Y) (ys Y).heap ∧ b < (ys Y).heap.size ∧ ¬ yA Y b ∧ L ≤ 3072
def lvL (E : wEnv) (b i : Nat) : LV := [(3, .int (nI i)), (2, .ref (ad E 50 0)), (1, .ref (ad E 0 0)), (0, .ref b)]
theorem of_mapM {α β : Type} {f : Option α} {M M1 : β} {r : α} (h : f.map (fun r => (r, M)) = some (r, M1)) : f = some r ∧ M1 = M := by
  cases f with
  | none => cases h
  | some a =>
    cases h
    exact ⟨rfl, rfl⟩
section LAW
variable {E : wEnv} {Y : YT} {b L : Nat} {xs : Nat → Int32} {M : Mem} {pc i : Nat} {lv : LV} {st : List Value}
theorem g_scr (C : LC E Y b L xs) {k : Nat} {z : Int} (hk : i + k < L) (h0 : decode cL_law pc = .ok (.aload_n 0, 1)) (h1 : decode cL_law (pc + 1) = .ok (.iload_n 3, 1)) (h2 : decode cL_law (pc + 2) = .ok (.iconst z, 1)) (hz : Int32.ofInt z = nI k) (h3 : decode cL_law (pc + 3) = .ok (.iadd, 1)) (h4 : decode cL_law (pc + 4) = .ok (.iaload, 1)) (kk : G E Y 4 M (pc + 5) (lvL E b i) (.int (xs (i + k)) :: st)) : G E Y 4 M pc (lvL E b i) st := by
  have hL := C.2.2.2.2
  refine g_aload_n C.1 h0 rfl rfl ?_
  refine g_iload_n C.1 h1 rfl rfl ?_
  refine g_iconst (v := nI k) C.1 h2 hz ?_
  refine g_iadd C.1 h3 ?_
  rw [add_nI]
  intro H locs ls hW hS hl
  refine va_sld C.1.1 C.1.2.1 C.2.1 C.2.2.1 C.2.2.2.1 hS (vp_in_nI hk (by omega)) h4 ?_
  rw [nI_clamp (by omega)]
  exact kk H locs ls hW hS hl
theorem g_same (C : LC E Y b L xs) {x : Int32} {off : Int} {tgt : Nat} (hd : decode cL_law pc = .ok (.if_icmp .eq off, 3)) (ht : (pc : Int) + off = (tgt : Int)) (k : G E Y 4 M tgt lv st) : G E Y 4 M pc lv (.int x :: .int x :: st) := by
  intro H locs ls hW hS hl
  exact lv_icmp_eq C.1.1 C.1.2.1 hd ht (fun _ => k H locs ls hW hS hl) (fun h => absurd rfl h)
theorem g_sameL (C : LC E Y b L xs) {x : Int64} {off : Int} {tgt : Nat} (h1 : decode cL_law pc = .ok (.lcmp, 1)) (hd : decode cL_law (pc + 1) = .ok (.ifCond .eq off, 3)) (ht : ((pc + 1 : Nat) : Int) + off = (tgt : Int)) (k : G E Y 4 M tgt lv st) : G E Y 4 M pc lv (.long x :: .long x :: st) := by
  refine g_lcmp C.1 h1 ?_
  have e : lg_cmp x x = 0 := by
    unfold lg_cmp
    rw [if_neg (fun h => Int64.lt_irrefl h), if_pos rfl]
  rw [e]
  intro H locs ls hW hS hl
  exact lv_if_eq C.1.1 C.1.2.1 hd ht (fun _ => k H locs ls hW hS hl) (fun h => absurd rfl h)
theorem g_tsw (C : LC E Y b L xs) {dflt lo hi : Int} {offs : Array Int} {len : Nat} {x : Int32} {off : Int} {tgt : Nat} (hd : decode cL_law pc = .ok (.tableswitch dflt lo hi offs, len)) (h1 : ¬ x.toInt < lo) (h2 : ¬ hi < x.toInt) (ho : offs[(x.toInt - lo).toNat]? = some off) (ht : (pc : Int) + off = (tgt : Int)) (k : G E Y 4 M tgt lv st) : G E Y 4 M pc lv (.int x :: st) := by
  intro H locs ls hW hS hl
  exact lv_tableIn C.1.1 C.1.2.1 hd h1 h2 ho ht (k H locs ls hW hS hl)
theorem g_tsw0 (C : LC E Y b L xs) {dflt lo hi : Int} {offs : Array Int} {len : Nat} {x : Int32} {tgt : Nat} (hd : decode cL_law pc = .ok (.tableswitch dflt lo hi offs, len)) (h : x.toInt < lo ∨ hi < x.toInt) (ht : (pc : Int) + dflt = (tgt : Int)) (k : G E Y 4 M tgt lv st) : G E Y 4 M pc lv (.int x :: st) := by
  intro H locs ls hW hS hl
  exact lv_tableOut C.1.1 C.1.2.1 hd h ht (k H locs ls hW hS hl)
end LAW
theorem and63 (x : Int32) : ∃ k : Nat, k < 64 ∧ (x &&& 63).toInt = (k : Int) := by
  have h1 : (x &&& 63).toBitVec = x.toBitVec &&& 63#32 := rfl
  have h2 : ((x &&& 63).toBitVec).toNat < 64 := by
    rw [h1, BitVec.toNat_and]
    exact Nat.lt_of_le_of_lt Nat.and_le_right (by decide)
  refine ⟨((x &&& 63).toBitVec).toNat, h2, ?_⟩
  show ((x &&& 63).toBitVec).toInt = _
  exact BitVec.toInt_eq_toNat_of_lt (by omega)
theorem cmp_L {i L : Nat} (hL : L ≤ 3072) (hi : i ≤ L) : (nI L - 6 < nI i) ↔ ¬ i + 6 ≤ L := by
  by_cases h : 6 ≤ L
  · rw [show (6 : Int32) = nI 6 from rfl, sub_nI h, lt_nI (by omega) (by omega)]
    omega
  · have hn : nI L - 6 < 0 := by
      rcases (show L = 0 ∨ L = 1 ∨ L = 2 ∨ L = 3 ∨ L = 4 ∨ L = 5 by omega) with rfl | rfl | rfl | rfl | rfl | rfl <;> decide
    exact ⟨fun _ => by omega, fun _ => Int32.lt_of_lt_of_le hn (nI_pos' (by omega))⟩
