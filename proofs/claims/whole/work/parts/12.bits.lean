/-! ===== bits of sets of at most ten, by the kernel ===== -/
def pc10 (S : Nat) : Nat := (List.range 10).foldl (fun a i => a + if S.testBit i then 1 else 0) 0
theorem bit_at : ∀ S, S < 1024 → ∀ i, i < 11 → ((nI S) >>> ((nI i) &&& 31)) &&& 1 = if S.testBit i then 1 else 0 := by decide +kernel
theorem shr_0 : ∀ S, S < 1024 → ∀ i, i < 11 → (((nI S) >>> ((nI i) &&& 31)) = 0 ↔ S / 2 ^ i = 0) := by decide +kernel
theorem bitCount_at : ∀ S, S < 1024 → f_J6_bitCount_0f7a4 (nI S) = some (nI (pc10 S)) := by decide +kernel
theorem shl_1 : ∀ i, i < 31 → (1 : Int32) <<< ((nI i) &&& 31) = nI (2 ^ i) := by decide +kernel
theorem andn_at : ∀ S, S < 1024 → ∀ i, i < 10 → (nI S) &&& (((1 : Int32) <<< ((nI i) &&& 31)) ^^^ (-1 : Int32)) = nI (S &&& (1023 ^^^ 2 ^ i)) := by decide +kernel
