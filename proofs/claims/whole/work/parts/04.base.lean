/-! ===== THE BASE: one world for class and reference: cells by kind and number, their contents two functions ===== -/
def WT : List Cond := lw_tbl.filter goodWord
theorem mem_WT {w : Cond} {i : Nat} (h : lw_tbl[i]? = some w) (hg : goodWord w = true) : w ∈ WT := List.mem_filter.mpr ⟨List.mem_of_getElem? h, hg⟩
theorem good_WT {w : Cond} (h : w ∈ WT) : goodWord w = true := (List.mem_filter.mp h).2
theorem WT_sub {w : Cond} (h : w ∈ WT) : w ∈ lw_tbl := (List.mem_filter.mp h).1
theorem goodIn_WT {w : Cond} (h : w ∈ WT) : GoodIn WT (w :: WT) := by
  intro x hx
  have hx : x ∈ WT := by
    rcases List.mem_cons.mp hx with e | e
    · rw [e]; exact h
    · exact e
  exact ⟨hx, good_of_word (good_WT hx)⟩
/-- the contents: ints (and smaller) by kind, number, place; longs likewise -/
abbrev Mem : Type := (Nat → Nat → Nat → Int32) × (Nat → Nat → Nat → Int64)
def sR (M : Mem) (c i : Nat) (f : Nat → Int32) : Mem := (fun a b => if a = c ∧ b = i then f else M.1 a b, M.2)
def sL (M : Mem) (c i : Nat) (f : Nat → Int64) : Mem := (M.1, fun a b => if a = c ∧ b = i then f else M.2 a b)
theorem sR_at (M : Mem) (c i : Nat) (f : Nat → Int32) : (sR M c i f).1 c i = f := by simp [sR]
theorem sR_ne (M : Mem) (c i : Nat) (f : Nat → Int32) {a b : Nat} (h : ¬ (a = c ∧ b = i)) : (sR M c i f).1 a b = M.1 a b := by simp [sR, h]
theorem sR_2 (M : Mem) (c i : Nat) (f : Nat → Int32) : (sR M c i f).2 = M.2 := rfl
theorem sL_at (M : Mem) (c i : Nat) (f : Nat → Int64) : (sL M c i f).2 c i = f := by simp [sL]
theorem sL_ne (M : Mem) (c i : Nat) (f : Nat → Int64) {a b : Nat} (h : ¬ (a = c ∧ b = i)) : (sL M c i f).2 a b = M.2 a b := by simp [sL, h]
theorem sL_1 (M : Mem) (c i : Nat) (f : Nat → Int64) : (sL M c i f).1 = M.1 := rfl
/-- class numbers and slots, array classes, the first address -/
abbrev wEnv : Type := va_G × (Nat → ClassId) × Nat
def tysL (E : wEnv) : List (ClassId × FieldType) := [(E.2.1 0, .int), (E.2.1 1, .byte), (E.2.1 2, .long), (E.2.1 3, .object "RainJury$World"), (E.2.1 4, .object "RainJury$Hall"), (E.2.1 5, .array .long)]
def Kx (E : wEnv) (U : State) : Prop := va_K E.1 vwCl (tysL E) U
theorem Kx.moved {E : wEnv} {u U : State} (hvm : u.vm.Alike U.vm) (h : Kx E u) : Kx E U := va_K.moved hvm h
