/-! ===== the state at first ===== -/
def W0 : Wo := ((fun _ => 0, fun _ _ => 0), (fun _ => 0, fun _ => 0, fun _ => 0), fun _ _ => 0, (fun _ => 0, fun _ _ => 0))
def S0 : Sy := (fun j => if j = 0 then 0 else -1, (0, 1), (0, fun _ => 0), (fun _ => -1, fun _ => 0, fun _ _ => 0), W0, (0, fun _ => W0), (false, 0, fun _ => 0), (false, fun _ => 0))
theorem OKW_0 : OKW W0 := by
  refine ⟨⟨by decide, by decide, by decide, by decide, by decide, by decide, fun w h => absurd h (Nat.not_lt_zero _), fun j h => absurd h (Nat.not_lt_zero _), fun a b h => absurd h (Nat.not_lt_zero _), fun a h => absurd h (Nat.not_lt_zero _), fun a h => absurd h (Nat.not_lt_zero _), fun c w h => absurd h (Nat.not_lt_zero _)⟩, ⟨by decide, by decide, fun j _ => (by decide : (0 : Nat) < 16777216), fun j _ => ⟨(by decide : (-99 : Int32) ≤ 0), (by decide : (0 : Int32) ≤ 99)⟩⟩, Or.inl rfl, by decide, by decide, by decide, by decide, ⟨by decide, by decide, fun _ => rfl, fun s h => absurd h (Nat.not_lt_zero _)⟩⟩
theorem OKS_0 : OKS S0 := by
  refine ⟨Nat.zero_le _, fun t _ => ⟨(by decide : (0 : Nat) < 4), Or.inl rfl⟩, OKW_0, ⟨Nat.zero_le _, fun k h1 h2 => ?_⟩, ⟨Nat.zero_le _, fun _ => rfl⟩, fun j h => absurd h (Nat.not_lt_zero _), Or.inl rfl, fun k h => absurd h (Nat.not_lt_zero _), fun h => ?_⟩
  · have h2 : k ≤ 0 := h2
    omega
  · have h : false = true := h
    cases h
theorem RX_0 : RX S0 M0 := by
  refine ⟨⟨rfl, rfl, rfl, rfl⟩, ⟨rfl, rfl⟩, ⟨rfl, fun j h => absurd h (Nat.not_lt_zero _)⟩, fun t ht => ⟨?_, rfl, fun j _ => rfl⟩, ?_, ⟨rfl, fun k h1 h2 => ?_⟩, ⟨rfl, fun k h => absurd h (Nat.not_lt_zero _)⟩, ⟨rfl, fun h => ?_⟩, fun i hi => if_pos hi⟩
  · match t, ht with
    | 0, _ => rfl
    | 1, _ => rfl
    | 2, _ => rfl
    | 3, _ => rfl
  · refine ⟨⟨fun j _ => rfl, rfl, rfl, fun j h => absurd h (Nat.not_lt_zero _), fun a b h => absurd h (Nat.not_lt_zero _), fun b h => absurd h (Nat.not_lt_zero _), fun p h => absurd h (Nat.not_lt_zero _), fun w h => absurd h (Nat.not_lt_zero _), fun c w h => absurd h (Nat.not_lt_zero _)⟩, ⟨fun j _ => rfl, fun j _ => rfl, fun j _ => rfl⟩, fun q hq i h => absurd h (Nat.not_lt_zero _), ⟨rfl, rfl, rfl, fun s h => absurd h (Nat.not_lt_zero _)⟩⟩
  · have h2 : k ≤ 0 := h2
    omega
  · have h : false = true := h
    cases h
theorem m55_0 {j : Nat} (h : ¬ j = 8) : M0.1 55 0 j = 0 := if_neg h
theorem RM_0 : RM S0 M0 := by
  refine ⟨⟨rfl, rfl, rfl, rfl⟩, ⟨rfl, rfl⟩, ⟨rfl, fun j h => absurd h (Nat.not_lt_zero _)⟩, fun t ht => ⟨if_pos ht, rfl, fun j _ => rfl⟩, ?_, ⟨rfl, fun k h1 h2 => ?_⟩, ⟨rfl, fun k h => absurd h (Nat.not_lt_zero _)⟩, ⟨rfl, fun h => ?_⟩⟩
  · refine ⟨⟨fun j hj => m55_0 (by omega), rfl, rfl, fun j h => absurd h (Nat.not_lt_zero _), fun a b h => absurd h (Nat.not_lt_zero _), fun p h => absurd h (Nat.not_lt_zero _), fun w h => absurd h (Nat.not_lt_zero _), fun c w h => absurd h (Nat.not_lt_zero _)⟩, ⟨rfl, rfl, rfl, rfl, rfl, rfl, fun j h => absurd h (Nat.not_lt_zero _), fun j h => absurd h (Nat.not_lt_zero _)⟩, fun q hq i h => absurd h (Nat.not_lt_zero _), ⟨rfl, rfl, fun s h => absurd h (Nat.not_lt_zero _)⟩⟩
  · have h2 : k ≤ 0 := h2
    omega
  · have h : false = true := h
    cases h
