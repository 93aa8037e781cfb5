/-! ===== new long[4][60], as the trays want it ===== -/
theorem gb_mna {E : wEnv} {Y : YT} {cc : ByteArray} {nL d n0 CC SS : Nat} {own : String} {D : Dw} {n c w pc : Nat} {lv : LV} {st : List Value} (C : Cb E Y cc nL own d n0 CC SS) {idx : Nat} (hd : decode cc pc = .ok (.multianewarray idx 2, 4)) (hcl : Cond.classLink own idx "[[J" ∈ WT) (hcn : n0 + c = n) (hc : c + 5 ≤ CC) (hs : w + 244 ≤ SS)
    (hD0 : D n = .inl (E.2.1 5, 4, .inr (.inr (.inr (.inr (fun j => if j < 4 then some (E.2.2 + n + 1 + j) else none)))))) (hD1 : ∀ j, j < 4 → D (n + 1 + j) = .inl (E.2.1 2, 60, .inr (.inl (fun _ => 0))))
    (k : Gb E Y nL D (n + 5) (c + 5) (w + 244) (pc + 4) lv (.ref (E.2.2 + n) :: st)) : Gb E Y nL D n c w pc lv (.int (nI 60) :: .int (nI 4) :: st) := by
  refine gb_sz C hcn fun H locs ls hsz hP hS hl => ?_
  have r := C.R
  refine w_mna (n := nI 4) (k := nI 60) C.x C.b C.o (C.t _ hcl) C.Z.1.2.2 (C.t _ qA_long) hsz (nI_clamp (by decide)) (nI_clamp (by decide)) (nI_pos (by decide)) (nI_pos (by decide)) (by omega) (by omega) hd (fun cA comp H1 fA fC z1 old f2 fi => ?_)
  have h2 : (ys Y).vm.findClass ("[" ++ FieldType.long.toString) = some (E.2.1 2) := (C.K.ar (t := 2) (ty := .long) rfl).2
  have h5 : (ys Y).vm.findClass ("[" ++ (FieldType.array FieldType.long).toString) = some (E.2.1 5) := (C.K.ar (t := 5) (ty := .array .long) rfl).2
  rw [show "[" ++ FieldType.long.toString = "[J" from by decide +kernel] at h2
  rw [show "[" ++ (FieldType.array FieldType.long).toString = "[[J" from by decide +kernel] at h5
  have c2 : comp = E.2.1 2 := Option.some.inj (fC.symm.trans h2)
  have c5 : cA = E.2.1 5 := Option.some.inj (fA.symm.trans h5)
  subst c2
  subst c5
  refine k H1 _ ls ?_ ?_ hl
  · intro q x hx
    obtain ⟨h1, h2⟩ := wlD_in hx
    rw [h2]
    by_cases a : q < n
    · exact (hP q _ (wlD_at a)).kept (old _ (by show E.2.2 + q < E.2.2 + n; omega))
    · by_cases b : q = n
      · subst b
        rw [hD0]
        show H1[E.2.2 + q]? = some (arrV (E.2.1 5) 4 (fun j => va_rf (if j < 4 then some (E.2.2 + q + 1 + j) else none)))
        rw [f2]
        refine congrArg some (congrArg (arrV _ _) (funext fun j => ?_))
        by_cases h : j < 4
        · rw [if_pos h, if_pos h]
          rfl
        · rw [if_neg h, if_neg h]
          rfl
      · obtain ⟨j, rfl⟩ : ∃ j, q = n + 1 + j := ⟨q - n - 1, by omega⟩
        rw [hD1 j (by omega)]
        show H1[E.2.2 + (n + 1 + j)]? = some (arrV (E.2.1 2) 60 (fun _ => .long 0))
        rw [show E.2.2 + (n + 1 + j) = E.2.2 + n + 1 + j by omega]
        exact fi j (by omega)
  · refine ⟨?_, fun q g1 g2 => ?_, fun q hq => ?_⟩
    · have := hS.1
      omega
    · exact (old q (by have := hS.1; omega)).trans (hS.2.1 q g1 g2)
    · rcases List.mem_append.mp hq with h | h
      · exact hS.2.2 q h
      · obtain ⟨j, -, rfl⟩ := List.mem_map.mp h
        show E.2.2 ≤ E.2.2 + n
        omega
