/-! ===== a field put, the fields told anew ===== -/
theorem gd_putL {E : wEnv} {Y : YT} {cc : ByteArray} {nL d CC SS : Nat} {own : String} {D0 : Dw} {X : Nat → Option va_E} {k ci n0 n c w pc : Nat} {fs fs' : List Value} {lv : LV} {st : List Value} (C : Cb E Y cc nL own d n0 CC SS) (hin : (yM Y).name = "<init>") {N idx f : Nat} {CN : String} {T : u_T} {ty0 : Nat → FieldType} {v : Value} (hd : decode cc pc = .ok (.putfield idx, 3)) (hq : Nat.blt k n = true) (hc : vwCl[ci]? = some (CN, T, N)) (hk : Nat.blt f N = true) (hlay : ∀ w ∈ u_ws CN T N, w ∈ WT) (hty : ∀ k, k < N → parseFieldDescriptor (T k).2.2.1 = some (ty0 k)) (hnm : ∀ a, a < N → ∀ b, b < N → a ≠ b → (T a).2.1 ≠ (T b).2.1)
    (hl : Cond.fieldLink own idx own (T f).2.1 (T f).2.2.1 ∈ WT) (hr : (T f).1 = own) (hn : narrow (ty0 f) v = v) (hfit : fits (ty0 f) v = true) (hlen : Nat.blt f fs.length = true) (hfs : fs.set f v = fs') (kk : Gb E Y nL (DXb E k ci fs' D0 X) n c w (pc + 3) lv st) : Gb E Y nL (DXb E k ci fs D0 X) n c w pc lv (v :: .ref (E.2.2 + k) :: st) := by
  subst hfs
  exact gd_put C hin hd hq hc hk hlay hty hnm hl hr hn hfit hlen kk
theorem gd_sw {E : wEnv} {Y : YT} {nL : Nat} {D0 : Dw} {X : Nat → Option va_E} {k ci n c w pc a b : Nat} {ea eb : va_E} {fs : List Value} {lv : LV} {st : List Value} (h : ¬ a = b) (kk : Gb E Y nL (DXb E k ci fs D0 (setX (setX X b eb) a ea)) n c w pc lv st) : Gb E Y nL (DXb E k ci fs D0 (setX (setX X a ea) b eb)) n c w pc lv st := by
  refine gd_cx (fun j _ => ?_) kk
  unfold setX
  by_cases h1 : j = a
  · rw [if_pos h1, if_neg (by omega), if_pos h1]
  · rw [if_neg h1, if_neg h1]
