/-! ===== more rows while objects are made ===== -/
section BROWS3
variable {E : wEnv} {Y : YT} {cc : ByteArray} {nL d n0 CC SS : Nat} {own : String} {D D' : Dw} {n c w pc : Nat} {lv lv' : LV} {st : List Value}
theorem gb_iload (C : Cb E Y cc nL own d n0 CC SS) {i : Nat} {x : Int32} (hd : decode cc pc = .ok (.iload i, 2)) (hx : lk lv i = some (.int x)) (k : Gb E Y nL D n c w (pc + 2) lv (.int x :: st)) : Gb E Y nL D n c w pc lv st := by
  intro H locs ls hP hS hl
  exact lv_iload C.x C.b hd (lv_lk hl hx) (k H locs ls hP hS hl)
theorem gb_istore (C : Cb E Y cc nL own d n0 CC SS) {i : Nat} {x : Int32} (hd : decode cc pc = .ok (.istore i, 2)) (hn : Nat.blt i nL = true) (k : Gb E Y nL D n c w (pc + 2) (st1 lv i (.int x)) st) : Gb E Y nL D n c w pc lv (.int x :: st) := by
  intro H locs ls hP hS hl
  exact lv_istore C.x C.b hd hl (Nat.le_of_ble_eq_true hn) rfl (fun ls hl => k H locs ls hP hS hl)
theorem gb_lload_n (C : Cb E Y cc nL own d n0 CC SS) {m : Fin 4} {i : Nat} {x : Int64} (hd : decode cc pc = .ok (.lload_n m, 1)) (hi : (m : Nat) = i) (hx : lk lv i = some (.long x)) (k : Gb E Y nL D n c w (pc + 1) lv (.long x :: st)) : Gb E Y nL D n c w pc lv st := by
  intro H locs ls hP hS hl
  exact lv_lload_n C.x C.b hd hi (lv_lk hl hx) (k H locs ls hP hS hl)
theorem gb_lstore_n (C : Cb E Y cc nL own d n0 CC SS) {m : Fin 4} {i : Nat} {x : Int64} (hd : decode cc pc = .ok (.lstore_n m, 1)) (hi : (m : Nat) = i) (hn : Nat.blt (i + 1) nL = true) (k : Gb E Y nL D n c w (pc + 1) (st2 lv i (.long x)) st) : Gb E Y nL D n c w pc lv (.long x :: st) := by
  intro H locs ls hP hS hl
  exact lv_lstore_n C.x C.b hd hi hl (Nat.le_of_ble_eq_true hn) rfl (fun ls hl => k H locs ls hP hS hl)
theorem gb_icmp_ge (C : Cb E Y cc nL own d n0 CC SS) {x y : Int32} {off : Int} {tgt : Nat} (hd : decode cc pc = .ok (.if_icmp .ge off, 3)) (ht : (pc : Int) + off = (tgt : Int)) (kt : y ≤ x → Gb E Y nL D n c w tgt lv st) (kf : ¬ y ≤ x → Gb E Y nL D n c w (pc + 3) lv st) : Gb E Y nL D n c w pc lv (.int y :: .int x :: st) := by
  intro H locs ls hP hS hl
  exact lv_icmp_ge C.x C.b hd ht (fun h => kt h H locs ls hP hS hl) (fun h => kf h H locs ls hP hS hl)
theorem gb_icmp_gt (C : Cb E Y cc nL own d n0 CC SS) {x y : Int32} {off : Int} {tgt : Nat} (hd : decode cc pc = .ok (.if_icmp .gt off, 3)) (ht : (pc : Int) + off = (tgt : Int)) (kt : y < x → Gb E Y nL D n c w tgt lv st) (kf : ¬ y < x → Gb E Y nL D n c w (pc + 3) lv st) : Gb E Y nL D n c w pc lv (.int y :: .int x :: st) := by
  intro H locs ls hP hS hl
  exact lv_icmp_gt C.x C.b hd ht (fun h => kt h H locs ls hP hS hl) (fun h => kf h H locs ls hP hS hl)
theorem gb_icmp_ne (C : Cb E Y cc nL own d n0 CC SS) {x y : Int32} {off : Int} {tgt : Nat} (hd : decode cc pc = .ok (.if_icmp .ne off, 3)) (ht : (pc : Int) + off = (tgt : Int)) (kt : ¬ x = y → Gb E Y nL D n c w tgt lv st) (kf : x = y → Gb E Y nL D n c w (pc + 3) lv st) : Gb E Y nL D n c w pc lv (.int y :: .int x :: st) := by
  intro H locs ls hP hS hl
  exact lv_icmp_ne C.x C.b hd ht (fun h => kt h H locs ls hP hS hl) (fun h => kf h H locs ls hP hS hl)
theorem gb_ldc2 (C : Cb E Y cc nL own d n0 CC SS) {idx : Nat} {v : Int64} (hd : decode cc pc = .ok (.ldc2_w idx, 3)) (hc : Cond.constantLong own idx v ∈ WT) (k : Gb E Y nL D n c w (pc + 3) lv (.long v :: st)) : Gb E Y nL D n c w pc lv st := by
  intro H locs ls hP hS hl
  exact lv_ldc2 C.x C.b C.o (C.t _ hc) hd (k H locs ls hP hS hl)
theorem gb_lmul (C : Cb E Y cc nL own d n0 CC SS) {x y : Int64} (hd : decode cc pc = .ok (.lmul, 1)) (k : Gb E Y nL D n c w (pc + 1) lv (.long (x * y) :: st)) : Gb E Y nL D n c w pc lv (.long y :: .long x :: st) := by
  intro H locs ls hP hS hl
  exact lv_lmul C.x C.b hd (k H locs ls hP hS hl)
theorem gb_ladd (C : Cb E Y cc nL own d n0 CC SS) {x y : Int64} (hd : decode cc pc = .ok (.ladd, 1)) (k : Gb E Y nL D n c w (pc + 1) lv (.long (x + y) :: st)) : Gb E Y nL D n c w pc lv (.long y :: .long x :: st) := by
  intro H locs ls hP hS hl
  exact lv_ladd C.x C.b hd (k H locs ls hP hS hl)
theorem gb_iadd (C : Cb E Y cc nL own d n0 CC SS) {x y : Int32} (hd : decode cc pc = .ok (.iadd, 1)) (k : Gb E Y nL D n c w (pc + 1) lv (.int (x + y) :: st)) : Gb E Y nL D n c w pc lv (.int y :: .int x :: st) := by
  intro H locs ls hP hS hl
  exact lv_iadd C.x C.b hd (k H locs ls hP hS hl)
theorem gb_isub (C : Cb E Y cc nL own d n0 CC SS) {x y : Int32} (hd : decode cc pc = .ok (.isub, 1)) (k : Gb E Y nL D n c w (pc + 1) lv (.int (x - y) :: st)) : Gb E Y nL D n c w pc lv (.int y :: .int x :: st) := by
  intro H locs ls hP hS hl
  exact lv_isub C.x C.b hd (k H locs ls hP hS hl)
theorem gb_i2l (C : Cb E Y cc nL own d n0 CC SS) {x : Int32} {v : Int64} (hd : decode cc pc = .ok (.i2l, 1)) (hv : x.toInt64 = v) (k : Gb E Y nL D n c w (pc + 1) lv (.long v :: st)) : Gb E Y nL D n c w pc lv (.int x :: st) := by
  subst hv
  intro H locs ls hP hS hl
  exact lv_i2l C.x C.b hd rfl (k H locs ls hP hS hl)
/-- a nest mate's constructor -/
theorem gb_initN (C : Cb E Y cc nL own d n0 CC SS) {y : MethodName} {cc' : ByteArray} {nL' dd C' S' idx q n' : Nat} (hd : decode cc pc = .ok (.invokespecial idx, 3)) (K : Mb E y cc' nL' dd C' S' q D n D' n') (hl : (own, idx, y) ∈ nLk) (hin : Cond.instanceMethod y ∈ WT) (hini : Cond.initialized y.cls ∈ WT) (hcode : Cond.code y cc' nL' none ∈ WT) (hy : y.name = "<init>")
    (hy2 : y.cls ≠ "java/lang/invoke/MethodHandle" ∧ y.cls ≠ "java/lang/invoke/VarHandle" ∧ (parseMethodDescriptor y.desc).map (fun d => d.parameters.length) = some 0) (hdd : dd + 1 ≤ d) (hnL : nL' ≤ 45) (hcn : n0 + c = n) (hc : c + C' ≤ CC) (hs : w + S' ≤ SS) (hst : Nat.ble (st.map fun v => v.category).sum 8 = true)
    (k : Gb E Y nL D' n' (c + C') (w + S') (pc + 3) lv st) : Gb E Y nL D n c w pc lv (.ref (E.2.2 + q) :: st) := by
  refine gb_sz C hcn fun H locs ls hsz hP hS hl' => ?_
  have r := C.R
  have hlk : va_Nw (Cond.methodLinkNest own idx y RX10) (ys Y) := C.Z.2.1 _ hl
  have hr := va_runIN (p := yp Y) (l := yl Y) (e := ye Y) (R := yR Y) (s := ys Y) (m := ym Y) (args := ya Y) (below := yb Y) (meth := yM Y) (c := yc Y) (H := H) (locs := locs) (cells := c) (slots := w) (g := F0 (ym Y) pc ls (.ref (E.2.2 + q) :: st)) (b := E.2.2 + q) (As := []) (rest := st) ⟨C.x, C.b, C.2.2.1, C.o, C.t⟩ (K (yl Y)) ⟨va_cnB 0 C.t (goodIn_WT hcode) rfl rfl rfl hlk (C.t _ hini) hy2 ⟨by show dd + 1 + 1 ≤ _; omega, by show 8 + (nL' + 11) + (12 + 64 * dd) ≤ _; omega⟩, hy, C.t _ hin⟩
    ⟨Pbblind, fun U hU hW1 => ⟨rfl, by rw [hU]; exact hsz, by rw [hU]; exact hP, Kx.moved hW1.alike C.K, by rw [hU]; exact (Zl.kept C.Z (fun a h1 h2 => hS.2.1 a h1 h2)).warm hW1⟩⟩ rfl rfl hl'.1 rfl (lv_room (Nat.le_of_ble_eq_true hst)) hd ⟨Nat.le_trans hc r.2.2.1, Nat.le_trans hs r.2.2.2⟩
  intro T hT X
  obtain ⟨v2, st₀, t, T', L, h0, X', hL, e1, e2, ⟨hv, hz', hP', hK', hz, hk⟩, go⟩ := hr T hT X
  have hv : v2 = none := Outcome.returned.inj hv
  subst hv
  rw [h0] at hz hk
  obtain ⟨t2, a1, b1⟩ := k T'.heap (locs ++ L) ls (by rw [e1]; exact hP')
    ⟨Nat.le_trans hS.1 (by rw [e1]; exact hz), fun q h1 h2 => by rw [e1, hk q (Nat.lt_of_lt_of_le h1 hS.1) h2]; exact hS.2.1 q h1 h2, fun q hq => by
      rcases List.mem_append.mp hq with h | h
      · exact hS.2.2 q h
      · exact hL q h⟩ hl' T' rfl X'
  exact ⟨t2, go t2 a1, b1⟩
end BROWS3
def setX (X : Nat → Option va_E) (q : Nat) (e : va_E) : Nat → Option va_E := fun j => if j = q then some e else X j
section MAKE3
variable {E : wEnv} {Y : YT} {cc : ByteArray} {nL d CC SS : Nat} {own : String} {D0 : Dw} {X X' : Nat → Option va_E} {k ci n0 n c w pc : Nat} {fs : List Value} {lv lv' : LV} {st : List Value}
theorem DXb_set {q : Nat} {e : va_E} (h : ¬ q = k) : DXb E k ci fs D0 (setX X q e) q = e := DXb_x h (if_pos rfl)
theorem DXb_ne {q j : Nat} {e : va_E} (h : ¬ j = q) : DXb E k ci fs D0 (setX X q e) j = DXb E k ci fs D0 X j := by
  unfold DXb setX
  rw [if_neg h]
theorem gd_cx (h : ∀ j, j < n → X' j = X j) (kk : Gb E Y nL (DXb E k ci fs D0 X') n c w pc lv st) : Gb E Y nL (DXb E k ci fs D0 X) n c w pc lv st := by
  refine gb_cong (fun j hj => ?_) kk
  unfold DXb
  rw [h j hj]
theorem gd_up {q : Nat} {e : va_E} (h : ¬ q = k) (kk : Gb E Y nL (DXb E k ci fs D0 (setX X q e)) n c w pc lv st) : Gb E Y nL (upD (DXb E k ci fs D0 X) q e) n c w pc lv st := by
  refine gb_cong (fun j hj => ?_) kk
  unfold upD
  by_cases e2 : j = q
  · rw [if_pos e2, e2, DXb_set h]
  · rw [if_neg e2, DXb_ne e2]
theorem gd_col {q : Nat} {e e' : va_E} (kk : Gb E Y nL (DXb E k ci fs D0 (setX X q e')) n c w pc lv st) : Gb E Y nL (DXb E k ci fs D0 (setX (setX X q e) q e')) n c w pc lv st := by
  refine gd_cx (fun j _ => ?_) kk
  unfold setX
  by_cases h : j = q
  · rw [if_pos h, if_pos h]
  · rw [if_neg h, if_neg h, if_neg h]
theorem setX_at {q : Nat} {e : va_E} : setX X q e q = some e := if_pos rfl
theorem setX_hi {q : Nat} {e : va_E} (hq : Nat.blt q n = true) (h : ∀ j, n ≤ j → X j = none) : ∀ j, n ≤ j → setX X q e j = none := fun j hj => by
  have hq := Nat.le_of_ble_eq_true hq
  unfold setX
  rw [if_neg (by omega), h j hj]
theorem nX_hi : ∀ j, n ≤ j → nX j = none := fun _ _ => rfl
theorem gd_iast (C : Cb E Y cc nL own d n0 CC SS) {q N : Nat} {x v : Int32} {f : Nat → Int32} (hd : decode cc pc = .ok (.iastore, 1)) (hq : Nat.blt q n = true) (hk : Nat.beq q k = false) (hin : vp_in x N) (kk : Gb E Y nL (DXb E k ci fs D0 (setX X q (.inl (E.2.1 0, N, .inl (upd f x.toNatClampNeg v))))) n c w (pc + 1) lv st) : Gb E Y nL (DXb E k ci fs D0 (setX X q (.inl (E.2.1 0, N, .inl f)))) n c w pc lv (.int v :: .int x :: .ref (E.2.2 + q) :: st) :=
  gb_iast C hd (Nat.le_of_ble_eq_true hq) (DXb_set (Nat.ne_of_beq_eq_false hk)) hin (gd_up (Nat.ne_of_beq_eq_false hk) (gd_col kk))
theorem gd_last (C : Cb E Y cc nL own d n0 CC SS) {q N : Nat} {x : Int32} {v : Int64} {f : Nat → Int64} (hd : decode cc pc = .ok (.lastore, 1)) (hq : Nat.blt q n = true) (hk : Nat.beq q k = false) (hin : vp_in x N) (kk : Gb E Y nL (DXb E k ci fs D0 (setX X q (.inl (E.2.1 2, N, .inr (.inl (vp_updL f x.toNatClampNeg v)))))) n c w (pc + 1) lv st) : Gb E Y nL (DXb E k ci fs D0 (setX X q (.inl (E.2.1 2, N, .inr (.inl f))))) n c w pc lv (.long v :: .int x :: .ref (E.2.2 + q) :: st) :=
  gb_last C hd (Nat.le_of_ble_eq_true hq) (DXb_set (Nat.ne_of_beq_eq_false hk)) hin (gd_up (Nat.ne_of_beq_eq_false hk) (gd_col kk))
theorem gd_aast (C : Cb E Y cc nL own d n0 CC SS) {q q2 t N ci2 : Nat} {r : vw_C} {x : Int32} {vs : List Value} {f : Nat → Option Nat} (hd : decode cc pc = .ok (.aastore, 1)) (hq : Nat.blt q n = true) (hq2 : Nat.blt q2 n = true) (hk : Nat.beq q k = false) (hk2 : Nat.blt k q2 = true) (hx2 : X q2 = none) (h2 : Nat.beq q2 q = false) (he2 : FIN E q2 = .inr (ci2, vs)) (hc : vwCl[ci2]? = some r) (ht : (tysL E)[t]? = some (E.2.1 t, .object r.1)) (hin : vp_in x N)
    (kk : Gb E Y nL (DXb E k ci fs D0 (setX X q (.inl (E.2.1 t, N, .inr (.inr (.inr (.inr (va_up f x.toNatClampNeg (some (E.2.2 + q2)))))))))) n c w (pc + 1) lv st) : Gb E Y nL (DXb E k ci fs D0 (setX X q (.inl (E.2.1 t, N, .inr (.inr (.inr (.inr f))))))) n c w pc lv (.ref (E.2.2 + q2) :: .int x :: .ref (E.2.2 + q) :: st) :=
  gb_aast C hd (Nat.le_of_ble_eq_true hq) (Nat.le_of_ble_eq_true hq2) (DXb_set (Nat.ne_of_beq_eq_false hk)) ((DXb_n (Nat.le_of_ble_eq_true hk2) (by unfold setX; rw [if_neg (Nat.ne_of_beq_eq_false h2), hx2])).trans he2) hc ht hin (gd_up (Nat.ne_of_beq_eq_false hk) (gd_col kk))
theorem gd_newq (C : Cb E Y cc nL own d n0 CC SS) {CN : String} {t N idx : Nat} {x : Int32} (hd : decode cc pc = .ok (.anewarray idx, 3)) (hcl : Cond.classLink own idx CN ∈ WT) (hao : va_AO CN (ys Y)) (ht : (tysL E)[t]? = some (E.2.1 t, .object CN)) (hx : x = nI N) (hN : Nat.blt N 10000 = true) (hcn : Nat.beq (n0 + c) n = true) (hc : Nat.ble (c + 1) CC = true) (hs : Nat.ble (w + N) SS = true) (hk : Nat.blt k n = true)
    (kk : Gb E Y nL (DXb E k ci fs D0 (setX X n (.inl (E.2.1 t, N, .inr (.inr (.inr (.inr (fun _ => none)))))))) (n + 1) (c + 1) (w + N) (pc + 3) lv (.ref (E.2.2 + n) :: st)) : Gb E Y nL (DXb E k ci fs D0 X) n c w pc lv (.int x :: st) := by
  have hk := Nat.le_of_ble_eq_true hk
  exact gb_newq C hd hcl hao ht hx (Nat.le_of_ble_eq_true hN) (Nat.eq_of_beq_eq_true hcn) (Nat.le_of_ble_eq_true hc) (Nat.le_of_ble_eq_true hs) (gd_up (by omega) kk)
theorem gd_getk (C : Cb E Y cc nL own d n0 CC SS) {N idx f : Nat} {CN : String} {T : u_T} {v : Value} (hd : decode cc pc = .ok (.getfield idx, 3)) (hq : Nat.blt k n = true) (hc : vwCl[ci]? = some (CN, T, N)) (hk : Nat.blt f N = true) (hlay : ∀ w ∈ u_ws CN T N, w ∈ WT) (hl : Cond.fieldLink own idx own (T f).2.1 (T f).2.2.1 ∈ WT) (hr : (T f).1 = own) (hv : fs[f]? = some v) (kk : Gb E Y nL (DXb E k ci fs D0 X) n c w (pc + 3) lv (v :: st)) : Gb E Y nL (DXb E k ci fs D0 X) n c w pc lv (.ref (E.2.2 + k) :: st) :=
  gb_get C hd (Nat.le_of_ble_eq_true hq) DXb_k hc (Nat.le_of_ble_eq_true hk) hlay hl hr hv kk
/-- a row is as it will be -/
theorem gd_drop {q : Nat} {e : va_E} (hk : Nat.blt k q = true) (hX : X q = none) (he : ∀ H : Heap, va_at E.1 vwCl (E.2.2 + q, e) H → va_at E.1 vwCl (E.2.2 + q, FIN E q) H) (kk : Gb E Y nL (DXb E k ci fs D0 X) n c w pc lv st) : Gb E Y nL (DXb E k ci fs D0 (setX X q e)) n c w pc lv st := by
  have hk := Nat.le_of_ble_eq_true hk
  refine gb_sem (fun H j hj h => ?_) kk
  by_cases e2 : j = q
  · subst e2
    rw [DXb_n (by omega) hX]
    rw [DXb_set (by omega)] at h
    exact he H h
  · rw [DXb_ne e2] at h
    exact h
theorem gd_makeN (C : Cb E Y cc nL own d n0 CC SS) {CN : String} {T : u_T} {N ci2 idx idx2 nL' dd C' S' : Nat} {ty : Nat → FieldType} {fs2 : List Value} {y : MethodName} {cc' : ByteArray} (hd1 : decode cc pc = .ok (.new idx, 3)) (hd2 : decode cc (pc + 3) = .ok (.dup, 1)) (hd3 : decode cc (pc + 4) = .ok (.invokespecial idx2, 3)) (hlay : ∀ w ∈ u_ws CN T N, w ∈ WT) (hty : ∀ k, k < N → parseFieldDescriptor (T k).2.2.1 = some (ty k)) (hcl : Cond.classLink own idx CN ∈ WT) (hinst : Cond.instantiable CN N ∈ WT) (hini : Cond.initialized CN ∈ WT) (hci : vwCl[ci2]? = some (CN, T, N)) (hfs : ∀ j, j < N → defaultValue (ty j) = vp_V fs2 j)
    (K : ∀ D : Dw, D n = .inr (ci2, fs2) → Mb E y cc' nL' dd C' S' n D (n + 1) (dF E n D) (n + 1 + C')) (hl : (own, idx2, y) ∈ nLk) (hin : Cond.instanceMethod y ∈ WT) (hini2 : Cond.initialized y.cls ∈ WT) (hcode : Cond.code y cc' nL' none ∈ WT) (hy : y.name = "<init>")
    (hy2 : y.cls ≠ "java/lang/invoke/MethodHandle" ∧ y.cls ≠ "java/lang/invoke/VarHandle" ∧ (parseMethodDescriptor y.desc).map (fun d => d.parameters.length) = some 0) (hdd : Nat.ble (dd + 1) d = true) (hnL : Nat.ble nL' 45 = true) (hcn : Nat.beq (n0 + c) n = true) (hc : Nat.ble (c + 1 + C') CC = true) (hs : Nat.ble (w + N + S') SS = true) (hst : Nat.ble ((Value.ref (E.2.2 + n) :: st).map fun v => v.category).sum 8 = true) (hk : Nat.blt k n = true) (hX : ∀ j, n ≤ j → X j = none)
    (kk : Gb E Y nL (DXb E k ci fs D0 X) (n + 1 + C') (c + 1 + C') (w + N + S') (pc + 7) lv (.ref (E.2.2 + n) :: st)) : Gb E Y nL (DXb E k ci fs D0 X) n c w pc lv st := by
  have hk := Nat.le_of_ble_eq_true hk
  have hcn := Nat.eq_of_beq_eq_true hcn
  have hc := Nat.le_of_ble_eq_true hc
  have hs := Nat.le_of_ble_eq_true hs
  refine gb_new C hd1 hlay hty hcl hinst hini hci hfs hcn (by omega) (by omega) ?_
  refine gb_dup C hd2 rfl ?_
  refine gb_initN C hd3 (K _ upD_at) hl hin hini2 hcode hy hy2 (Nat.le_of_ble_eq_true hdd) (Nat.le_of_ble_eq_true hnL) (by omega) hc hs hst (gb_cong (fun j hj => ?_) kk)
  show DXb E k ci fs D0 X j = (if n ≤ j then FIN E j else upD _ n _ j)
  by_cases e : n ≤ j
  · rw [if_pos e, DXb_n (by omega) (hX j e)]
  · rw [if_neg e, upD_ne (by omega)]
end MAKE3
theorem arrV_cg {cA : ClassId} {N : Nat} {f g : Nat → Value} (h : ∀ j, j < N → f j = g j) : arrV cA N f = arrV cA N g := by
  unfold arrV
  congr 1
  apply Array.ext_getElem?
  intro i
  by_cases hi : i < N
  · simp [hi, h i hi]
  · simp [hi]
theorem at_cgq {E : wEnv} {a N : Nat} {cA : ClassId} {f g : Nat → Option Nat} {H : Heap} (h : ∀ j, j < N → f j = g j) (k : va_at E.1 vwCl (a, .inl (cA, N, .inr (.inr (.inr (.inr f))))) H) : va_at E.1 vwCl (a, .inl (cA, N, .inr (.inr (.inr (.inr g))))) H := by
  have k : H[a]? = some (arrV cA N (fun j => va_rf (f j))) := k
  show H[a]? = some (arrV cA N (fun j => va_rf (g j)))
  rw [k, arrV_cg (fun j hj => by rw [h j hj])]
theorem at_cgi {E : wEnv} {a N : Nat} {cA : ClassId} {f g : Nat → Int32} {H : Heap} (h : ∀ j, j < N → f j = g j) (k : va_at E.1 vwCl (a, .inl (cA, N, .inl f)) H) : va_at E.1 vwCl (a, .inl (cA, N, .inl g)) H := by
  have k : H[a]? = some (arrV cA N (fun j => .int (f j))) := k
  show H[a]? = some (arrV cA N (fun j => .int (g j)))
  rw [k, arrV_cg (fun j hj => by rw [h j hj])]
