/-! ===== contracts of constructors; the rows for an object that is being made ===== -/
def Pb (E : wEnv) (D : Dw) (n : Nat) : State → Prop := fun U => U.heap.size = E.2.2 + n ∧ PD E D n U.heap ∧ Kx E U ∧ Zl E U U.heap
def Qb (E : wEnv) (D' : Dw) (n' : Nat) : Array Value → State → Outcome → State → Prop := fun _ st oc t => oc = .returned none ∧ t.heap.size = E.2.2 + n' ∧ PD E D' n' t.heap ∧ Kx E t ∧ va_F (hiA E) st t
def rmb (d C S : Nat) : Room := { frames := d + 1, cells := C, slots := S, locals := 12 + 64 * d }
def Mb (E : wEnv) (y : MethodName) (cc : ByteArray) (nL d C S q : Nat) (D : Dw) (n : Nat) (D' : Dw) (n' : Nat) : Prop :=
  ∀ l : Launch, Met l y (Cond.code y cc nL none :: WT) (rmb d C S) (va_Pc [.ref (E.2.2 + q)] (Pb E D n)) (Qb E D' n') C S (hiA E)
def Rb (E : wEnv) (Y : YT) (D' : Dw) (n' C S : Nat) : Prop := (yM Y).locks = false ∧ (yM Y).sig.returnType = none ∧ yQ Y = MQ (yb Y) (Qb E D' n') (ya Y) (ys Y) C S (hiA E)
theorem mb_intro {E : wEnv} {y : MethodName} {cc : ByteArray} {nL d C S q n n' : Nat} {D D' : Dw} {own : String} (hy : plainName y.cls = true) (hn : y.name = "<init>") (ho : y.cls = own) (hlen : 1 ≤ nL)
    (body : ∀ Y : YT, Cb E Y cc nL own d n C S → (yM Y).name = "<init>" → Rb E Y D' n' C S → Gb E Y nL D n 0 0 0 [(0, .ref (E.2.2 + q))] []) : Mb E y cc nL d C S q D n D' n' := by
  intro l
  refine Met.ofW (cc := cc) (maxL := nL) (ret := none) hy rfl ?_
  intro p e s m args below meth c s₁ B hml hv
  obtain ⟨rfl, hsz, hP, hK, hZ⟩ := hv
  have hts := atoms_spec (ws := Cond.code y cc nL none :: WT) B.pre
  have hown : s.vm.findClass own = some m.cls := by rw [← ho]; exact findClass_of_methodNamed B.named
  have hin : meth.name = "<init>" := by rw [(name_of_methodNamed B.named B.method).1]; exact hn
  rw [lg_entry_eq]
  have hb := body (p, l, e, rmb d C S, s, m, [Value.ref (E.2.2 + q)].toArray, below, meth, c, MQ below (Qb E D' n') [Value.ref (E.2.2 + q)].toArray s C S (hiA E), inB E, 0, 0)
    ⟨B.exec, B.bytes, hml, hown, fun w h => hts w (List.mem_cons_of_mem _ h), hK, hZ, ⟨Nat.le_refl _, Nat.le_refl _, Nat.le_refl _, Nat.le_refl _⟩, hsz⟩ hin
    ⟨B.notSynchronized, B.returns, rfl⟩
  refine hb s.heap [] _ hP va_S.rf ?_
  exact lv_entry [.ref (E.2.2 + q)] hlen
section BCALL
variable {E : wEnv} {Y : YT} {cc : ByteArray} {nL d n0 CC SS : Nat} {own : String} {D D' : Dw} {n c w pc : Nat} {lv lv' : LV} {st : List Value}
theorem gb_vret (C : Cb E Y cc nL own d n0 CC SS) {D' : Dw} (R : Rb E Y D' n c w) (hd : decode cc pc = .ok (.return_, 1)) (hcn : n0 + c = n) (h : ∀ j, j < n → D' j = D j) : Gb E Y nL D n c w pc lv [] := by
  refine gb_cong h ?_
  refine gb_sz C hcn fun H locs ls hsz hP hS hl => ?_
  obtain ⟨hlk, hret, hQ⟩ := R
  rw [hQ]
  exact W.vret C.x C.b hret (fun t ht hw => ⟨rfl, by rw [ht]; exact hsz, by rw [ht]; exact hP, Kx.moved hw.alike C.K, hS.F ht⟩) hS.2.2 hd hlk
theorem Pbblind {av : List Value} : FrameBlind (va_Pc av (Pb E D n)) := fun a U g mk q => by
  obtain ⟨q0, q1, q2, q3, q4⟩ := q
  exact ⟨q0, q1, q2, Kx.moved (u := U) (U := U.calling g mk a) (Vm.Alike.refl U.vm) q3, Zl.same (u := U) (U := U.calling g mk a) rfl q4⟩
theorem gb_init (C : Cb E Y cc nL own d n0 CC SS) {y : MethodName} {cc' : ByteArray} {nL' dd C' S' idx q n' : Nat} (hd : decode cc pc = .ok (.invokespecial idx, 3)) (K : Mb E y cc' nL' dd C' S' q D n D' n') (hl : Cond.methodLink own idx y ∈ WT) (hin : Cond.instanceMethod y ∈ WT) (hini : Cond.initialized y.cls ∈ WT) (hcode : Cond.code y cc' nL' none ∈ WT) (hy : y.name = "<init>")
    (hy2 : y.cls ≠ "java/lang/invoke/MethodHandle" ∧ y.cls ≠ "java/lang/invoke/VarHandle" ∧ (parseMethodDescriptor y.desc).map (fun d => d.parameters.length) = some 0) (hdd : dd + 1 ≤ d) (hnL : nL' ≤ 45) (hcn : n0 + c = n) (hc : c + C' ≤ CC) (hs : w + S' ≤ SS) (hst : Nat.ble (st.map fun v => v.category).sum 8 = true)
    (k : Gb E Y nL D' n' (c + C') (w + S') (pc + 3) lv st) : Gb E Y nL D n c w pc lv (.ref (E.2.2 + q) :: st) := by
  refine gb_sz C hcn fun H locs ls hsz hP hS hl' => ?_
  have r := C.R
  have hr := va_runI (p := yp Y) (l := yl Y) (e := ye Y) (R := yR Y) (s := ys Y) (m := ym Y) (args := ya Y) (below := yb Y) (meth := yM Y) (c := yc Y) (H := H) (locs := locs) (cells := c) (slots := w) (g := F0 (ym Y) pc ls (.ref (E.2.2 + q) :: st)) (b := E.2.2 + q) (As := []) (rest := st) ⟨C.x, C.b, C.2.2.1, C.o, C.t⟩ (K (yl Y)) (cwI 0 C.t (goodIn_WT hcode) rfl rfl rfl (C.t _ hini) (C.t _ hl) (C.t _ hin) hy hy2 ⟨by show dd + 1 + 1 ≤ _; omega, by show 8 + (nL' + 11) + (12 + 64 * dd) ≤ _; omega⟩)
    ⟨Pbblind, fun U hU hW1 => ⟨rfl, by rw [hU]; exact hsz, by rw [hU]; exact hP, Kx.moved hW1.alike C.K, by rw [hU]; exact (Zl.kept C.Z (fun a h1 h2 => hS.2.1 a h1 h2)).warm hW1⟩⟩ rfl rfl hl'.1 rfl (lv_room (Nat.le_of_ble_eq_true hst)) hd ⟨Nat.le_trans hc r.2.2.1, Nat.le_trans hs r.2.2.2⟩
  intro T hT X
  obtain ⟨v2, st₀, t, T', L, h0, X', hL, e1, e2, ⟨hv, hz', hP', hK', hz, hk⟩, go⟩ := hr T hT X
  have hv : v2 = none := Outcome.returned.inj hv
  subst hv
  rw [h0] at hz hk
  obtain ⟨t2, a1, b1⟩ := k T'.heap (locs ++ L) ls (by rw [e1]; exact hP')
    ⟨Nat.le_trans hS.1 (by rw [e1]; exact hz), fun q h1 h2 => by rw [e1, hk q (Nat.lt_of_lt_of_le h1 hS.1) h2]; exact hS.2.1 q h1 h2, fun q hq => by
      rcases List.mem_append.mp hq with h | h
      · exact hS.2.2 q h
      · exact hL q h⟩ hl' T' rfl X'
  exact ⟨t2, go t2 a1, b1⟩
end BCALL
/-- the memory at first -/
def mI (c _i j : Nat) : Int32 :=
  if c = 0 then (if j = 15 ∨ j = 16 then -1 else 0) else if c = 5 then upd (upd (upd (upd (fun _ => 0) 0 (-1)) 1 (-1)) 2 (-1)) 3 (-1) j else if c = 30 then (if j = 7 ∨ j = 11 then -1 else 0) else if c = 36 then (if j = 8 then -1 else 0)
  else if c = 50 then (if j = 10 ∨ j = 11 ∨ j = 30 ∨ j = 31 then -1 else 0) else if c = 52 then (if j < 4 then -1 else 0) else if c = 55 then (if j = 8 then -1 else 0) else 0
def mL (c _i j : Nat) : Int64 := if c = 0 then (if j = 18 then 1 else 0) else if c = 50 then (if j = 3 then 1 else 0) else if c = 32 then (if j < 30 then resW j else 0) else 0
def M0 : Mem := (mI, mL)
def FIN (E : wEnv) (j : Nat) : va_E := match kORD[j]? with
  | some x => cE E M0 x.1 x.2
  | none => .inl (0, 0, .inl (fun _ => 0))
/-- the world while the object at k is made: X says what is not yet as it will be -/
def DXb (E : wEnv) (k ci : Nat) (fs : List Value) (D0 : Dw) (X : Nat → Option va_E) : Dw := fun j => if j = k then .inr (ci, fs) else match X j with
  | some e => e
  | none => if k < j then FIN E j else D0 j
def nX : Nat → Option va_E := fun _ => none
/-- what a constructor leaves -/
def dF (E : wEnv) (k : Nat) (D : Dw) : Dw := fun j => if k ≤ j then FIN E j else D j
section MAKE
variable {E : wEnv} {Y : YT} {cc : ByteArray} {nL d CC SS : Nat} {own : String} {D0 : Dw} {X : Nat → Option va_E} {k ci n0 n c w pc : Nat} {fs : List Value} {lv lv' : LV} {st : List Value}
theorem DXb_k {E : wEnv} {k ci : Nat} {fs : List Value} {D0 : Dw} {X : Nat → Option va_E} : DXb E k ci fs D0 X k = .inr (ci, fs) := if_pos rfl
theorem DXb_n {E : wEnv} {k ci : Nat} {fs : List Value} {D0 : Dw} {X : Nat → Option va_E} {j : Nat} (h : k < j) (hX : X j = none) : DXb E k ci fs D0 X j = FIN E j := by
  unfold DXb
  rw [if_neg (by omega), hX]
  exact if_pos h
theorem DXb_x {E : wEnv} {k ci : Nat} {fs : List Value} {D0 : Dw} {X : Nat → Option va_E} {j : Nat} {e : va_E} (h : ¬ j = k) (hX : X j = some e) : DXb E k ci fs D0 X j = e := by
  unfold DXb
  rw [if_neg h, hX]
theorem gd_start {D : Dw} (hD : D k = .inr (ci, fs)) (h : Gb E Y nL (DXb E k ci fs D nX) (k + 1) c w pc lv st) : Gb E Y nL D (k + 1) c w pc lv st := by
  refine gb_cong (fun j hj => ?_) h
  unfold DXb nX
  by_cases e : j = k
  · rw [if_pos e, e, hD]
  · rw [if_neg e]
    exact if_neg (by omega)
theorem gd_put (C : Cb E Y cc nL own d n0 CC SS) (hin : (yM Y).name = "<init>") {N idx f : Nat} {CN : String} {T : u_T} {ty0 : Nat → FieldType} {v : Value} (hd : decode cc pc = .ok (.putfield idx, 3)) (hq : Nat.blt k n = true) (hc : vwCl[ci]? = some (CN, T, N)) (hk : Nat.blt f N = true) (hlay : ∀ w ∈ u_ws CN T N, w ∈ WT) (hty : ∀ k, k < N → parseFieldDescriptor (T k).2.2.1 = some (ty0 k)) (hnm : ∀ a, a < N → ∀ b, b < N → a ≠ b → (T a).2.1 ≠ (T b).2.1)
    (hl : Cond.fieldLink own idx own (T f).2.1 (T f).2.2.1 ∈ WT) (hr : (T f).1 = own) (hn : narrow (ty0 f) v = v) (hfit : fits (ty0 f) v = true) (hlen : Nat.blt f fs.length = true) (kk : Gb E Y nL (DXb E k ci (fs.set f v) D0 X) n c w (pc + 3) lv st) : Gb E Y nL (DXb E k ci fs D0 X) n c w pc lv (v :: .ref (E.2.2 + k) :: st) := by
  refine gb_put C hd (Nat.le_of_ble_eq_true hq) DXb_k hc (Nat.le_of_ble_eq_true hk) hlay hty hnm hl hr hn hfit (Nat.le_of_ble_eq_true hlen) ?_ (gb_cong (fun j _ => ?_) kk)
  · cases h : (T f).2.2.2 with
    | false => exact Or.inl rfl
    | true => exact Or.inr ⟨rfl, hin, hr⟩
  · unfold DXb upD
    by_cases e : j = k
    · rw [if_pos e, if_pos e]
    · rw [if_neg e, if_neg e]
      exact (if_neg e).symm
theorem gd_newa (C : Cb E Y cc nL own d n0 CC SS) {atype : ArrayType} {ty : FieldType} {t N : Nat} {x : Int32} {a0 : vp_A} (hty : newarray.typeOf atype = ty) (hty1 : ty = .int ∨ ty = .byte ∨ ty = .long) (hd : decode cc pc = .ok (.newarray atype, 2)) (hw : Cond.arrayClass ty ∈ WT) (ht : (tysL E)[t]? = some (E.2.1 t, ty)) (ha : ∀ cA : ClassId, vp_cell cA a0 = arrV cA N (fun _ => defaultValue ty)) (hx : x = nI N) (hN : Nat.blt N 10000 = true) (hcn : Nat.beq (n0 + c) n = true) (hc : Nat.ble (c + 1) CC = true) (hs : Nat.ble (w + N) SS = true) (hk : Nat.blt k n = true) (hX : X n = none ∧ FIN E n = .inl (E.2.1 t, a0) ∨ X n = some (.inl (E.2.1 t, a0)))
    (kk : Gb E Y nL (DXb E k ci fs D0 X) (n + 1) (c + 1) (w + N) (pc + 2) lv (.ref (E.2.2 + n) :: st)) : Gb E Y nL (DXb E k ci fs D0 X) n c w pc lv (.int x :: st) := by
  have hk := Nat.le_of_ble_eq_true hk
  refine gb_newa C hty hty1 hd hw ht ha hx (Nat.le_of_ble_eq_true hN) (Nat.eq_of_beq_eq_true hcn) (Nat.le_of_ble_eq_true hc) (Nat.le_of_ble_eq_true hs) ?_ kk
  rcases hX with ⟨h1, h2⟩ | h1
  · rw [DXb_n hk h1, h2]
  · exact DXb_x (by omega) h1
/-- an object within it: new, dup, its constructor -/
theorem gd_make (C : Cb E Y cc nL own d n0 CC SS) {CN : String} {T : u_T} {N ci2 idx idx2 nL' dd C' S' : Nat} {ty : Nat → FieldType} {fs2 : List Value} {y : MethodName} {cc' : ByteArray} (hd1 : decode cc pc = .ok (.new idx, 3)) (hd2 : decode cc (pc + 3) = .ok (.dup, 1)) (hd3 : decode cc (pc + 4) = .ok (.invokespecial idx2, 3)) (hlay : ∀ w ∈ u_ws CN T N, w ∈ WT) (hty : ∀ k, k < N → parseFieldDescriptor (T k).2.2.1 = some (ty k)) (hcl : Cond.classLink own idx CN ∈ WT) (hinst : Cond.instantiable CN N ∈ WT) (hini : Cond.initialized CN ∈ WT) (hci : vwCl[ci2]? = some (CN, T, N)) (hfs : ∀ j, j < N → defaultValue (ty j) = vp_V fs2 j)
    (K : ∀ D : Dw, D n = .inr (ci2, fs2) → Mb E y cc' nL' dd C' S' n D (n + 1) (dF E n D) (n + 1 + C')) (hl : Cond.methodLink own idx2 y ∈ WT) (hin : Cond.instanceMethod y ∈ WT) (hini2 : Cond.initialized y.cls ∈ WT) (hcode : Cond.code y cc' nL' none ∈ WT) (hy : y.name = "<init>")
    (hy2 : y.cls ≠ "java/lang/invoke/MethodHandle" ∧ y.cls ≠ "java/lang/invoke/VarHandle" ∧ (parseMethodDescriptor y.desc).map (fun d => d.parameters.length) = some 0) (hdd : Nat.ble (dd + 1) d = true) (hnL : Nat.ble nL' 45 = true) (hcn : Nat.beq (n0 + c) n = true) (hc : Nat.ble (c + 1 + C') CC = true) (hs : Nat.ble (w + N + S') SS = true) (hst : Nat.ble ((Value.ref (E.2.2 + n) :: st).map fun v => v.category).sum 8 = true) (hk : Nat.blt k n = true) (hX : ∀ j, n ≤ j → X j = none)
    (kk : Gb E Y nL (DXb E k ci fs D0 X) (n + 1 + C') (c + 1 + C') (w + N + S') (pc + 7) lv (.ref (E.2.2 + n) :: st)) : Gb E Y nL (DXb E k ci fs D0 X) n c w pc lv st := by
  have hk := Nat.le_of_ble_eq_true hk
  have hcn := Nat.eq_of_beq_eq_true hcn
  have hc := Nat.le_of_ble_eq_true hc
  have hs := Nat.le_of_ble_eq_true hs
  refine gb_new C hd1 hlay hty hcl hinst hini hci hfs hcn (by omega) (by omega) ?_
  refine gb_dup C hd2 rfl ?_
  refine gb_init C hd3 (K _ upD_at) hl hin hini2 hcode hy hy2 (Nat.le_of_ble_eq_true hdd) (Nat.le_of_ble_eq_true hnL) (by omega) hc hs hst (gb_cong (fun j hj => ?_) kk)
  show DXb E k ci fs D0 X j = (if n ≤ j then FIN E j else upD _ n _ j)
  by_cases e : n ≤ j
  · rw [if_pos e, DXb_n (by omega) (hX j e)]
  · rw [if_neg e, upD_ne (by omega)]
theorem gd_ret (C : Cb E Y cc nL own d (k + 1) CC SS) {n : Nat} (R : Rb E Y (dF E k D0) n CC SS) (hd : decode cc pc = .ok (.return_, 1)) (hcn : Nat.beq (k + 1 + CC) n = true) (hf : FIN E k = .inr (ci, fs)) (hX : ∀ j, X j = none) : Gb E Y nL (DXb E k ci fs D0 X) n CC SS pc lv [] := by
  refine gb_vret C R hd (Nat.eq_of_beq_eq_true hcn) (fun j hj => ?_)
  unfold dF DXb
  by_cases e : j = k
  · rw [if_pos (by omega), if_pos e, e, hf]
  · rw [if_neg e, hX j]
    by_cases e2 : k ≤ j
    · rw [if_pos e2]
      exact (if_pos (show k < j by omega)).symm
    · rw [if_neg e2]
      exact (if_neg (show ¬ k < j by omega)).symm
end MAKE
