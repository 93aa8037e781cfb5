/-! ===== how the world is made: cells by their offsets, a judgement while they are made ===== -/
abbrev Dw : Type := Nat → va_E
def wlD (E : wEnv) (D : Dw) (n : Nat) : va_W := (List.range n).map (fun k => (E.2.2 + k, D k))
theorem wlD_at {E : wEnv} {D : Dw} {n k : Nat} (h : k < n) : (wlD E D n)[k]? = some (E.2.2 + k, D k) := by
  unfold wlD
  rw [List.getElem?_map, List.getElem?_range h]
  rfl
theorem wlD_in {E : wEnv} {D : Dw} {n k : Nat} {q : Nat × va_E} (h : (wlD E D n)[k]? = some q) : k < n ∧ q = (E.2.2 + k, D k) := by
  have hk : k < n := by
    have := (List.getElem?_eq_some_iff.mp h).1
    unfold wlD at this
    rw [List.length_map, List.length_range] at this
    exact this
  rw [wlD_at hk] at h
  exact ⟨hk, (Option.some.inj h).symm⟩
def hiA (E : wEnv) : Nat → Prop := fun q => E.2.2 ≤ q
theorem wlD_D {E : wEnv} {D : Dw} {n : Nat} : va_D (hiA E) (wlD E D n) := by
  refine ⟨fun i j p q hp hq he => ?_, fun k q hk => ?_⟩
  · have h1 := (wlD_in hp).2
    have h2 := (wlD_in hq).2
    rw [h1, h2] at he
    have he : E.2.2 + i = E.2.2 + j := he
    omega
  · rw [(wlD_in hk).2]
    show E.2.2 ≤ E.2.2 + k
    omega
def upD (D : Dw) (k : Nat) (e : va_E) : Dw := fun j => if j = k then e else D j
theorem upD_at {D : Dw} {k : Nat} {e : va_E} : upD D k e k = e := if_pos rfl
theorem upD_ne {D : Dw} {k j : Nat} {e : va_E} (h : ¬ j = k) : upD D k e j = D j := if_neg h
theorem wlD_cg {E : wEnv} {D D' : Dw} {n : Nat} (h : ∀ j, j < n → D' j = D j) : wlD E D' n = wlD E D n := by
  unfold wlD
  refine List.map_congr_left fun k hk => ?_
  rw [h k (List.mem_range.mp hk)]
theorem wlD_set {E : wEnv} {D : Dw} {n k : Nat} {e : va_E} (h : k < n) : (wlD E D n).set k (E.2.2 + k, e) = wlD E (upD D k e) n := by
  apply List.ext_getElem?
  intro j
  by_cases c : k = j
  · subst c
    rw [List.getElem?_set_self (by unfold wlD; rw [List.length_map, List.length_range]; exact h), wlD_at h, upD_at]
  · rw [List.getElem?_set_ne c]
    by_cases hj : j < n
    · rw [wlD_at hj, wlD_at hj, upD_ne (Ne.symm c)]
    · rw [List.getElem?_eq_none (by unfold wlD; rw [List.length_map, List.length_range]; omega), List.getElem?_eq_none (by unfold wlD; rw [List.length_map, List.length_range]; omega)]
theorem wlD_app {E : wEnv} {D : Dw} {n : Nat} {e : va_E} : wlD E D n ++ [(E.2.2 + n, e)] = wlD E (upD D n e) (n + 1) := by
  unfold wlD
  rw [List.range_succ, List.map_append]
  congr 1
  · refine List.map_congr_left fun k hk => ?_
    rw [upD_ne (Nat.ne_of_lt (List.mem_range.mp hk))]
  · show _ = [(E.2.2 + n, upD D n e n)]
    rw [upD_at]
def PD (E : wEnv) (D : Dw) (n : Nat) (H : Heap) : Prop := va_P E.1 vwCl (wlD E D n) H
theorem PD.sem {E : wEnv} {D D' : Dw} {n : Nat} {H : Heap} (h : PD E D n H) (hs : ∀ j, j < n → va_at E.1 vwCl (E.2.2 + j, D j) H → va_at E.1 vwCl (E.2.2 + j, D' j) H) : PD E D' n H := by
  intro k q hk
  obtain ⟨h1, h2⟩ := wlD_in hk
  rw [h2]
  exact hs k h1 (h k _ (wlD_at h1))
theorem PD.lt {E : wEnv} {D : Dw} {n : Nat} {H : Heap} (h : PD E D n H) {k : Nat} (hk : k < n) : E.2.2 + k < H.size := (h k _ (wlD_at hk)).lt
/-- the rows of references that may be made; String's literal; the flag of String -/
def AOl (U : State) : Prop := (Cond.arrayOver (.array .long)).before #[] U = true
theorem AOl.moved {u U : State} (hvm : u.vm.Alike U.vm) (h : AOl u) : AOl U := by
  have h2 : (Cond.arrayOver (.array .long)).before #[] (u.setVm U.vm) = true := (Cond.arrayOver_setVmC hvm (.array .long)).trans h
  exact h2
def sTx : String := "juror leans less stubborn price sways proof weather follows guilty free crop on hunger law most all two show talk verdict strike seat bribe mood when votes loop end stop "
def sBy : List Int32 := [106, 117, 114, 111, 114, 32, 108, 101, 97, 110, 115, 32, 108, 101, 115, 115, 32, 115, 116, 117, 98, 98, 111, 114, 110, 32, 112, 114, 105, 99, 101, 32, 115, 119, 97, 121, 115, 32, 112, 114, 111, 111, 102, 32, 119, 101, 97, 116, 104, 101, 114, 32, 102, 111, 108, 108, 111, 119, 115, 32, 103, 117, 105, 108, 116, 121, 32, 102, 114, 101, 101, 32, 99, 114, 111, 112, 32, 111, 110, 32, 104, 117, 110, 103, 101, 114, 32, 108, 97, 119, 32, 109, 111, 115, 116, 32, 97, 108, 108, 32, 116, 119, 111, 32, 115, 104, 111, 119, 32, 116, 97, 108, 107, 32, 118, 101, 114, 100, 105, 99, 116, 32, 115, 116, 114, 105, 107, 101, 32, 115, 101, 97, 116, 32, 98, 114, 105, 98, 101, 32, 109, 111, 111, 100, 32, 119, 104, 101, 110, 32, 118, 111, 116, 101, 115, 32, 108, 111, 111, 112, 32, 101, 110, 100, 32, 115, 116, 111, 112, 32]
/-- the links to nest mates' constructors -/
def nLk : List (String × Nat × MethodName) := [(RX10, 9, yX6_init), (RX10, 18, yX9_init), (RX10, 29, yX1_init), (RX10, 36, yX7_init), (RX10, 50, yX2_init), (RX10, 57, yX8_init), (RX10, 71, yX3_init), (RX10, 78, yX4_init), (RX9, 9, yX1_init), (RX9, 18, yX3_init), (RX9, 25, yX7_init), (RX0, 50, yX3_init)]
def NLs (U : State) : Prop := ∀ q ∈ nLk, va_Nw (Cond.methodLinkNest q.1 q.2.1 q.2.2 RX10) U
def Zl (E : wEnv) (U : State) (H : Heap) : Prop := (va_AO "RainJury$World" U ∧ va_AO "RainJury$Hall" U ∧ AOl U) ∧ NLs U ∧ ∃ (ak av : Nat) (fm : Value), vk_R RX5 51 sTx ak U ∧ vk_S 1 [sBy.length] [sBy] (fun _ => ak) (fun _ => av) (hiA E) U H ∧ va_Z "java/lang/String" "COMPACT_STRINGS" "Z" (.int 1) (hiA E) U H ∧ va_Z "jdk/internal/util/Preconditions" "SIOOBE_FORMATTER" "Ljava/util/function/BiFunction;" fm (hiA E) U H ∧ (fm = .null ∨ ∃ t, fm = .ref t)
theorem Zl.warm {E : wEnv} {s U : State} {H : Heap} (hW : s.WarmedH U.vm) (h : Zl E s H) : Zl E U H := by
  obtain ⟨⟨h1, h2, h3⟩, hn, ak, av, fm, h4, h5, h6, h7, h8⟩ := h
  exact ⟨⟨h1.moved hW.alike, h2.moved hW.alike, h3.moved hW.alike⟩, fun q hq => va_Nw.warmM hW (hn q hq), ak, av, fm, h4.warm hW, h5.moved hW.alike, va_Z.moved hW.alike h6, va_Z.moved hW.alike h7, h8⟩
theorem Zl.same {E : wEnv} {u U : State} {H : Heap} (hv : u.vm = U.vm) (h : Zl E u H) : Zl E U H := by
  obtain ⟨⟨h1, h2, h3⟩, hn, ak, av, fm, h4, h5, h6, h7, h8⟩ := h
  have ha : u.vm.Alike U.vm := by rw [hv]; exact Vm.Alike.refl _
  exact ⟨⟨h1.moved ha, h2.moved ha, h3.moved ha⟩, fun q hq => va_Nw.same rfl hv (hn q hq), ak, av, fm, h4.same hv.symm, h5.moved ha, va_Z.moved ha h6, va_Z.moved ha h7, h8⟩
theorem Zl.kept {E : wEnv} {U : State} {H H1 : Heap} (h : Zl E U H) (hq : ∀ a : Nat, a < H.size → ¬ hiA E a → H1[a]? = H[a]?) : Zl E U H1 := by
  obtain ⟨h0, hn, ak, av, fm, h4, h5, h6, h7, h8⟩ := h
  exact ⟨h0, hn, ak, av, fm, h4, h5.kept hq, va_Z.kept h6 hq, va_Z.kept h7 hq, h8⟩
/-- while cells are made: c cells, w slots were made here; the world has n cells by now -/
def Gb (E : wEnv) (Y : YT) (nL : Nat) (D : Dw) (n c w pc : Nat) (lv : LV) (st : List Value) : Prop :=
  ∀ (H : Heap) (locs : List Loc) (ls : Array Slot), PD E D n H → va_S (hiA E) (ys Y).heap H locs → lv_has ls nL lv →
    W (yp Y) (yl Y) (ye Y) (yR Y) (ys Y) (ym Y) (ya Y) (yb Y) (yM Y) (yc Y) H locs c w (yQ Y) (F0 (ym Y) pc ls st)
def Cb (E : wEnv) (Y : YT) (cc : ByteArray) (nL : Nat) (own : String) (d n0 C S : Nat) : Prop :=
  (yp Y).tables.exec = Jvm.exec ∧ (yc Y).code = cc ∧ (yc Y).maxLocals = nL ∧ (ys Y).vm.findClass own = some (ym Y).cls ∧ (∀ w ∈ WT, w.before (ya Y) (ys Y) = true) ∧ Kx E (ys Y) ∧ Zl E (ys Y) (ys Y).heap ∧
  (d + 1 ≤ (yR Y).frames ∧ 12 + 64 * d ≤ (yR Y).locals ∧ C ≤ (yR Y).cells ∧ S ≤ (yR Y).slots) ∧ (ys Y).heap.size = E.2.2 + n0
section BROWS
variable {E : wEnv} {Y : YT} {cc : ByteArray} {nL d n0 CC SS : Nat} {own : String} {D D' : Dw} {n c w pc : Nat} {lv lv' : LV} {st : List Value}
theorem Cb.x (C : Cb E Y cc nL own d n0 CC SS) : (yp Y).tables.exec = Jvm.exec := C.1
theorem Cb.b (C : Cb E Y cc nL own d n0 CC SS) : (yc Y).code = cc := C.2.1
theorem Cb.o (C : Cb E Y cc nL own d n0 CC SS) : (ys Y).vm.findClass own = some (ym Y).cls := C.2.2.2.1
theorem Cb.t (C : Cb E Y cc nL own d n0 CC SS) : ∀ w ∈ WT, w.before (ya Y) (ys Y) = true := C.2.2.2.2.1
theorem Cb.K (C : Cb E Y cc nL own d n0 CC SS) : Kx E (ys Y) := C.2.2.2.2.2.1
theorem Cb.Z (C : Cb E Y cc nL own d n0 CC SS) : Zl E (ys Y) (ys Y).heap := C.2.2.2.2.2.2.1
theorem Cb.R (C : Cb E Y cc nL own d n0 CC SS) : d + 1 ≤ (yR Y).frames ∧ 12 + 64 * d ≤ (yR Y).locals ∧ CC ≤ (yR Y).cells ∧ SS ≤ (yR Y).slots := C.2.2.2.2.2.2.2.1
theorem Cb.h (C : Cb E Y cc nL own d n0 CC SS) : (ys Y).heap.size = E.2.2 + n0 := C.2.2.2.2.2.2.2.2
theorem Cb.A (C : Cb E Y cc nL own d n0 CC SS) (hn : n0 = 0) : ∀ q, (ys Y).heap.size ≤ q → hiA E q := fun q h => by
  have := C.h
  show E.2.2 ≤ q
  omega
theorem Cb.A' (C : Cb E Y cc nL own d n0 CC SS) : ∀ q, (ys Y).heap.size ≤ q → hiA E q := fun q h => by
  have := C.h
  show E.2.2 ≤ q
  omega
theorem gb_cong (h : ∀ j, j < n → D' j = D j) (k : Gb E Y nL D' n c w pc lv st) : Gb E Y nL D n c w pc lv st := by
  intro H locs ls hP hS hl
  refine k H locs ls ?_ hS hl
  show va_P _ _ (wlD E D' n) H
  rw [wlD_cg h]
  exact hP
theorem gb_sem (h : ∀ H : Heap, ∀ j, j < n → va_at E.1 vwCl (E.2.2 + j, D j) H → va_at E.1 vwCl (E.2.2 + j, D' j) H) (k : Gb E Y nL D' n c w pc lv st) : Gb E Y nL D n c w pc lv st := by
  intro H locs ls hP hS hl
  exact k H locs ls (hP.sem (h H)) hS hl
theorem gb_sub (k : Gb E Y nL D n c w pc lv' st) (hs : lkAll lv lv') : Gb E Y nL D n c w pc lv st := by
  intro H locs ls hP hS hl
  exact k H locs ls hP hS ⟨hl.1, hl.2.1, fun q hq => lv_lk hl (lkAll_in hs q hq)⟩
theorem gb_iconst (C : Cb E Y cc nL own d n0 CC SS) {i : Int} {v : Int32} (hd : decode cc pc = .ok (.iconst i, 1)) (hv : Int32.ofInt i = v) (k : Gb E Y nL D n c w (pc + 1) lv (.int v :: st)) : Gb E Y nL D n c w pc lv st := by
  intro H locs ls hP hS hl
  exact lv_iconst C.x C.b hd hv (k H locs ls hP hS hl)
theorem gb_bipush (C : Cb E Y cc nL own d n0 CC SS) {i : Int} {v : Int32} (hd : decode cc pc = .ok (.bipush i, 2)) (hv : (Int8.ofInt i).toInt32 = v) (k : Gb E Y nL D n c w (pc + 2) lv (.int v :: st)) : Gb E Y nL D n c w pc lv st := by
  intro H locs ls hP hS hl
  exact lv_bipush C.x C.b hd hv (k H locs ls hP hS hl)
theorem gb_sipush (C : Cb E Y cc nL own d n0 CC SS) {i : Int} {v : Int32} (hd : decode cc pc = .ok (.sipush i, 3)) (hv : (Int16.ofInt i).toInt32 = v) (k : Gb E Y nL D n c w (pc + 3) lv (.int v :: st)) : Gb E Y nL D n c w pc lv st := by
  intro H locs ls hP hS hl
  exact lv_sipush C.x C.b hd hv (k H locs ls hP hS hl)
theorem gb_lconst (C : Cb E Y cc nL own d n0 CC SS) {i : Fin 2} {v : Int64} (hd : decode cc pc = .ok (.lconst i, 1)) (hv : Int64.ofNat (i : Nat) = v) (k : Gb E Y nL D n c w (pc + 1) lv (.long v :: st)) : Gb E Y nL D n c w pc lv st := by
  intro H locs ls hP hS hl
  exact lv_lconst C.x C.b hd hv (k H locs ls hP hS hl)
theorem gb_iload_n (C : Cb E Y cc nL own d n0 CC SS) {m : Fin 4} {i : Nat} {x : Int32} (hd : decode cc pc = .ok (.iload_n m, 1)) (hi : (m : Nat) = i) (hx : lk lv i = some (.int x)) (k : Gb E Y nL D n c w (pc + 1) lv (.int x :: st)) : Gb E Y nL D n c w pc lv st := by
  intro H locs ls hP hS hl
  exact lv_iload_n C.x C.b hd hi (lv_lk hl hx) (k H locs ls hP hS hl)
theorem gb_aload_n (C : Cb E Y cc nL own d n0 CC SS) {m : Fin 4} {i : Nat} {x : Nat} (hd : decode cc pc = .ok (.aload_n m, 1)) (hi : (m : Nat) = i) (hx : lk lv i = some (.ref x)) (k : Gb E Y nL D n c w (pc + 1) lv (.ref x :: st)) : Gb E Y nL D n c w pc lv st := by
  intro H locs ls hP hS hl
  exact lv_aload_n C.x C.b hd hi (lv_lk hl hx) (k H locs ls hP hS hl)
theorem gb_istore_n (C : Cb E Y cc nL own d n0 CC SS) {m : Fin 4} {i : Nat} {x : Int32} (hd : decode cc pc = .ok (.istore_n m, 1)) (hi : (m : Nat) = i) (hn : Nat.blt (i) nL = true) (k : Gb E Y nL D n c w (pc + 1) (st1 lv i (.int x)) st) : Gb E Y nL D n c w pc lv (.int x :: st) := by
  intro H locs ls hP hS hl
  exact lv_istore_n C.x C.b hd hi hl (Nat.le_of_ble_eq_true hn) rfl (fun ls hl => k H locs ls hP hS hl)
theorem gb_astore_n (C : Cb E Y cc nL own d n0 CC SS) {m : Fin 4} {i : Nat} {x : Nat} (hd : decode cc pc = .ok (.astore_n m, 1)) (hi : (m : Nat) = i) (hn : Nat.blt (i) nL = true) (k : Gb E Y nL D n c w (pc + 1) (st1 lv i (.ref x)) st) : Gb E Y nL D n c w pc lv (.ref x :: st) := by
  intro H locs ls hP hS hl
  exact lv_astore_n C.x C.b hd hi hl (Nat.le_of_ble_eq_true hn) rfl (fun ls hl => k H locs ls hP hS hl)
theorem gb_iinc (C : Cb E Y cc nL own d n0 CC SS) {i : Nat} {m : Int} {x v : Int32} (hd : decode cc pc = .ok (.iinc i m, 3)) (hx : lk lv i = some (.int x)) (hw : Int32.ofInt m = v) (hn : Nat.blt i nL = true) (k : Gb E Y nL D n c w (pc + 3) (st1 lv i (.int (x + v))) st) : Gb E Y nL D n c w pc lv st := by
  intro H locs ls hP hS hl
  obtain ⟨q, hq⟩ := List.getElem?_of_mem (lk_mem hx)
  exact lv_iinc C.x C.b hd hl (k := q) (v := x + v) hq (by rw [hw]) (Nat.le_of_ble_eq_true hn) rfl (fun ls hl => k H locs ls hP hS hl)
theorem gb_dup (C : Cb E Y cc nL own d n0 CC SS) {a : Value} (hd : decode cc pc = .ok (.dup, 1)) (ha : a.category = 1) (k : Gb E Y nL D n c w (pc + 1) lv (a :: a :: st)) : Gb E Y nL D n c w pc lv (a :: st) := by
  intro H locs ls hP hS hl
  exact lv_dup C.x C.b hd ha (k H locs ls hP hS hl)
theorem gb_goto (C : Cb E Y cc nL own d n0 CC SS) {off : Int} {tgt : Nat} (hd : decode cc pc = .ok (.goto off, 3)) (ht : (pc : Int) + off = (tgt : Int)) (k : Gb E Y nL D n c w tgt lv st) : Gb E Y nL D n c w pc lv st := by
  intro H locs ls hP hS hl
  exact lv_goto C.x C.b hd ht (k H locs ls hP hS hl)
theorem gb_objInit (C : Cb E Y cc nL own d n0 CC SS) {idx a : Nat} (hd : decode cc pc = .ok (.invokespecial idx, 3)) (hl : Cond.methodLink own idx Lib.objectInit ∈ WT) (hi : Cond.instanceMethod Lib.objectInit ∈ WT) (hc : Cond.code Lib.objectInit ⟨#[0xb1]⟩ 1 none ∈ WT) (hst : Nat.ble (st.map fun v => v.category).sum 0 = true) (k : Gb E Y nL D n c w (pc + 3) lv st) : Gb E Y nL D n c w pc lv (.ref a :: st) := by
  intro H locs ls hP hS hl'
  have r := C.R
  refine W.objInit C.x C.b C.o (C.t _ hl) (C.t _ hi) (C.t _ hc) rfl (by rw [C.2.2.1]; exact hl'.1) rfl hd (by omega) ?_ ?_
  · have := Nat.le_of_ble_eq_true hst
    show 2 * 0 + _ + 12 ≤ _
    omega
  · refine W.eq (g2 := F0 (ym Y) (pc + 3) ls st) rfl (k H locs ls hP hS hl')
/-- the heap has just the cells of the world above where it begins -/
theorem gb_sz (C : Cb E Y cc nL own d n0 CC SS) (hcn : n0 + c = n) (k : ∀ (H : Heap) (locs : List Loc) (ls : Array Slot), H.size = E.2.2 + n → PD E D n H → va_S (hiA E) (ys Y).heap H locs → lv_has ls nL lv → W (yp Y) (yl Y) (ye Y) (yR Y) (ys Y) (ym Y) (ya Y) (yb Y) (yM Y) (yc Y) H locs c w (yQ Y) (F0 (ym Y) pc ls st)) : Gb E Y nL D n c w pc lv st := by
  intro H locs ls hP hS hl T hT X
  have h1 := X.heapSize
  rw [hT, C.h] at h1
  have h2 : E.2.2 + n ≤ H.size := by
    by_cases e : c = 0
    · have := hS.1
      rw [C.h] at this
      omega
    · have := hP.lt (k := n - 1) (by omega)
      omega
  exact k H locs ls (by omega) hP hS hl T hT X
theorem Kx.ar {E : wEnv} {U : State} (hK : Kx E U) {t : Nat} {ty : FieldType} (ht : (tysL E)[t]? = some (E.2.1 t, ty)) : ArrOfT U (E.2.1 t) ty ∧ va_RA U (E.2.1 t) ty := hK.2 t _ ht
/-- a row of ints, bytes or longs is made -/
theorem gb_newa (C : Cb E Y cc nL own d n0 CC SS) {atype : ArrayType} {ty : FieldType} {t N : Nat} {x : Int32} {a0 : vp_A} (hty : newarray.typeOf atype = ty) (hty1 : ty = .int ∨ ty = .byte ∨ ty = .long) (hd : decode cc pc = .ok (.newarray atype, 2)) (hw : Cond.arrayClass ty ∈ WT) (ht : (tysL E)[t]? = some (E.2.1 t, ty)) (ha : ∀ cA : ClassId, vp_cell cA a0 = arrV cA N (fun _ => defaultValue ty)) (hx : x = nI N) (hN : N < 10000) (hcn : n0 + c = n) (hc : c + 1 ≤ CC) (hs : w + N ≤ SS) (hD : D n = .inl (E.2.1 t, a0))
    (k : Gb E Y nL D (n + 1) (c + 1) (w + N) (pc + 2) lv (.ref (E.2.2 + n) :: st)) : Gb E Y nL D n c w pc lv (.int x :: st) := by
  subst hty
  subst hx
  refine gb_sz C hcn fun H locs ls hsz hP hS hl => ?_
  have r := C.R
  refine va_newaK C.x C.b (C.t _ hw) rfl hd rfl (nI_pos (by omega)) (nI_clamp (by omega)) ?_ (Nat.le_trans hc r.2.2.1) (Nat.le_trans hs r.2.2.2) hsz fun H1 cA e1 z1 o1 hAr hNm => ?_
  · have : componentBytes (newarray.typeOf atype) ≤ 8 := by
      rcases hty1 with q | q | q <;> rw [q] <;> decide
    calc N * componentBytes (newarray.typeOf atype) ≤ N * 8 := Nat.mul_le_mul_left _ this
      _ ≤ 536870912 := by omega
  · have hcA : cA = E.2.1 t := by
      have h2 := (C.K.ar ht).2
      have h3 : (ys Y).vm.findClass ("[" ++ (newarray.typeOf atype).toString) = some (E.2.1 t) := by
        rcases hty1 with q | q | q <;> rw [q] at h2 ⊢ <;> exact h2
      exact Option.some.inj (hNm.symm.trans h3)
    subst hcA
    refine W.eq (g2 := F0 (ym Y) (pc + 2) ls (.ref (E.2.2 + n) :: st)) rfl (k H1 locs ls ?_ ?_ hl)
    · show va_P _ _ (wlD E D (n + 1)) H1
      rw [← wlD_cg (D' := upD D n (D n)) (fun j _ => by unfold upD; split <;> simp_all), ← wlD_app]
      refine va_P.app (va_P.kept hP (fun q x hx => ?_)) (fun q x hx => ?_)
      · rw [(wlD_in hx).2]
        exact o1 _ (by have := (wlD_in hx).1; omega)
      · have hz : q < 1 := (List.getElem?_eq_some_iff.mp hx).1
        rw [show q = 0 by omega] at hx
        cases hx
        rw [hD]
        show H1[E.2.2 + n]? = some (vp_cell _ _)
        rw [ha]
        exact e1
    · exact ⟨Nat.le_trans hS.1 (by omega), fun x h1 h2 => (o1 x (Nat.lt_of_lt_of_le h1 (by rw [← hsz]; exact hS.1))).trans (hS.2.1 x h1 h2), hS.2.2⟩
/-- an object is made, its fields as they are at first -/
theorem gb_new (C : Cb E Y cc nL own d n0 CC SS) {CN : String} {T : u_T} {N ci idx : Nat} {ty : Nat → FieldType} {fs : List Value} (hd : decode cc pc = .ok (.new idx, 3)) (hlay : ∀ w ∈ u_ws CN T N, w ∈ WT) (hty : ∀ k, k < N → parseFieldDescriptor (T k).2.2.1 = some (ty k)) (hcl : Cond.classLink own idx CN ∈ WT) (hinst : Cond.instantiable CN N ∈ WT) (hini : Cond.initialized CN ∈ WT) (hci : vwCl[ci]? = some (CN, T, N)) (hfs : ∀ j, j < N → defaultValue (ty j) = vp_V fs j)
    (hcn : n0 + c = n) (hc : c + 1 ≤ CC) (hs : w + N ≤ SS) (k : Gb E Y nL (upD D n (.inr (ci, fs))) (n + 1) (c + 1) (w + N) (pc + 3) lv (.ref (E.2.2 + n) :: st)) : Gb E Y nL D n c w pc lv st := by
  refine gb_sz C hcn fun H locs ls hsz hP hS hl => ?_
  have r := C.R
  have hKn := C.K.1 ci _ hci
  refine W.newcK C.x C.b C.o (C.t _ hcl) (C.t _ hinst) (C.t _ hini) rfl hd (Nat.le_trans hc r.2.2.1) (Nat.le_trans hs r.2.2.2) hKn.2.1 hsz fun H1 kC hkC e1 z1 o1 => ?_
  refine W.eq (g2 := F0 (ym Y) (pc + 3) ls (.ref (E.2.2 + n) :: st)) rfl (k H1 locs ls ?_ ?_ hl)
  · show va_P _ _ (wlD E (upD D n (.inr (ci, fs))) (n + 1)) H1
    rw [← wlD_app]
    refine va_P.app (va_P.kept hP (fun q x hx => ?_)) (fun q x hx => ?_)
    · rw [(wlD_in hx).2]
      exact o1 _ (by have := (wlD_in hx).1; omega)
    · have hz : q < 1 := (List.getElem?_eq_some_iff.mp hx).1
      rw [show q = 0 by omega] at hx
      cases hx
      exact ⟨_, hci, (u_born ty C.t hlay hKn hkC e1 hty).to hfs⟩
  · exact ⟨Nat.le_trans hS.1 (by omega), fun x h1 h2 => (o1 x (Nat.lt_of_lt_of_le h1 (by rw [← hsz]; exact hS.1))).trans (hS.2.1 x h1 h2), hS.2.2⟩
/-- a field is put -/
theorem gb_put (C : Cb E Y cc nL own d n0 CC SS) {q ci N idx k : Nat} {CN ref : String} {T : u_T} {ty0 : Nat → FieldType} {fs : List Value} {v : Value} (hd : decode cc pc = .ok (.putfield idx, 3)) (hq : q < n) (he : D q = .inr (ci, fs)) (hc : vwCl[ci]? = some (CN, T, N)) (hk : k < N) (hlay : ∀ w ∈ u_ws CN T N, w ∈ WT) (hty : ∀ k, k < N → parseFieldDescriptor (T k).2.2.1 = some (ty0 k)) (hnm : ∀ a, a < N → ∀ b, b < N → a ≠ b → (T a).2.1 ≠ (T b).2.1)
    (hl : Cond.fieldLink own idx ref (T k).2.1 (T k).2.2.1 ∈ WT) (hr : (T k).1 = ref) (hn : narrow (ty0 k) v = v) (hfit : fits (ty0 k) v = true) (hlen : k < fs.length) (hfin : (T k).2.2.2 = false ∨ ((T k).2.2.2 = true ∧ (yM Y).name = "<init>" ∧ (T k).1 = own)) (kk : Gb E Y nL (upD D q (.inr (ci, fs.set k v))) n c w (pc + 3) lv st) : Gb E Y nL D n c w pc lv (v :: .ref (E.2.2 + q) :: st) := by
  intro H locs ls hP hS hl'
  have at_ : (wlD E D n)[q]? = some (E.2.2 + q, .inr (ci, fs)) := by rw [wlD_at hq, he]
  rcases hfin with hfin | ⟨hfin, hin, hdec⟩
  · refine va_put (D := E.1) (cl := vwCl) (tys := tysL E) (ws := wlD E D n) (A := hiA E) (ci := ci) C.x C.b C.t hlay ty0 hty hnm C.o C.K hP wlD_D hS q at_ hc k hk (C.t _ hl) (fun x h => hr ▸ h) hfin (hty k hk) hn hfit hlen hd (fun H1 locs1 hP1 _ hS1 => ?_)
    rw [wlD_set hq] at hP1
    exact kk H1 locs1 ls hP1 hS1 hl'
  · refine va_putF (D := E.1) (cl := vwCl) (tys := tysL E) (ws := wlD E D n) (A := hiA E) (ci := ci) C.x C.b C.t hlay ty0 hty hnm C.o C.K hP wlD_D hS q at_ hc k hk (C.t _ hl) (fun x h => hr ▸ h) hfin hin hdec (hty k hk) hn hfit hlen hd (fun H1 locs1 hP1 _ hS1 => ?_)
    rw [wlD_set hq] at hP1
    exact kk H1 locs1 ls hP1 hS1 hl'
theorem gb_get (C : Cb E Y cc nL own d n0 CC SS) {q ci N idx k : Nat} {CN ref : String} {T : u_T} {fs : List Value} {v : Value} (hd : decode cc pc = .ok (.getfield idx, 3)) (hq : q < n) (he : D q = .inr (ci, fs)) (hc : vwCl[ci]? = some (CN, T, N)) (hk : k < N) (hlay : ∀ w ∈ u_ws CN T N, w ∈ WT) (hl : Cond.fieldLink own idx ref (T k).2.1 (T k).2.2.1 ∈ WT) (hr : (T k).1 = ref) (hv : fs[k]? = some v) (kk : Gb E Y nL D n c w (pc + 3) lv (v :: st)) : Gb E Y nL D n c w pc lv (.ref (E.2.2 + q) :: st) := by
  intro H locs ls hP hS hl'
  exact va_get (D := E.1) (cl := vwCl) (tys := tysL E) (ws := wlD E D n) (ci := ci) C.x C.b C.t hlay C.o C.K hP q (by rw [wlD_at hq, he]) hc k hk (C.t _ hl) (fun x h => hr ▸ h) hv hd (kk H locs ls hP hS hl')
theorem gb_iast (C : Cb E Y cc nL own d n0 CC SS) {q N : Nat} {x v : Int32} {f : Nat → Int32} (hd : decode cc pc = .ok (.iastore, 1)) (hq : q < n) (he : D q = .inl (E.2.1 0, N, .inl f)) (hin : vp_in x N) (k : Gb E Y nL (upD D q (.inl (E.2.1 0, N, .inl (upd f x.toNatClampNeg v)))) n c w (pc + 1) lv st) : Gb E Y nL D n c w pc lv (.int v :: .int x :: .ref (E.2.2 + q) :: st) := by
  intro H locs ls hP hS hl
  refine va_iast (D := E.1) (cl := vwCl) (tys := tysL E) (ws := wlD E D n) (A := hiA E) C.x C.b C.K hP wlD_D hS q 0 (by rw [wlD_at hq, he]) rfl hin hd (fun H1 locs1 hP1 _ hS1 => ?_)
  rw [wlD_set hq] at hP1
  exact k H1 locs1 ls hP1 hS1 hl
theorem gb_last (C : Cb E Y cc nL own d n0 CC SS) {q N : Nat} {x : Int32} {v : Int64} {f : Nat → Int64} (hd : decode cc pc = .ok (.lastore, 1)) (hq : q < n) (he : D q = .inl (E.2.1 2, N, .inr (.inl f))) (hin : vp_in x N) (k : Gb E Y nL (upD D q (.inl (E.2.1 2, N, .inr (.inl (vp_updL f x.toNatClampNeg v))))) n c w (pc + 1) lv st) : Gb E Y nL D n c w pc lv (.long v :: .int x :: .ref (E.2.2 + q) :: st) := by
  intro H locs ls hP hS hl
  refine va_last (D := E.1) (cl := vwCl) (tys := tysL E) (ws := wlD E D n) (A := hiA E) C.x C.b C.K hP wlD_D hS q 2 (by rw [wlD_at hq, he]) rfl hin hd (fun H1 locs1 hP1 _ hS1 => ?_)
  rw [wlD_set hq] at hP1
  exact k H1 locs1 ls hP1 hS1 hl
theorem gb_aast (C : Cb E Y cc nL own d n0 CC SS) {q q2 t N ci : Nat} {r : vw_C} {x : Int32} {vs : List Value} {f : Nat → Option Nat} (hd : decode cc pc = .ok (.aastore, 1)) (hq : q < n) (hq2 : q2 < n) (he : D q = .inl (E.2.1 t, N, .inr (.inr (.inr (.inr f))))) (he2 : D q2 = .inr (ci, vs)) (hc : vwCl[ci]? = some r) (ht : (tysL E)[t]? = some (E.2.1 t, .object r.1)) (hin : vp_in x N) (k : Gb E Y nL (upD D q (.inl (E.2.1 t, N, .inr (.inr (.inr (.inr (va_up f x.toNatClampNeg (some (E.2.2 + q2))))))))) n c w (pc + 1) lv st) : Gb E Y nL D n c w pc lv (.ref (E.2.2 + q2) :: .int x :: .ref (E.2.2 + q) :: st) := by
  intro H locs ls hP hS hl
  refine va_astq (D := E.1) (cl := vwCl) (tys := tysL E) (ws := wlD E D n) (A := hiA E) C.x C.b C.K hP wlD_D hS q t q2 ci (by rw [wlD_at hq, he]) ht (by rw [wlD_at hq2, he2]) hc hin hd (fun H1 locs1 hP1 _ hS1 => ?_)
  rw [wlD_set hq] at hP1
  exact k H1 locs1 ls hP1 hS1 hl
/-- a row of references is made -/
theorem gb_newq (C : Cb E Y cc nL own d n0 CC SS) {CN : String} {t N idx : Nat} {x : Int32} (hd : decode cc pc = .ok (.anewarray idx, 3)) (hcl : Cond.classLink own idx CN ∈ WT) (hao : va_AO CN (ys Y)) (ht : (tysL E)[t]? = some (E.2.1 t, .object CN)) (hx : x = nI N) (hN : N < 10000) (hcn : n0 + c = n) (hc : c + 1 ≤ CC) (hs : w + N ≤ SS)
    (k : Gb E Y nL (upD D n (.inl (E.2.1 t, N, .inr (.inr (.inr (.inr (fun _ => none))))))) (n + 1) (c + 1) (w + N) (pc + 3) lv (.ref (E.2.2 + n) :: st)) : Gb E Y nL D n c w pc lv (.int x :: st) := by
  subst hx
  refine gb_sz C hcn fun H locs ls hsz hP hS hl => ?_
  have r := C.R
  have hcl' : (nI N).toNatClampNeg = N := nI_clamp (by omega)
  refine W.anew C.x C.b C.o (C.t _ hcl) (va_AO.use hao) rfl hd rfl (nI_pos (by omega)) (by rw [hcl']; omega) (Nat.le_trans hc r.2.2.1) (by rw [hcl']; exact Nat.le_trans hs r.2.2.2) fun cA kA comp f1 f2 f3 f4 => ?_
  rw [hcl']
  have hcA : cA = E.2.1 t := by
    obtain ⟨-, kA', comp', -, -, -, g4⟩ := C.K.ar ht
    exact Option.some.inj (f1.symm.trans g4)
  subst hcA
  generalize hH1 : H.push ({ cls := E.2.1 t, slots := Array.replicate N .null, vm := .none } : Cell) = H1
  have z1 : H1.size = H.size + 1 := by rw [← hH1, Array.size_push]
  have e1 : H1[H.size]? = some (arrV (E.2.1 t) N (fun _ => .null)) := by rw [← hH1, Array.getElem?_push_size, ← arrV_new]
  have o1 : ∀ q : Nat, q < H.size → H1[q]? = H[q]? := fun q hq => by rw [← hH1, Array.getElem?_push, if_neg (Nat.ne_of_lt hq)]
  rw [hsz] at e1 ⊢
  refine W.eq (g2 := F0 (ym Y) (pc + 3) ls (.ref (E.2.2 + n) :: st)) rfl (k H1 locs ls ?_ ?_ hl)
  · show va_P _ _ (wlD E (upD D n _) (n + 1)) H1
    rw [← wlD_app]
    refine va_P.app (va_P.kept hP (fun q x hx => ?_)) (fun q x hx => ?_)
    · rw [(wlD_in hx).2]
      exact o1 _ (by have := (wlD_in hx).1; omega)
    · have hz : q < 1 := (List.getElem?_eq_some_iff.mp hx).1
      rw [show q = 0 by omega] at hx
      cases hx
      show H1[E.2.2 + n]? = some (vp_cell _ _)
      rw [vp_cell_q]
      exact e1
  · exact ⟨Nat.le_trans hS.1 (by omega), fun x h1 h2 => (o1 x (Nat.lt_of_lt_of_le h1 hS.1)).trans (hS.2.1 x h1 h2), hS.2.2⟩
end BROWS
