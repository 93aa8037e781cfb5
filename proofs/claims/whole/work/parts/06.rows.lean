/-! ===== the world, the judgement G, the rows ===== -/
def Wd (E : wEnv) (M : Mem) (H : Heap) : Prop := ∀ c i, i < cnt c → va_at E.1 vwCl (ad E c i, cE E M c i) H
def inB (E : wEnv) : Nat → Prop := fun q => E.2.2 ≤ q ∧ q < E.2.2 + kTot
theorem cnt_lt {c i : Nat} (h : i < cnt c) : c < 66 := by
  rcases Nat.lt_or_ge c 66 with q | q
  · exact q
  · rw [cnt_big q] at h; omega
theorem ad_in {E : wEnv} {c i : Nat} (h : i < cnt c) : inB E (ad E c i) := by
  have := kOF_lt c (cnt_lt h) i h
  unfold inB ad
  omega
theorem ad_ne {E : wEnv} {c i c2 i2 : Nat} (h : i < cnt c) (h2 : i2 < cnt c2) (he : ad E c i = ad E c2 i2) : c = c2 ∧ i = i2 := by
  unfold ad at he
  exact kOF_inj c (cnt_lt h) i h c2 (cnt_lt h2) i2 h2 (by omega)
def allC : List (Nat × Nat) := (List.range 66).flatMap (fun c => (List.range (cnt c)).map (fun i => (c, i)))
theorem allC_in {c i : Nat} (h : i < cnt c) : ∃ q : Nat, allC[q]? = some (c, i) := by
  have hm : (c, i) ∈ allC := List.mem_flatMap.mpr ⟨c, List.mem_range.mpr (cnt_lt h), List.mem_map.mpr ⟨i, List.mem_range.mpr h, rfl⟩⟩
  exact List.getElem?_of_mem hm
theorem allC_lt {q c i : Nat} (h : allC[q]? = some (c, i)) : i < cnt c := by
  obtain ⟨c2, -, hm⟩ := List.mem_flatMap.mp (List.mem_of_getElem? h)
  obtain ⟨i2, hi, he⟩ := List.mem_map.mp hm
  cases he
  exact List.mem_range.mp hi
theorem allC_nd : allC.Nodup := by decide +kernel
theorem allC_inj {q q2 : Nat} {x : Nat × Nat} (h : allC[q]? = some x) (h2 : allC[q2]? = some x) : q = q2 := by
  obtain ⟨a1, b1⟩ := List.getElem?_eq_some_iff.mp h
  obtain ⟨a2, b2⟩ := List.getElem?_eq_some_iff.mp h2
  exact (List.getElem_inj allC_nd).mp (b1.trans b2.symm)
/-- the world as one list of cells -/
def wl (E : wEnv) (M : Mem) : va_W := allC.map (fun x => (ad E x.1 x.2, cE E M x.1 x.2))
theorem wl_at {E : wEnv} {c i q : Nat} (h : allC[q]? = some (c, i)) (M : Mem) {e : va_E} (he : cE E M c i = e) : (wl E M)[q]? = some (ad E c i, e) := by
  unfold wl
  rw [List.getElem?_map, h, ← he]
  rfl
theorem wl_P {E : wEnv} {M : Mem} {H : Heap} (h : Wd E M H) : va_P E.1 vwCl (wl E M) H := by
  intro k q hk
  unfold wl at hk
  rw [List.getElem?_map] at hk
  cases hx : allC[k]? with
  | none => rw [hx] at hk; cases hk
  | some x =>
    rw [hx] at hk
    cases hk
    exact h x.1 x.2 (allC_lt hx)
theorem wl_W {E : wEnv} {M : Mem} {H : Heap} (h : va_P E.1 vwCl (wl E M) H) : Wd E M H := by
  intro c i hi
  obtain ⟨q, hq⟩ := allC_in hi
  exact h q _ (wl_at hq M rfl)
theorem wl_D {E : wEnv} {M : Mem} {A : Nat → Prop} (hA : ∀ q, inB E q → A q) : va_D A (wl E M) := by
  refine ⟨fun i j p q hp hq he => ?_, fun k q hk => ?_⟩
  · unfold wl at hp hq
    rw [List.getElem?_map] at hp hq
    cases hx : allC[i]? with
    | none => rw [hx] at hp; cases hp
    | some x =>
      cases hy : allC[j]? with
      | none => rw [hy] at hq; cases hq
      | some y =>
        rw [hx] at hp
        rw [hy] at hq
        cases hp; cases hq
        obtain ⟨e1, e2⟩ := ad_ne (allC_lt hx) (allC_lt hy) he
        have : x = y := Prod.ext e1 e2
        subst this
        exact allC_inj hx hy
  · unfold wl at hk
    rw [List.getElem?_map] at hk
    cases hx : allC[k]? with
    | none => rw [hx] at hk; cases hk
    | some x =>
      rw [hx] at hk
      cases hk
      exact hA _ (ad_in (allC_lt hx))
theorem wl_set {E : wEnv} {M M' : Mem} {c i q : Nat} (h : allC[q]? = some (c, i)) {e : va_E} (he : cE E M' c i = e) (hM : ∀ a b, ¬ (a = c ∧ b = i) → cE E M' a b = cE E M a b) : (wl E M).set q (ad E c i, e) = wl E M' := by
  apply List.ext_getElem?
  intro k
  have hq : q < (wl E M).length := by
    unfold wl
    rw [List.length_map]
    exact (List.getElem?_eq_some_iff.mp h).1
  by_cases hk : q = k
  · subst hk
    rw [List.getElem?_set_self hq]
    exact (wl_at h M' he).symm
  · rw [List.getElem?_set_ne hk]
    unfold wl
    rw [List.getElem?_map, List.getElem?_map]
    cases hx : allC[k]? with
    | none => rfl
    | some x =>
      have hne : ¬ (x.1 = c ∧ x.2 = i) := by
        rintro ⟨e1, e2⟩
        have : x = (c, i) := Prod.ext e1 e2
        subst this
        exact hk (allC_inj h hx)
      show some (ad E x.1 x.2, cE E M x.1 x.2) = some (ad E x.1 x.2, cE E M' x.1 x.2)
      rw [hM _ _ hne]
/-- enough for every loop -/
theorem FU_ex : ∃ n : Nat, 4000000 ≤ n := ⟨4000000, Nat.le_refl _⟩
noncomputable def FU : Nat := Classical.choose FU_ex
theorem FU_ge : 4000000 ≤ FU := Classical.choose_spec FU_ex
theorem lt_FU {k : Nat} (h : k < 4000000) : k < FU := Nat.lt_of_lt_of_le h FU_ge
def jrem (x y : Int32) : Int32 := x - x / y * y
def jreml (x y : Int64) : Int64 := x - x / y * y
def jmax (x y : Int32) : Int32 := if x < y then y else x
def jmin (x y : Int32) : Int32 := if y < x then y else x
def jabs (x : Int32) : Int32 := if 0 ≤ x then x else 0 - x
def jabsl (x : Int64) : Int64 := if 0 < x then x else -x
def iushr (x y : Int32) : Int32 := (x.toUInt32 >>> (y.toUInt32 &&& Int32.toUInt32 31)).toInt32
def isB (x : Int32) : Bool := decide (x = 0) || decide (x = 1)
theorem isB_of {x : Int32} (h : isB x = true) : x = 0 ∨ x = 1 := by simpa [isB] using h
theorem cE_sR (E : wEnv) (M : Mem) (c i : Nat) (f : Nat → Int32) (a b : Nat) (h : ¬ (a = c ∧ b = i)) : cE E (sR M c i f) a b = cE E M a b := by
  unfold cE
  split <;> simp only [sR_ne M c i f h, sR_2]
theorem cE_sL (E : wEnv) (M : Mem) (c i : Nat) (f : Nat → Int64) (a b : Nat) (h : ¬ (a = c ∧ b = i)) : cE E (sL M c i f) a b = cE E M a b := by
  unfold cE
  split <;> simp only [sL_ne M c i f h, sL_1]
abbrev YT : Type := Program × Launch × Env × Room × State × MethodId × Array Value × List Frame × Method × Code × (State → Prop) × (Nat → Prop) × Nat × Nat
abbrev yp (Y : YT) := Y.1
abbrev yl (Y : YT) := Y.2.1
abbrev ye (Y : YT) := Y.2.2.1
abbrev yR (Y : YT) := Y.2.2.2.1
abbrev ys (Y : YT) := Y.2.2.2.2.1
abbrev ym (Y : YT) := Y.2.2.2.2.2.1
abbrev ya (Y : YT) := Y.2.2.2.2.2.2.1
abbrev yb (Y : YT) := Y.2.2.2.2.2.2.2.1
abbrev yM (Y : YT) := Y.2.2.2.2.2.2.2.2.1
abbrev yc (Y : YT) := Y.2.2.2.2.2.2.2.2.2.1
abbrev yQ (Y : YT) := Y.2.2.2.2.2.2.2.2.2.2.1
abbrev yA (Y : YT) := Y.2.2.2.2.2.2.2.2.2.2.2.1
abbrev yk (Y : YT) := Y.2.2.2.2.2.2.2.2.2.2.2.2.1
abbrev yn (Y : YT) := Y.2.2.2.2.2.2.2.2.2.2.2.2.2
abbrev LV : Type := List (Nat × Value)
def lk : LV → Nat → Option Value
  | [], _ => none
  | q :: l, k => cond (Nat.beq q.1 k) (some q.2) (lk l k)
def lkAll (lv : LV) : LV → Prop
  | [] => True
  | q :: l => lk lv q.1 = some q.2 ∧ lkAll lv l
theorem lkAll_in {lv : LV} : ∀ {l : LV}, lkAll lv l → ∀ q ∈ l, lk lv q.1 = some q.2
  | [], _, q, h => by cases h
  | p :: l, h, q, hq => by
    rcases List.mem_cons.mp hq with e | e
    · rw [e]; exact h.1
    · exact lkAll_in h.2 q e
theorem lk_mem : ∀ {l : LV} {k : Nat} {v : Value}, lk l k = some v → (k, v) ∈ l
  | [], _, _, h => by cases h
  | q :: l, k, v, h => by
    unfold lk at h
    cases hb : Nat.beq q.1 k with
    | true =>
      rw [hb] at h
      have e := Nat.eq_of_beq_eq_true hb
      have h : some q.2 = some v := h
      cases h
      rw [← e]
      exact List.mem_cons_self
    | false =>
      rw [hb] at h
      exact List.mem_cons_of_mem _ (lk_mem h)
theorem lv_lk {ls : Array Slot} {n : Nat} {l : LV} (h : lv_has ls n l) {k : Nat} {v : Value} (hk : lk l k = some v) : ls[k]? = some (.val v) := h.2.2 (k, v) (lk_mem hk)
def st1 (lv : LV) (i : Nat) (v : Value) : LV := (i, v) :: lv.filter (fun q => !(q.1 == i) && !(q.1 + 1 == i && q.2.category == 2))
def st2 (lv : LV) (i : Nat) (v : Value) : LV := (i, v) :: lv.filter (fun q => !(q.1 == i) && (!(q.1 == i + 1) && !(q.1 + 1 == i && q.2.category == 2)))
/-- from here on the machine comes to the end, whatever the heap: at M, at pc, with these locals, this stack -/
def G (E : wEnv) (Y : YT) (nL : Nat) (M : Mem) (pc : Nat) (lv : LV) (st : List Value) : Prop :=
  ∀ (H : Heap) (locs : List Loc) (ls : Array Slot), Wd E M H → va_S (yA Y) (ys Y).heap H locs → lv_has ls nL lv →
    W (yp Y) (yl Y) (ye Y) (yR Y) (ys Y) (ym Y) (ya Y) (yb Y) (yM Y) (yc Y) H locs (yk Y) (yn Y) (yQ Y) (F0 (ym Y) pc ls st)
def rmd (d : Nat) : Room := { frames := d + 1, cells := 0, slots := 0, locals := 12 + 64 * d }
def mostOf : Nat → Int32 := fun k => match k with
  | 0 => 10
  | 3 => 4
  | _ => 6
/-- what of the statics a method takes as given: the two links to a nest mate's private, the row MOST_OF -/
def Zs (E : wEnv) (U : State) (H : Heap) : Prop := va_Nw (Cond.methodLinkNest RX3 81 yX10_rule RX10) U ∧ va_Nw (Cond.fieldLinkNest RX1 63 RX10 "MOST_OF" "[I" RX10) U ∧
  ∃ t : Nat, va_Z RX10 "MOST_OF" "[I" (.ref t) (inB E) U H ∧ va_X t 4 mostOf U H ∧ t < H.size ∧ ¬ inB E t
theorem Zs.warm {E : wEnv} {s U : State} {H : Heap} (hW : s.WarmedH U.vm) (h : Zs E s H) : Zs E U H := by
  obtain ⟨h1, h2, t, h3, h4, h5⟩ := h
  exact ⟨va_Nw.warmM hW h1, va_Nw.warmF hW h2, t, va_Z.moved hW.alike h3, h4.moved hW.alike, h5⟩
theorem Zs.same {E : wEnv} {u U : State} {H : Heap} (hv : u.vm = U.vm) (h : Zs E u H) : Zs E U H := by
  obtain ⟨h1, h2, t, h3, h4, h5⟩ := h
  have ha : u.vm.Alike U.vm := by rw [hv]; exact Vm.Alike.refl _
  exact ⟨va_Nw.same rfl hv h1, va_Nw.same rfl hv h2, t, va_Z.moved ha h3, h4.moved ha, h5⟩
theorem Zs.kept {E : wEnv} {U : State} {H H1 : Heap} (h : Zs E U H) (hz : H.size ≤ H1.size) (hq : ∀ a : Nat, a < H.size → ¬ inB E a → H1[a]? = H[a]?) : Zs E U H1 := by
  obtain ⟨h1, h2, t, h3, h4, h5, h6⟩ := h
  exact ⟨h1, h2, t, va_Z.kept h3 hq, h4.kept (hq t h5 h6), Nat.lt_of_lt_of_le h5 hz, h6⟩
def Cx (E : wEnv) (Y : YT) (cc : ByteArray) (nL : Nat) (own : String) (d : Nat) : Prop :=
  (yp Y).tables.exec = Jvm.exec ∧ (yc Y).code = cc ∧ (yc Y).maxLocals = nL ∧ (ys Y).vm.findClass own = some (ym Y).cls ∧ (∀ w ∈ WT, w.before (ya Y) (ys Y) = true) ∧ Kx E (ys Y) ∧
  (d + 1 ≤ (yR Y).frames ∧ 12 + 64 * d ≤ (yR Y).locals ∧ yk Y ≤ (yR Y).cells ∧ yn Y ≤ (yR Y).slots) ∧ (∀ q, inB E q → yA Y q) ∧ (∀ q, q < (ys Y).heap.size → yA Y q → inB E q) ∧ Zs E (ys Y) (ys Y).heap
theorem Cx.Z {E : wEnv} {Y : YT} {cc : ByteArray} {nL d : Nat} {own : String} (C : Cx E Y cc nL own d) : Zs E (ys Y) (ys Y).heap := C.2.2.2.2.2.2.2.2.2
theorem Cx.Zat {E : wEnv} {Y : YT} {cc : ByteArray} {nL d : Nat} {own : String} (C : Cx E Y cc nL own d) {H : Heap} {locs : List Loc} (hS : va_S (yA Y) (ys Y).heap H locs) : Zs E (ys Y) H := C.Z.kept hS.1 (fun a h1 h2 => hS.2.1 a h1 (fun z => h2 (C.2.2.2.2.2.2.2.2.1 a h1 z)))
/-- the end of a method -/
def Qm (E : wEnv) (v : Option Value) (M' : Mem) : Array Value → State → Outcome → State → Prop := fun _ st oc t => oc = .returned v ∧ Wd E M' t.heap ∧ Kx E t ∧ va_F (inB E) st t
def Rx (E : wEnv) (Y : YT) (ret : Option FieldType) (v : Option Value) (M' : Mem) : Prop :=
  (yM Y).locks = false ∧ (yM Y).sig.returnType = ret ∧ yA Y = inB E ∧ yQ Y = MQ (yb Y) (Qm E v M') (ya Y) (ys Y) (yk Y) (yn Y) (inB E)
def Mt (E : wEnv) (y : MethodName) (cc : ByteArray) (nL : Nat) (ret : Option FieldType) (d : Nat) (av : List Value) (M : Mem) (v : Option Value) (M' : Mem) : Prop :=
  ∀ l : Launch, Met l y (Cond.code y cc nL ret :: WT) (rmd d) (va_Pc av (fun U => Wd E M U.heap ∧ Kx E U ∧ Zs E U U.heap)) (Qm E v M') 0 0 (inB E)
theorem mt_intro {E : wEnv} {y : MethodName} {cc : ByteArray} {nL : Nat} {ret : Option FieldType} {d : Nat} {av : List Value} {M : Mem} {v : Option Value} {M' : Mem} {own : String} {lv0 : LV} (hy : plainName y.cls = true) (ho : y.cls = own) (h0 : lv_args 0 av = lv0) (hlen : Nat.ble (lg_sl av).length nL = true)
    (body : ∀ Y : YT, Cx E Y cc nL own d → Rx E Y ret v M' → G E Y nL M 0 lv0 []) : Mt E y cc nL ret d av M v M' := by
  intro l
  refine Met.ofW (cc := cc) (maxL := nL) (ret := ret) hy rfl ?_
  intro p e s m args below meth c s₁ B hml hv
  obtain ⟨rfl, hW, hK, hZ⟩ := hv
  have hts := atoms_spec (ws := Cond.code y cc nL ret :: WT) B.pre
  have hown : s.vm.findClass own = some m.cls := by rw [← ho]; exact findClass_of_methodNamed B.named
  rw [lg_entry_eq]
  have hb := body (p, l, e, rmd d, s, m, av.toArray, below, meth, c, MQ below (Qm E v M') av.toArray s 0 0 (inB E), inB E, 0, 0)
    ⟨B.exec, B.bytes, hml, hown, fun w h => hts w (List.mem_cons_of_mem _ h), hK, ⟨Nat.le_refl _, Nat.le_refl _, Nat.le_refl _, Nat.le_refl _⟩, fun q h => h, fun q _ h => h, hZ⟩
    ⟨B.notSynchronized, B.returns, rfl, rfl⟩
  refine hb s.heap [] _ hW va_S.rf ?_
  rw [← h0]
  exact lv_entry av (Nat.le_of_ble_eq_true hlen)
section ROWS
variable {E : wEnv} {Y : YT} {cc : ByteArray} {nL d : Nat} {own : String} {M : Mem} {pc : Nat} {lv lv' : LV} {st : List Value}
theorem g_sub (k : G E Y nL M pc lv' st) (hs : lkAll lv lv') : G E Y nL M pc lv st := by
  intro H locs ls hW hS hl
  exact k H locs ls hW hS ⟨hl.1, hl.2.1, fun q hq => lv_lk hl (lkAll_in hs q hq)⟩
theorem g_iconst (C : Cx E Y cc nL own d) {n : Int} {v : Int32} (hd : decode cc pc = .ok (.iconst n, 1)) (hv : Int32.ofInt n = v) (k : G E Y nL M (pc + 1) lv (.int v :: st)) : G E Y nL M pc lv (st) := by
  intro H locs ls hW hS hl
  exact lv_iconst C.1 C.2.1 hd hv (k H locs ls hW hS hl)
theorem g_bipush (C : Cx E Y cc nL own d) {n : Int} {v : Int32} (hd : decode cc pc = .ok (.bipush n, 2)) (hv : (Int8.ofInt n).toInt32 = v) (k : G E Y nL M (pc + 2) lv (.int v :: st)) : G E Y nL M pc lv (st) := by
  intro H locs ls hW hS hl
  exact lv_bipush C.1 C.2.1 hd hv (k H locs ls hW hS hl)
theorem g_sipush (C : Cx E Y cc nL own d) {n : Int} {v : Int32} (hd : decode cc pc = .ok (.sipush n, 3)) (hv : (Int16.ofInt n).toInt32 = v) (k : G E Y nL M (pc + 3) lv (.int v :: st)) : G E Y nL M pc lv (st) := by
  intro H locs ls hW hS hl
  exact lv_sipush C.1 C.2.1 hd hv (k H locs ls hW hS hl)
theorem g_lconst (C : Cx E Y cc nL own d) {n : Fin 2} {v : Int64} (hd : decode cc pc = .ok (.lconst n, 1)) (hv : Int64.ofNat (n : Nat) = v) (k : G E Y nL M (pc + 1) lv (.long v :: st)) : G E Y nL M pc lv (st) := by
  intro H locs ls hW hS hl
  exact lv_lconst C.1 C.2.1 hd hv (k H locs ls hW hS hl)
theorem g_iload_n (C : Cx E Y cc nL own d) {n : Fin 4} {i : Nat} {x : Int32} (hd : decode cc pc = .ok (.iload_n n, 1)) (hi : (n : Nat) = i) (hx : lk lv i = some (.int x)) (k : G E Y nL M (pc + 1) lv (.int x :: st)) : G E Y nL M pc lv (st) := by
  intro H locs ls hW hS hl
  exact lv_iload_n C.1 C.2.1 hd hi (lv_lk hl hx) (k H locs ls hW hS hl)
theorem g_iload (C : Cx E Y cc nL own d) {i : Nat} {x : Int32} (hd : decode cc pc = .ok (.iload i, 2)) (hx : lk lv i = some (.int x)) (k : G E Y nL M (pc + 2) lv (.int x :: st)) : G E Y nL M pc lv (st) := by
  intro H locs ls hW hS hl
  exact lv_iload C.1 C.2.1 hd (lv_lk hl hx) (k H locs ls hW hS hl)
theorem g_lload_n (C : Cx E Y cc nL own d) {n : Fin 4} {i : Nat} {x : Int64} (hd : decode cc pc = .ok (.lload_n n, 1)) (hi : (n : Nat) = i) (hx : lk lv i = some (.long x)) (k : G E Y nL M (pc + 1) lv (.long x :: st)) : G E Y nL M pc lv (st) := by
  intro H locs ls hW hS hl
  exact lv_lload_n C.1 C.2.1 hd hi (lv_lk hl hx) (k H locs ls hW hS hl)
theorem g_lload (C : Cx E Y cc nL own d) {i : Nat} {x : Int64} (hd : decode cc pc = .ok (.lload i, 2)) (hx : lk lv i = some (.long x)) (k : G E Y nL M (pc + 2) lv (.long x :: st)) : G E Y nL M pc lv (st) := by
  intro H locs ls hW hS hl
  exact lv_lload C.1 C.2.1 hd (lv_lk hl hx) (k H locs ls hW hS hl)
theorem g_aload_n (C : Cx E Y cc nL own d) {n : Fin 4} {i : Nat} {x : Nat} (hd : decode cc pc = .ok (.aload_n n, 1)) (hi : (n : Nat) = i) (hx : lk lv i = some (.ref x)) (k : G E Y nL M (pc + 1) lv (.ref x :: st)) : G E Y nL M pc lv (st) := by
  intro H locs ls hW hS hl
  exact lv_aload_n C.1 C.2.1 hd hi (lv_lk hl hx) (k H locs ls hW hS hl)
theorem g_aload (C : Cx E Y cc nL own d) {i : Nat} {x : Nat} (hd : decode cc pc = .ok (.aload i, 2)) (hx : lk lv i = some (.ref x)) (k : G E Y nL M (pc + 2) lv (.ref x :: st)) : G E Y nL M pc lv (st) := by
  intro H locs ls hW hS hl
  exact lv_aload C.1 C.2.1 hd (lv_lk hl hx) (k H locs ls hW hS hl)
theorem g_istore_n (C : Cx E Y cc nL own d) {n : Fin 4} {i : Nat} {x : Int32} (hd : decode cc pc = .ok (.istore_n n, 1)) (hi : (n : Nat) = i) (hn : Nat.blt (i) nL = true) (k : G E Y nL M (pc + 1) (st1 lv i (.int x)) st) : G E Y nL M pc lv (.int x :: st) := by
  intro H locs ls hW hS hl
  exact lv_istore_n C.1 C.2.1 hd hi hl (Nat.le_of_ble_eq_true hn) rfl (fun ls hl => k H locs ls hW hS hl)
theorem g_istore (C : Cx E Y cc nL own d) {i : Nat} {x : Int32} (hd : decode cc pc = .ok (.istore i, 2)) (hn : Nat.blt (i) nL = true) (k : G E Y nL M (pc + 2) (st1 lv i (.int x)) st) : G E Y nL M pc lv (.int x :: st) := by
  intro H locs ls hW hS hl
  exact lv_istore C.1 C.2.1 hd hl (Nat.le_of_ble_eq_true hn) rfl (fun ls hl => k H locs ls hW hS hl)
theorem g_lstore_n (C : Cx E Y cc nL own d) {n : Fin 4} {i : Nat} {x : Int64} (hd : decode cc pc = .ok (.lstore_n n, 1)) (hi : (n : Nat) = i) (hn : Nat.blt (i + 1) nL = true) (k : G E Y nL M (pc + 1) (st2 lv i (.long x)) st) : G E Y nL M pc lv (.long x :: st) := by
  intro H locs ls hW hS hl
  exact lv_lstore_n C.1 C.2.1 hd hi hl (Nat.le_of_ble_eq_true hn) rfl (fun ls hl => k H locs ls hW hS hl)
theorem g_lstore (C : Cx E Y cc nL own d) {i : Nat} {x : Int64} (hd : decode cc pc = .ok (.lstore i, 2)) (hn : Nat.blt (i + 1) nL = true) (k : G E Y nL M (pc + 2) (st2 lv i (.long x)) st) : G E Y nL M pc lv (.long x :: st) := by
  intro H locs ls hW hS hl
  exact lv_lstore C.1 C.2.1 hd hl (Nat.le_of_ble_eq_true hn) rfl (fun ls hl => k H locs ls hW hS hl)
theorem g_astore_n (C : Cx E Y cc nL own d) {n : Fin 4} {i : Nat} {x : Nat} (hd : decode cc pc = .ok (.astore_n n, 1)) (hi : (n : Nat) = i) (hn : Nat.blt (i) nL = true) (k : G E Y nL M (pc + 1) (st1 lv i (.ref x)) st) : G E Y nL M pc lv (.ref x :: st) := by
  intro H locs ls hW hS hl
  exact lv_astore_n C.1 C.2.1 hd hi hl (Nat.le_of_ble_eq_true hn) rfl (fun ls hl => k H locs ls hW hS hl)
theorem g_astore (C : Cx E Y cc nL own d) {i : Nat} {x : Nat} (hd : decode cc pc = .ok (.astore i, 2)) (hn : Nat.blt (i) nL = true) (k : G E Y nL M (pc + 2) (st1 lv i (.ref x)) st) : G E Y nL M pc lv (.ref x :: st) := by
  intro H locs ls hW hS hl
  exact lv_astore C.1 C.2.1 hd hl (Nat.le_of_ble_eq_true hn) rfl (fun ls hl => k H locs ls hW hS hl)
theorem g_iinc (C : Cx E Y cc nL own d) {i : Nat} {n : Int} {x w : Int32} (hd : decode cc pc = .ok (.iinc i n, 3)) (hx : lk lv i = some (.int x)) (hw : Int32.ofInt n = w) (hn : Nat.blt i nL = true) (k : G E Y nL M (pc + 3) (st1 lv i (.int (x + w))) st) : G E Y nL M pc lv st := by
  intro H locs ls hW hS hl
  obtain ⟨q, hq⟩ := List.getElem?_of_mem (lk_mem hx)
  exact lv_iinc C.1 C.2.1 hd hl (k := q) (v := x + w) hq (by rw [hw]) (Nat.le_of_ble_eq_true hn) rfl (fun ls hl => k H locs ls hW hS hl)
theorem g_iadd (C : Cx E Y cc nL own d) {x y : Int32} (hd : decode cc pc = .ok (.iadd, 1)) (k : G E Y nL M (pc + 1) lv (.int (x + y) :: st)) : G E Y nL M pc lv (.int y :: .int x :: st) := by
  intro H locs ls hW hS hl
  exact lv_iadd C.1 C.2.1 hd (k H locs ls hW hS hl)
theorem g_isub (C : Cx E Y cc nL own d) {x y : Int32} (hd : decode cc pc = .ok (.isub, 1)) (k : G E Y nL M (pc + 1) lv (.int (x - y) :: st)) : G E Y nL M pc lv (.int y :: .int x :: st) := by
  intro H locs ls hW hS hl
  exact lv_isub C.1 C.2.1 hd (k H locs ls hW hS hl)
theorem g_imul (C : Cx E Y cc nL own d) {x y : Int32} (hd : decode cc pc = .ok (.imul, 1)) (k : G E Y nL M (pc + 1) lv (.int (x * y) :: st)) : G E Y nL M pc lv (.int y :: .int x :: st) := by
  intro H locs ls hW hS hl
  exact lv_imul C.1 C.2.1 hd (k H locs ls hW hS hl)
theorem g_iand (C : Cx E Y cc nL own d) {x y : Int32} (hd : decode cc pc = .ok (.iand, 1)) (k : G E Y nL M (pc + 1) lv (.int (x &&& y) :: st)) : G E Y nL M pc lv (.int y :: .int x :: st) := by
  intro H locs ls hW hS hl
  exact lv_iand C.1 C.2.1 hd (k H locs ls hW hS hl)
theorem g_ior (C : Cx E Y cc nL own d) {x y : Int32} (hd : decode cc pc = .ok (.ior, 1)) (k : G E Y nL M (pc + 1) lv (.int (x ||| y) :: st)) : G E Y nL M pc lv (.int y :: .int x :: st) := by
  intro H locs ls hW hS hl
  exact lv_ior C.1 C.2.1 hd (k H locs ls hW hS hl)
theorem g_ixor (C : Cx E Y cc nL own d) {x y : Int32} (hd : decode cc pc = .ok (.ixor, 1)) (k : G E Y nL M (pc + 1) lv (.int (x ^^^ y) :: st)) : G E Y nL M pc lv (.int y :: .int x :: st) := by
  intro H locs ls hW hS hl
  exact lv_ixor C.1 C.2.1 hd (k H locs ls hW hS hl)
theorem g_ishl (C : Cx E Y cc nL own d) {x y : Int32} (hd : decode cc pc = .ok (.ishl, 1)) (k : G E Y nL M (pc + 1) lv (.int (x <<< (y &&& 31)) :: st)) : G E Y nL M pc lv (.int y :: .int x :: st) := by
  intro H locs ls hW hS hl
  exact lv_ishl C.1 C.2.1 hd (k H locs ls hW hS hl)
theorem g_ishr (C : Cx E Y cc nL own d) {x y : Int32} (hd : decode cc pc = .ok (.ishr, 1)) (k : G E Y nL M (pc + 1) lv (.int (x >>> (y &&& 31)) :: st)) : G E Y nL M pc lv (.int y :: .int x :: st) := by
  intro H locs ls hW hS hl
  exact lv_ishr C.1 C.2.1 hd (k H locs ls hW hS hl)
theorem g_idiv (C : Cx E Y cc nL own d) {x y : Int32} (hd : decode cc pc = .ok (.idiv, 1)) (hne : ¬ y = 0) (k : G E Y nL M (pc + 1) lv (.int (x / y) :: st)) : G E Y nL M pc lv (.int y :: .int x :: st) := by
  intro H locs ls hW hS hl
  exact lv_idiv C.1 C.2.1 hd hne (k H locs ls hW hS hl)
theorem g_irem (C : Cx E Y cc nL own d) {x y : Int32} (hd : decode cc pc = .ok (.irem, 1)) (hne : ¬ y = 0) (k : G E Y nL M (pc + 1) lv (.int (jrem x y) :: st)) : G E Y nL M pc lv (.int y :: .int x :: st) := by
  intro H locs ls hW hS hl
  exact lv_irem C.1 C.2.1 hd hne (k H locs ls hW hS hl)
theorem g_iushr (C : Cx E Y cc nL own d) {x y : Int32} (hd : decode cc pc = .ok (.iushr, 1)) (k : G E Y nL M (pc + 1) lv (.int (iushr x y) :: st)) : G E Y nL M pc lv (.int y :: .int x :: st) := by
  intro H locs ls hW hS hl
  exact lv_iushr C.1 C.2.1 hd rfl (k H locs ls hW hS hl)
theorem g_ineg (C : Cx E Y cc nL own d) {x : Int32} (hd : decode cc pc = .ok (.ineg, 1)) (k : G E Y nL M (pc + 1) lv (.int (-x) :: st)) : G E Y nL M pc lv (.int x :: st) := by
  intro H locs ls hW hS hl
  exact lv_ineg C.1 C.2.1 hd (k H locs ls hW hS hl)
theorem g_ladd (C : Cx E Y cc nL own d) {x y : Int64} (hd : decode cc pc = .ok (.ladd, 1)) (k : G E Y nL M (pc + 1) lv (.long (x + y) :: st)) : G E Y nL M pc lv (.long y :: .long x :: st) := by
  intro H locs ls hW hS hl
  exact lv_ladd C.1 C.2.1 hd (k H locs ls hW hS hl)
theorem g_lsub (C : Cx E Y cc nL own d) {x y : Int64} (hd : decode cc pc = .ok (.lsub, 1)) (k : G E Y nL M (pc + 1) lv (.long (x - y) :: st)) : G E Y nL M pc lv (.long y :: .long x :: st) := by
  intro H locs ls hW hS hl
  exact lv_lsub C.1 C.2.1 hd (k H locs ls hW hS hl)
theorem g_lmul (C : Cx E Y cc nL own d) {x y : Int64} (hd : decode cc pc = .ok (.lmul, 1)) (k : G E Y nL M (pc + 1) lv (.long (x * y) :: st)) : G E Y nL M pc lv (.long y :: .long x :: st) := by
  intro H locs ls hW hS hl
  exact lv_lmul C.1 C.2.1 hd (k H locs ls hW hS hl)
theorem g_land (C : Cx E Y cc nL own d) {x y : Int64} (hd : decode cc pc = .ok (.land, 1)) (k : G E Y nL M (pc + 1) lv (.long (x &&& y) :: st)) : G E Y nL M pc lv (.long y :: .long x :: st) := by
  intro H locs ls hW hS hl
  exact lv_land C.1 C.2.1 hd (k H locs ls hW hS hl)
theorem g_lor (C : Cx E Y cc nL own d) {x y : Int64} (hd : decode cc pc = .ok (.lor, 1)) (k : G E Y nL M (pc + 1) lv (.long (x ||| y) :: st)) : G E Y nL M pc lv (.long y :: .long x :: st) := by
  intro H locs ls hW hS hl
  exact lv_lor C.1 C.2.1 hd (k H locs ls hW hS hl)
theorem g_ldiv (C : Cx E Y cc nL own d) {x y : Int64} (hd : decode cc pc = .ok (.ldiv, 1)) (hne : ¬ y = 0) (k : G E Y nL M (pc + 1) lv (.long (x / y) :: st)) : G E Y nL M pc lv (.long y :: .long x :: st) := by
  intro H locs ls hW hS hl
  exact lv_ldiv C.1 C.2.1 hd hne (k H locs ls hW hS hl)
theorem g_lrem (C : Cx E Y cc nL own d) {x y : Int64} (hd : decode cc pc = .ok (.lrem, 1)) (hne : ¬ y = 0) (k : G E Y nL M (pc + 1) lv (.long (jreml x y) :: st)) : G E Y nL M pc lv (.long y :: .long x :: st) := by
  intro H locs ls hW hS hl
  exact lv_lrem C.1 C.2.1 hd hne (k H locs ls hW hS hl)
theorem g_lshl (C : Cx E Y cc nL own d) {x : Int64} {y : Int32} (hd : decode cc pc = .ok (.lshl, 1)) (k : G E Y nL M (pc + 1) lv (.long (x <<< (y.toInt64 &&& 63)) :: st)) : G E Y nL M pc lv (.int y :: .long x :: st) := by
  intro H locs ls hW hS hl
  exact lv_lshl C.1 C.2.1 hd rfl (k H locs ls hW hS hl)
theorem g_lcmp (C : Cx E Y cc nL own d) {x y : Int64} (hd : decode cc pc = .ok (.lcmp, 1)) (k : G E Y nL M (pc + 1) lv (.int (lg_cmp x y) :: st)) : G E Y nL M pc lv (.long y :: .long x :: st) := by
  intro H locs ls hW hS hl
  exact W.lcmp C.1 C.2.1 hd (k H locs ls hW hS hl)
theorem g_i2l (C : Cx E Y cc nL own d) {x : Int32} (hd : decode cc pc = .ok (.i2l, 1)) (k : G E Y nL M (pc + 1) lv (.long x.toInt64 :: st)) : G E Y nL M pc lv (.int x :: st) := by
  intro H locs ls hW hS hl
  exact lv_i2l C.1 C.2.1 hd rfl (k H locs ls hW hS hl)
theorem g_l2i (C : Cx E Y cc nL own d) {x : Int64} (hd : decode cc pc = .ok (.l2i, 1)) (k : G E Y nL M (pc + 1) lv (.int x.toInt32 :: st)) : G E Y nL M pc lv (.long x :: st) := by
  intro H locs ls hW hS hl
  exact lv_l2i C.1 C.2.1 hd rfl (k H locs ls hW hS hl)
theorem g_i2b (C : Cx E Y cc nL own d) {x : Int32} (hd : decode cc pc = .ok (.i2b, 1)) (k : G E Y nL M (pc + 1) lv (.int x.toInt8.toInt32 :: st)) : G E Y nL M pc lv (.int x :: st) := by
  intro H locs ls hW hS hl
  exact lv_i2b C.1 C.2.1 hd rfl (k H locs ls hW hS hl)
theorem g_i2s (C : Cx E Y cc nL own d) {x : Int32} (hd : decode cc pc = .ok (.i2s, 1)) (k : G E Y nL M (pc + 1) lv (.int x.toInt16.toInt32 :: st)) : G E Y nL M pc lv (.int x :: st) := by
  intro H locs ls hW hS hl
  exact lv_i2s C.1 C.2.1 hd rfl (k H locs ls hW hS hl)
theorem g_dup (C : Cx E Y cc nL own d) {a : Value} (hd : decode cc pc = .ok (.dup, 1)) (ha : a.category = 1) (k : G E Y nL M (pc + 1) lv (a :: a :: st)) : G E Y nL M pc lv (a :: st) := by
  intro H locs ls hW hS hl
  exact lv_dup C.1 C.2.1 hd ha (k H locs ls hW hS hl)
theorem g_dup2 (C : Cx E Y cc nL own d) {a b : Value} (hd : decode cc pc = .ok (.dup2, 1)) (ha : a.category = 1) (hb : b.category = 1) (k : G E Y nL M (pc + 1) lv (a :: b :: a :: b :: st)) : G E Y nL M pc lv (a :: b :: st) := by
  intro H locs ls hW hS hl
  exact lv_dup2_11 C.1 C.2.1 hd ha hb (k H locs ls hW hS hl)
theorem g_pop (C : Cx E Y cc nL own d) {a : Value} (hd : decode cc pc = .ok (.pop, 1)) (ha : a.category = 1) (k : G E Y nL M (pc + 1) lv (st)) : G E Y nL M pc lv (a :: st) := by
  intro H locs ls hW hS hl
  exact lv_pop C.1 C.2.1 hd ha (k H locs ls hW hS hl)
theorem g_goto (C : Cx E Y cc nL own d) {off : Int} {tgt : Nat} (hd : decode cc pc = .ok (.goto off, 3)) (ht : (pc : Int) + off = (tgt : Int)) (k : G E Y nL M tgt lv st) : G E Y nL M pc lv st := by
  intro H locs ls hW hS hl
  exact lv_goto C.1 C.2.1 hd ht (k H locs ls hW hS hl)
theorem g_if_eq (C : Cx E Y cc nL own d) {α : Type} {A B r : α} {x : Int32} {off : Int} {tgt : Nat} (hd : decode cc pc = .ok (.ifCond .eq off, 3)) (ht : (pc : Int) + off = (tgt : Int)) (h : (if x = 0 then A else B) = r) (kt : A = r → G E Y nL M tgt lv st) (kf : B = r → G E Y nL M (pc + 3) lv st) : G E Y nL M pc lv (.int x :: st) := by
  intro H locs ls hW hS hl
  by_cases hP : x = 0
  · rw [if_pos hP] at h
    exact lv_if_eq C.1 C.2.1 hd ht (fun q => kt h H locs ls hW hS hl) (fun q => absurd hP q)
  · rw [if_neg hP] at h
    exact lv_if_eq C.1 C.2.1 hd ht (fun q => absurd q hP) (fun q => kf h H locs ls hW hS hl)
theorem g_if_ne (C : Cx E Y cc nL own d) {α : Type} {A B r : α} {x : Int32} {off : Int} {tgt : Nat} (hd : decode cc pc = .ok (.ifCond .ne off, 3)) (ht : (pc : Int) + off = (tgt : Int)) (h : (if x = 0 then A else B) = r) (kt : B = r → G E Y nL M tgt lv st) (kf : A = r → G E Y nL M (pc + 3) lv st) : G E Y nL M pc lv (.int x :: st) := by
  intro H locs ls hW hS hl
  by_cases hP : x = 0
  · rw [if_pos hP] at h
    exact lv_if_ne C.1 C.2.1 hd ht (fun q => absurd hP q) (fun q => kf h H locs ls hW hS hl)
  · rw [if_neg hP] at h
    exact lv_if_ne C.1 C.2.1 hd ht (fun q => kt h H locs ls hW hS hl) (fun q => absurd q hP)
theorem g_if_lt (C : Cx E Y cc nL own d) {α : Type} {A B r : α} {x : Int32} {off : Int} {tgt : Nat} (hd : decode cc pc = .ok (.ifCond .lt off, 3)) (ht : (pc : Int) + off = (tgt : Int)) (h : (if x < 0 then A else B) = r) (kt : A = r → G E Y nL M tgt lv st) (kf : B = r → G E Y nL M (pc + 3) lv st) : G E Y nL M pc lv (.int x :: st) := by
  intro H locs ls hW hS hl
  by_cases hP : x < 0
  · rw [if_pos hP] at h
    exact lv_if_lt C.1 C.2.1 hd ht (fun q => kt h H locs ls hW hS hl) (fun q => absurd hP q)
  · rw [if_neg hP] at h
    exact lv_if_lt C.1 C.2.1 hd ht (fun q => absurd q hP) (fun q => kf h H locs ls hW hS hl)
theorem g_if_ge (C : Cx E Y cc nL own d) {α : Type} {A B r : α} {x : Int32} {off : Int} {tgt : Nat} (hd : decode cc pc = .ok (.ifCond .ge off, 3)) (ht : (pc : Int) + off = (tgt : Int)) (h : (if x < 0 then A else B) = r) (kt : B = r → G E Y nL M tgt lv st) (kf : A = r → G E Y nL M (pc + 3) lv st) : G E Y nL M pc lv (.int x :: st) := by
  intro H locs ls hW hS hl
  by_cases hP : x < 0
  · rw [if_pos hP] at h
    exact lv_if_ge C.1 C.2.1 hd ht (fun q => absurd q (Int32.not_le.mpr hP)) (fun q => kf h H locs ls hW hS hl)
  · rw [if_neg hP] at h
    exact lv_if_ge C.1 C.2.1 hd ht (fun q => kt h H locs ls hW hS hl) (fun q => absurd (Int32.not_lt.mp hP) q)
theorem g_if_gt (C : Cx E Y cc nL own d) {α : Type} {A B r : α} {x : Int32} {off : Int} {tgt : Nat} (hd : decode cc pc = .ok (.ifCond .gt off, 3)) (ht : (pc : Int) + off = (tgt : Int)) (h : (if 0 < x then A else B) = r) (kt : A = r → G E Y nL M tgt lv st) (kf : B = r → G E Y nL M (pc + 3) lv st) : G E Y nL M pc lv (.int x :: st) := by
  intro H locs ls hW hS hl
  by_cases hP : 0 < x
  · rw [if_pos hP] at h
    exact lv_if_gt C.1 C.2.1 hd ht (fun q => kt h H locs ls hW hS hl) (fun q => absurd hP q)
  · rw [if_neg hP] at h
    exact lv_if_gt C.1 C.2.1 hd ht (fun q => absurd q hP) (fun q => kf h H locs ls hW hS hl)
theorem g_if_le (C : Cx E Y cc nL own d) {α : Type} {A B r : α} {x : Int32} {off : Int} {tgt : Nat} (hd : decode cc pc = .ok (.ifCond .le off, 3)) (ht : (pc : Int) + off = (tgt : Int)) (h : (if 0 < x then A else B) = r) (kt : B = r → G E Y nL M tgt lv st) (kf : A = r → G E Y nL M (pc + 3) lv st) : G E Y nL M pc lv (.int x :: st) := by
  intro H locs ls hW hS hl
  by_cases hP : 0 < x
  · rw [if_pos hP] at h
    exact lv_if_le C.1 C.2.1 hd ht (fun q => absurd q (Int32.not_le.mpr hP)) (fun q => kf h H locs ls hW hS hl)
  · rw [if_neg hP] at h
    exact lv_if_le C.1 C.2.1 hd ht (fun q => kt h H locs ls hW hS hl) (fun q => absurd (Int32.not_lt.mp hP) q)
theorem g_icmp_eq (C : Cx E Y cc nL own d) {α : Type} {A B r : α} {x y : Int32} {off : Int} {tgt : Nat} (hd : decode cc pc = .ok (.if_icmp .eq off, 3)) (ht : (pc : Int) + off = (tgt : Int)) (h : (if x = y then A else B) = r) (kt : A = r → G E Y nL M tgt lv st) (kf : B = r → G E Y nL M (pc + 3) lv st) : G E Y nL M pc lv (.int y :: .int x :: st) := by
  intro H locs ls hW hS hl
  by_cases hP : x = y
  · rw [if_pos hP] at h
    exact lv_icmp_eq C.1 C.2.1 hd ht (fun q => kt h H locs ls hW hS hl) (fun q => absurd hP q)
  · rw [if_neg hP] at h
    exact lv_icmp_eq C.1 C.2.1 hd ht (fun q => absurd q hP) (fun q => kf h H locs ls hW hS hl)
theorem g_icmp_ne (C : Cx E Y cc nL own d) {α : Type} {A B r : α} {x y : Int32} {off : Int} {tgt : Nat} (hd : decode cc pc = .ok (.if_icmp .ne off, 3)) (ht : (pc : Int) + off = (tgt : Int)) (h : (if x = y then A else B) = r) (kt : B = r → G E Y nL M tgt lv st) (kf : A = r → G E Y nL M (pc + 3) lv st) : G E Y nL M pc lv (.int y :: .int x :: st) := by
  intro H locs ls hW hS hl
  by_cases hP : x = y
  · rw [if_pos hP] at h
    exact lv_icmp_ne C.1 C.2.1 hd ht (fun q => absurd hP q) (fun q => kf h H locs ls hW hS hl)
  · rw [if_neg hP] at h
    exact lv_icmp_ne C.1 C.2.1 hd ht (fun q => kt h H locs ls hW hS hl) (fun q => absurd q hP)
theorem g_icmp_lt (C : Cx E Y cc nL own d) {α : Type} {A B r : α} {x y : Int32} {off : Int} {tgt : Nat} (hd : decode cc pc = .ok (.if_icmp .lt off, 3)) (ht : (pc : Int) + off = (tgt : Int)) (h : (if x < y then A else B) = r) (kt : A = r → G E Y nL M tgt lv st) (kf : B = r → G E Y nL M (pc + 3) lv st) : G E Y nL M pc lv (.int y :: .int x :: st) := by
  intro H locs ls hW hS hl
  by_cases hP : x < y
  · rw [if_pos hP] at h
    exact lv_icmp_lt C.1 C.2.1 hd ht (fun q => kt h H locs ls hW hS hl) (fun q => absurd hP q)
  · rw [if_neg hP] at h
    exact lv_icmp_lt C.1 C.2.1 hd ht (fun q => absurd q hP) (fun q => kf h H locs ls hW hS hl)
theorem g_icmp_ge (C : Cx E Y cc nL own d) {α : Type} {A B r : α} {x y : Int32} {off : Int} {tgt : Nat} (hd : decode cc pc = .ok (.if_icmp .ge off, 3)) (ht : (pc : Int) + off = (tgt : Int)) (h : (if x < y then A else B) = r) (kt : B = r → G E Y nL M tgt lv st) (kf : A = r → G E Y nL M (pc + 3) lv st) : G E Y nL M pc lv (.int y :: .int x :: st) := by
  intro H locs ls hW hS hl
  by_cases hP : x < y
  · rw [if_pos hP] at h
    exact lv_icmp_ge C.1 C.2.1 hd ht (fun q => absurd q (Int32.not_le.mpr hP)) (fun q => kf h H locs ls hW hS hl)
  · rw [if_neg hP] at h
    exact lv_icmp_ge C.1 C.2.1 hd ht (fun q => kt h H locs ls hW hS hl) (fun q => absurd (Int32.not_lt.mp hP) q)
theorem g_icmp_gt (C : Cx E Y cc nL own d) {α : Type} {A B r : α} {x y : Int32} {off : Int} {tgt : Nat} (hd : decode cc pc = .ok (.if_icmp .gt off, 3)) (ht : (pc : Int) + off = (tgt : Int)) (h : (if y < x then A else B) = r) (kt : A = r → G E Y nL M tgt lv st) (kf : B = r → G E Y nL M (pc + 3) lv st) : G E Y nL M pc lv (.int y :: .int x :: st) := by
  intro H locs ls hW hS hl
  by_cases hP : y < x
  · rw [if_pos hP] at h
    exact lv_icmp_gt C.1 C.2.1 hd ht (fun q => kt h H locs ls hW hS hl) (fun q => absurd hP q)
  · rw [if_neg hP] at h
    exact lv_icmp_gt C.1 C.2.1 hd ht (fun q => absurd q hP) (fun q => kf h H locs ls hW hS hl)
theorem g_icmp_le (C : Cx E Y cc nL own d) {α : Type} {A B r : α} {x y : Int32} {off : Int} {tgt : Nat} (hd : decode cc pc = .ok (.if_icmp .le off, 3)) (ht : (pc : Int) + off = (tgt : Int)) (h : (if y < x then A else B) = r) (kt : B = r → G E Y nL M tgt lv st) (kf : A = r → G E Y nL M (pc + 3) lv st) : G E Y nL M pc lv (.int y :: .int x :: st) := by
  intro H locs ls hW hS hl
  by_cases hP : y < x
  · rw [if_pos hP] at h
    exact lv_icmp_le C.1 C.2.1 hd ht (fun q => absurd q (Int32.not_le.mpr hP)) (fun q => kf h H locs ls hW hS hl)
  · rw [if_neg hP] at h
    exact lv_icmp_le C.1 C.2.1 hd ht (fun q => kt h H locs ls hW hS hl) (fun q => absurd (Int32.not_lt.mp hP) q)
-- indices within
def inb (x : Int32) (n : Nat) : Bool := !(decide (x < 0)) && decide (x.toNatClampNeg < n)
theorem inb_in {x : Int32} {n : Nat} (h : inb x n = true) : vp_in x n := by
  unfold inb at h
  simp only [Bool.and_eq_true, Bool.not_eq_true', decide_eq_false_iff_not, decide_eq_true_eq] at h
  intro q
  rcases q with q | q
  · exact h.1 q
  · omega
theorem in_inb {x : Int32} {n : Nat} (h : vp_in x n) : inb x n = true := by
  unfold inb
  simp only [Bool.and_eq_true, Bool.not_eq_true', decide_eq_false_iff_not, decide_eq_true_eq]
  exact ⟨fun q => h (Or.inl q), Nat.not_le.mp fun q => h (Or.inr q)⟩
theorem inb_lt {x : Int32} {n : Nat} (h : inb x n = true) : x.toNatClampNeg < n := Nat.not_le.mp fun q => inb_in h (Or.inr q)
theorem inb_add {x : Int32} {n m c : Nat} (h : inb x n = true) (hc : n + m ≤ c) : x.toNatClampNeg + m < c := by
  have := inb_lt h
  omega
theorem of_iten {α : Type} {c : Prop} [Decidable c] {K : Option α} {q : α} (h : (if c then none else K) = some q) : (¬ c) ∧ K = some q := by
  by_cases hc : c
  · rw [if_pos hc] at h; cases h
  · rw [if_neg hc] at h; exact ⟨hc, h⟩
theorem of_ites {α : Type} {c : Prop} [Decidable c] {A B : Option α} {q : Option α} (h : (if c then A else B) = q) : (c ∧ A = q) ∨ ((¬ c) ∧ B = q) := by
  by_cases hc : c
  · rw [if_pos hc] at h; exact Or.inl ⟨hc, h⟩
  · rw [if_neg hc] at h; exact Or.inr ⟨hc, h⟩
theorem of_ite {α : Type} {c : Prop} [Decidable c] {K : Option α} {q : α} (h : (if c then K else none) = some q) : c ∧ K = some q := by
  by_cases hc : c
  · rw [if_pos hc] at h; exact ⟨hc, h⟩
  · rw [if_neg hc] at h; cases h
-- switches
def tabNeg (x : Int32) (lo : Int) : Nat → Prop
  | 0 => True
  | n + 1 => (¬ x = Int32.ofInt lo) ∧ tabNeg x (lo + 1) n
theorem tabNeg_out {x : Int32} : ∀ {n : Nat} {lo : Int}, tabNeg x lo n → x.toInt < lo ∨ lo + n ≤ x.toInt
  | 0, lo, _ => by omega
  | n + 1, lo, h => by
    rcases tabNeg_out h.2 with h2 | h2
    · by_cases e : x.toInt = lo
      · exact absurd (by rw [← e]; exact (Int32.ofInt_toInt x).symm) h.1
      · left; omega
    · right; omega
theorem g_tabIn (C : Cx E Y cc nL own d) {dflt lo hi : Int} {offs : Array Int} {len : Nat} {x : Int32} (v : Int32) {off : Int} {tgt : Nat} (hd : decode cc pc = .ok (.tableswitch dflt lo hi offs, len)) (hx : x = v) (h1 : ¬ v.toInt < lo) (h2 : ¬ hi < v.toInt) (ho : offs[(v.toInt - lo).toNat]? = some off) (ht : (pc : Int) + off = (tgt : Int)) (k : G E Y nL M tgt lv st) : G E Y nL M pc lv (.int x :: st) := by
  subst hx
  intro H locs ls hW hS hl
  exact lv_tableIn C.1 C.2.1 hd h1 h2 ho ht (k H locs ls hW hS hl)
theorem g_tabOut (C : Cx E Y cc nL own d) {dflt lo hi : Int} {offs : Array Int} {len : Nat} {x : Int32} {n tgt : Nat} (hd : decode cc pc = .ok (.tableswitch dflt lo hi offs, len)) (hx : tabNeg x lo n) (hn : lo + (n : Int) = hi + 1) (ht : (pc : Int) + dflt = (tgt : Int)) (k : G E Y nL M tgt lv st) : G E Y nL M pc lv (.int x :: st) := by
  intro H locs ls hW hS hl
  refine lv_tableOut C.1 C.2.1 hd ?_ ht (k H locs ls hW hS hl)
  rcases tabNeg_out hx with h | h
  · exact Or.inl h
  · right; omega
theorem g_lookup (C : Cx E Y cc nL own d) {dflt : Int} {ps : Array (Int × Int)} {len : Nat} {x : Int32} (off : Int) {tgt : Nat} (hd : decode cc pc = .ok (.lookupswitch dflt ps, len)) (hp : (ps.toList.zip (ps.toList.drop 1)).all (fun (a, next) => a.1 < next.1) = true) (ho : Op.lookupswitch.offset ps.toList dflt x.toInt = off) (ht : (pc : Int) + off = (tgt : Int)) (k : G E Y nL M tgt lv st) : G E Y nL M pc lv (.int x :: st) := by
  intro H locs ls hW hS hl
  exact lv_lookup C.1 C.2.1 hd hp ho ht (k H locs ls hW hS hl)
-- fields
theorem g_get (C : Cx E Y cc nL own d) {c i k ci N index : Nat} {CN ref : String} {T : u_T} {fs : List Value} {v : Value} (hd : decode cc pc = .ok (.getfield index, 3)) (he : cE E M c i = .inr (ci, fs)) (hi : i < cnt c) (hc : vwCl[ci]? = some (CN, T, N)) (hk : k < N) (hlay : ∀ w ∈ u_ws CN T N, w ∈ WT)
    (hl : Cond.fieldLink own index ref (T k).2.1 (T k).2.2.1 ∈ WT) (hr : (T k).1 = ref) (hv : fs[k]? = some v) (kk : G E Y nL M (pc + 3) lv (v :: st)) : G E Y nL M pc lv (.ref (ad E c i) :: st) := by
  intro H locs ls hW hS hl'
  obtain ⟨q, hq⟩ := allC_in hi
  exact va_get (D := E.1) (cl := vwCl) (tys := tysL E) (ws := wl E M) (ci := ci) C.1 C.2.1 C.2.2.2.2.1 hlay C.2.2.2.1 C.2.2.2.2.2.1 (wl_P hW) q (wl_at hq M he) hc k hk (C.2.2.2.2.1 _ hl) (fun x h => hr ▸ h) hv hd (kk H locs ls hW hS hl')
theorem g_put (C : Cx E Y cc nL own d) {c i k ci N index : Nat} {CN ref : String} {T : u_T} {ty0 : Nat → FieldType} {fs : List Value} {v : Value} {M' : Mem} (hd : decode cc pc = .ok (.putfield index, 3)) (he : cE E M c i = .inr (ci, fs)) (he' : cE E M' c i = .inr (ci, fs.set k v)) (hM : ∀ a b, ¬ (a = c ∧ b = i) → cE E M' a b = cE E M a b) (hi : i < cnt c) (hc : vwCl[ci]? = some (CN, T, N)) (hk : k < N) (hlay : ∀ w ∈ u_ws CN T N, w ∈ WT)
    (hty : ∀ k, k < N → parseFieldDescriptor (T k).2.2.1 = some (ty0 k)) (hnm : ∀ a, a < N → ∀ b, b < N → a ≠ b → (T a).2.1 ≠ (T b).2.1)
    (hl : Cond.fieldLink own index ref (T k).2.1 (T k).2.2.1 ∈ WT) (hr : (T k).1 = ref) (hfin : (T k).2.2.2 = false) (hn : narrow (ty0 k) v = v) (hfit : fits (ty0 k) v = true) (hlen : k < fs.length) (kk : G E Y nL M' (pc + 3) lv st) : G E Y nL M pc lv (v :: .ref (ad E c i) :: st) := by
  intro H locs ls hW hS hl'
  obtain ⟨q, hq⟩ := allC_in hi
  refine va_put (D := E.1) (cl := vwCl) (tys := tysL E) (ws := wl E M) (A := yA Y) (ci := ci) C.1 C.2.1 C.2.2.2.2.1 hlay ty0 hty hnm C.2.2.2.1 C.2.2.2.2.2.1 (wl_P hW) (wl_D C.2.2.2.2.2.2.2.1) hS q (wl_at hq M he) hc k hk (C.2.2.2.2.1 _ hl) (fun x h => hr ▸ h) hfin (hty k hk) hn hfit hlen hd (fun H1 locs1 hP1 _ hS1 => ?_)
  rw [wl_set hq he' hM] at hP1
  exact kk H1 locs1 ls (wl_W hP1) hS1 hl'
-- arrays
theorem g_iald (C : Cx E Y cc nL own d) {c i n : Nat} {x : Int32} {f : Nat → Int32} (hd : decode cc pc = .ok (.iaload, 1)) (he : cE E M c i = .inl (E.2.1 0, n, .inl f)) (hi : i < cnt c) (hin : vp_in x n) (k : G E Y nL M (pc + 1) lv (.int (f x.toNatClampNeg) :: st)) : G E Y nL M pc lv (.int x :: .ref (ad E c i) :: st) := by
  intro H locs ls hW hS hl
  obtain ⟨q, hq⟩ := allC_in hi
  exact va_iald (D := E.1) (cl := vwCl) (tys := tysL E) (ws := wl E M) C.1 C.2.1 C.2.2.2.2.2.1 (wl_P hW) q 0 (wl_at hq M he) rfl hin hd (k H locs ls hW hS hl)
theorem g_bald (C : Cx E Y cc nL own d) {c i n : Nat} {x : Int32} {f : Nat → Int32} (hd : decode cc pc = .ok (.baload, 1)) (he : cE E M c i = .inl (E.2.1 1, n, .inl f)) (hi : i < cnt c) (hin : vp_in x n) (k : G E Y nL M (pc + 1) lv (.int (f x.toNatClampNeg) :: st)) : G E Y nL M pc lv (.int x :: .ref (ad E c i) :: st) := by
  intro H locs ls hW hS hl
  obtain ⟨q, hq⟩ := allC_in hi
  exact va_bald (D := E.1) (cl := vwCl) (tys := tysL E) (ws := wl E M) C.1 C.2.1 C.2.2.2.2.2.1 (wl_P hW) q 1 (wl_at hq M he) rfl hin hd (k H locs ls hW hS hl)
theorem g_lald (C : Cx E Y cc nL own d) {c i n : Nat} {x : Int32} {f : Nat → Int64} (hd : decode cc pc = .ok (.laload, 1)) (he : cE E M c i = .inl (E.2.1 2, n, .inr (.inl f))) (hi : i < cnt c) (hin : vp_in x n) (k : G E Y nL M (pc + 1) lv (.long (f x.toNatClampNeg) :: st)) : G E Y nL M pc lv (.int x :: .ref (ad E c i) :: st) := by
  intro H locs ls hW hS hl
  obtain ⟨q, hq⟩ := allC_in hi
  exact va_lald (D := E.1) (cl := vwCl) (tys := tysL E) (ws := wl E M) C.1 C.2.1 C.2.2.2.2.2.1 (wl_P hW) q 2 (wl_at hq M he) rfl hin hd (k H locs ls hW hS hl)
theorem g_aald (C : Cx E Y cc nL own d) {c i n t : Nat} {CN : String} {x : Int32} {f : Nat → Option Nat} {a : Nat} (hd : decode cc pc = .ok (.aaload, 1)) (he : cE E M c i = .inl (E.2.1 t, n, .inr (.inr (.inr (.inr f))))) (ht : (tysL E)[t]? = some (E.2.1 t, .object CN)) (hi : i < cnt c) (hin : vp_in x n) (hf : f x.toNatClampNeg = some a) (k : G E Y nL M (pc + 1) lv (.ref a :: st)) : G E Y nL M pc lv (.int x :: .ref (ad E c i) :: st) := by
  intro H locs ls hW hS hl
  obtain ⟨q, hq⟩ := allC_in hi
  refine va_aldq (D := E.1) (cl := vwCl) (tys := tysL E) (ws := wl E M) C.1 C.2.1 C.2.2.2.2.2.1 (wl_P hW) q t (wl_at hq M he) ht hin hd ?_
  rw [hf]
  exact k H locs ls hW hS hl
theorem g_aaldA (C : Cx E Y cc nL own d) {c i n : Nat} {x : Int32} {f : Nat → Option Nat} {a : Nat} (hd : decode cc pc = .ok (.aaload, 1)) (he : cE E M c i = .inl (E.2.1 5, n, .inr (.inr (.inr (.inr f))))) (hi : i < cnt c) (hin : vp_in x n) (hf : f x.toNatClampNeg = some a) (k : G E Y nL M (pc + 1) lv (.ref a :: st)) : G E Y nL M pc lv (.int x :: .ref (ad E c i) :: st) := by
  intro H locs ls hW hS hl
  obtain ⟨q, hq⟩ := allC_in hi
  have hlt : x.toNatClampNeg < n := Nat.not_le.mp fun z => hin (Or.inr z)
  have hK := C.2.2.2.2.2.1
  refine W.aald (v := va_rf (f x.toNatClampNeg)) (ty := .array .long) C.1 C.2.1 (wl_P hW q _ (wl_at hq M he)) ((hK.2 5 (E.2.1 5, .array .long) rfl).1 n (fun j => va_rf (f j))) rfl (fun z => by cases z) (by show ¬ (x < 0 ∨ (arrV _ _ _).slots.size ≤ _); rw [arrV_size]; exact hin) (by show (arrV _ _ _).slots[_]? = _; rw [arrV_read _ _ hlt]) rfl rfl hd ?_
  rw [hf]
  exact k H locs ls hW hS hl
theorem g_iast (C : Cx E Y cc nL own d) {c i n : Nat} {x v : Int32} {f : Nat → Int32} {M' : Mem} (hd : decode cc pc = .ok (.iastore, 1)) (he : cE E M c i = .inl (E.2.1 0, n, .inl f)) (he' : cE E M' c i = .inl (E.2.1 0, n, .inl (upd f x.toNatClampNeg v))) (hM : ∀ a b, ¬ (a = c ∧ b = i) → cE E M' a b = cE E M a b) (hi : i < cnt c) (hin : vp_in x n) (k : G E Y nL M' (pc + 1) lv st) : G E Y nL M pc lv (.int v :: .int x :: .ref (ad E c i) :: st) := by
  intro H locs ls hW hS hl
  obtain ⟨q, hq⟩ := allC_in hi
  refine va_iast (D := E.1) (cl := vwCl) (tys := tysL E) (ws := wl E M) (A := yA Y) C.1 C.2.1 C.2.2.2.2.2.1 (wl_P hW) (wl_D C.2.2.2.2.2.2.2.1) hS q 0 (wl_at hq M he) rfl hin hd (fun H1 locs1 hP1 _ hS1 => ?_)
  rw [wl_set hq he' hM] at hP1
  exact k H1 locs1 ls (wl_W hP1) hS1 hl
theorem g_bast (C : Cx E Y cc nL own d) {c i n : Nat} {x v : Int32} {f : Nat → Int32} {M' : Mem} (hd : decode cc pc = .ok (.bastore, 1)) (he : cE E M c i = .inl (E.2.1 1, n, .inl f)) (he' : cE E M' c i = .inl (E.2.1 1, n, .inl (upd f x.toNatClampNeg v.toInt8.toInt32))) (hM : ∀ a b, ¬ (a = c ∧ b = i) → cE E M' a b = cE E M a b) (hi : i < cnt c) (hin : vp_in x n) (k : G E Y nL M' (pc + 1) lv st) : G E Y nL M pc lv (.int v :: .int x :: .ref (ad E c i) :: st) := by
  intro H locs ls hW hS hl
  obtain ⟨q, hq⟩ := allC_in hi
  refine va_bast (D := E.1) (cl := vwCl) (tys := tysL E) (ws := wl E M) (A := yA Y) C.1 C.2.1 C.2.2.2.2.2.1 (wl_P hW) (wl_D C.2.2.2.2.2.2.2.1) hS q 1 (wl_at hq M he) rfl hin hd (fun H1 locs1 hP1 _ hS1 => ?_)
  rw [vp_nar_byte, wl_set hq he' hM] at hP1
  exact k H1 locs1 ls (wl_W hP1) hS1 hl
theorem g_last (C : Cx E Y cc nL own d) {c i n : Nat} {x : Int32} {v : Int64} {f : Nat → Int64} {M' : Mem} (hd : decode cc pc = .ok (.lastore, 1)) (he : cE E M c i = .inl (E.2.1 2, n, .inr (.inl f))) (he' : cE E M' c i = .inl (E.2.1 2, n, .inr (.inl (vp_updL f x.toNatClampNeg v)))) (hM : ∀ a b, ¬ (a = c ∧ b = i) → cE E M' a b = cE E M a b) (hi : i < cnt c) (hin : vp_in x n) (k : G E Y nL M' (pc + 1) lv st) : G E Y nL M pc lv (.long v :: .int x :: .ref (ad E c i) :: st) := by
  intro H locs ls hW hS hl
  obtain ⟨q, hq⟩ := allC_in hi
  refine va_last (D := E.1) (cl := vwCl) (tys := tysL E) (ws := wl E M) (A := yA Y) C.1 C.2.1 C.2.2.2.2.2.1 (wl_P hW) (wl_D C.2.2.2.2.2.2.2.1) hS q 2 (wl_at hq M he) rfl hin hd (fun H1 locs1 hP1 _ hS1 => ?_)
  rw [wl_set hq he' hM] at hP1
  exact k H1 locs1 ls (wl_W hP1) hS1 hl
theorem g_alen (C : Cx E Y cc nL own d) {c i t : Nat} {a : vp_A} {ty : FieldType} {v : Int32} (hd : decode cc pc = .ok (.arraylength, 1)) (he : cE E M c i = .inl (E.2.1 t, a)) (ht : (tysL E)[t]? = some (E.2.1 t, ty)) (hi : i < cnt c) (hv : Int32.ofNat a.1 = v) (k : G E Y nL M (pc + 1) lv (.int v :: st)) : G E Y nL M pc lv (.ref (ad E c i) :: st) := by
  intro H locs ls hW hS hl
  obtain ⟨q, hq⟩ := allC_in hi
  exact va_alen (D := E.1) (cl := vwCl) (tys := tysL E) (ws := wl E M) C.1 C.2.1 C.2.2.2.2.2.1 (wl_P hW) q t (wl_at hq M he) ht hv hd (k H locs ls hW hS hl)
-- constants of the pool
theorem g_ldc2 (C : Cx E Y cc nL own d) {index : Nat} {v : Int64} (hd : decode cc pc = .ok (.ldc2_w index, 3)) (hw : Cond.constantLong own index v ∈ WT) (k : G E Y nL M (pc + 3) lv (.long v :: st)) : G E Y nL M pc lv st := by
  intro H locs ls hW hS hl
  exact lv_ldc2 C.1 C.2.1 C.2.2.2.1 (C.2.2.2.2.1 _ hw) hd (k H locs ls hW hS hl)
theorem g_ldc (C : Cx E Y cc nL own d) {index : Nat} {v : Int32} (hd : decode cc pc = .ok (.ldc index, 2)) (hw : Cond.constant own index v ∈ WT) (k : G E Y nL M (pc + 2) lv (.int v :: st)) : G E Y nL M pc lv st := by
  intro H locs ls hW hS hl
  exact lv_ldc C.1 C.2.1 C.2.2.2.1 (C.2.2.2.2.1 _ hw) hd (k H locs ls hW hS hl)
theorem g_ldcw (C : Cx E Y cc nL own d) {index : Nat} {v : Int32} (hd : decode cc pc = .ok (.ldc_w index, 3)) (hw : Cond.constant own index v ∈ WT) (k : G E Y nL M (pc + 3) lv (.int v :: st)) : G E Y nL M pc lv st := by
  intro H locs ls hW hS hl
  exact lv_ldcw C.1 C.2.1 C.2.2.2.1 (C.2.2.2.2.1 _ hw) hd (k H locs ls hW hS hl)
-- returns
theorem g_iret (C : Cx E Y cc nL own d) {x r : Int32} {M' : Mem} (R : Rx E Y (some .int) (some (.int r)) M') (hd : decode cc pc = .ok (.ireturn, 1)) (hx : x = r) (hM : M = M') : G E Y nL M pc lv [.int x] := by
  subst hx; subst hM
  intro H locs ls hW hS hl
  obtain ⟨hlk, hret, hA, hQ⟩ := R
  rw [hQ]
  rw [hA] at hS
  exact W.iret (v := x) C.1 C.2.1 hret (fun t ht hw => ⟨rfl, by rw [ht]; exact hW, Kx.moved hw.alike C.2.2.2.2.2.1, hS.F ht⟩) hS.2.2 hd hlk
theorem g_zret (C : Cx E Y cc nL own d) {x r : Int32} {M' : Mem} (R : Rx E Y (some .boolean) (some (.int r)) M') (hd : decode cc pc = .ok (.ireturn, 1)) (hx : x = r) (hz : x = 0 ∨ x = 1) (hM : M = M') : G E Y nL M pc lv [.int x] := by
  subst hx; subst hM
  intro H locs ls hW hS hl
  obtain ⟨hlk, hret, hA, hQ⟩ := R
  rw [hQ]
  rw [hA] at hS
  exact W.zret (v := x) C.1 C.2.1 hret (by rcases hz with e | e <;> rw [e] <;> decide) (fun t ht hw => ⟨rfl, by rw [ht]; exact hW, Kx.moved hw.alike C.2.2.2.2.2.1, hS.F ht⟩) hS.2.2 hd hlk
theorem g_lret (C : Cx E Y cc nL own d) {x r : Int64} {M' : Mem} (R : Rx E Y (some .long) (some (.long r)) M') (hd : decode cc pc = .ok (.lreturn, 1)) (hx : x = r) (hM : M = M') : G E Y nL M pc lv [.long x] := by
  subst hx; subst hM
  intro H locs ls hW hS hl
  obtain ⟨hlk, hret, hA, hQ⟩ := R
  rw [hQ]
  rw [hA] at hS
  exact W.lret (v := x) C.1 C.2.1 hret (fun t ht hw => ⟨rfl, by rw [ht]; exact hW, Kx.moved hw.alike C.2.2.2.2.2.1, hS.F ht⟩) hS.2.2 hd hlk
theorem g_vret (C : Cx E Y cc nL own d) {M' : Mem} (R : Rx E Y none none M') (hd : decode cc pc = .ok (.return_, 1)) (hM : M = M') : G E Y nL M pc lv [] := by
  subst hM
  intro H locs ls hW hS hl
  obtain ⟨hlk, hret, hA, hQ⟩ := R
  rw [hQ]
  rw [hA] at hS
  exact W.vret C.1 C.2.1 hret (fun t ht hw => ⟨rfl, by rw [ht]; exact hW, Kx.moved hw.alike C.2.2.2.2.2.1, hS.F ht⟩) hS.2.2 hd hlk
end ROWS

