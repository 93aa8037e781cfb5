/-! ===== the text's own members: length and charAt of the constant of reserved words ===== -/
def SK (E : wEnv) (ak av : Nat) (fm : Value) (U : State) (H : Heap) : Prop := vk_S 1 [sBy.length] [sBy] (fun _ => ak) (fun _ => av) (hiA E) U H ∧ va_Z "java/lang/String" "COMPACT_STRINGS" "Z" (.int 1) (hiA E) U H ∧ va_Z "jdk/internal/util/Preconditions" "SIOOBE_FORMATTER" "Ljava/util/function/BiFunction;" fm (hiA E) U H ∧ (fm = .null ∨ ∃ t, fm = .ref t)
theorem SK.moved {E : wEnv} {ak av : Nat} {fm : Value} {u U : State} {H : Heap} (hvm : u.vm.Alike U.vm) (h : SK E ak av fm u H) : SK E ak av fm U H := ⟨h.1.moved hvm, va_Z.moved hvm h.2.1, va_Z.moved hvm h.2.2.1, h.2.2.2⟩
theorem SK.kept {E : wEnv} {ak av : Nat} {fm : Value} {U : State} {H H1 : Heap} (h : SK E ak av fm U H) (hq : ∀ a : Nat, a < H.size → ¬ hiA E a → H1[a]? = H[a]?) : SK E ak av fm U H1 := ⟨h.1.kept hq, va_Z.kept h.2.1 hq, va_Z.kept h.2.2.1 hq, h.2.2.2⟩
def Ks (E : wEnv) (Y : YT) (cc : ByteArray) (nL : Nat) (own : String) (d ak av : Nat) (fm : Value) : Prop :=
  (yp Y).tables.exec = Jvm.exec ∧ (yc Y).code = cc ∧ (yc Y).maxLocals = nL ∧ (ys Y).vm.findClass own = some (ym Y).cls ∧ (∀ w ∈ WT, w.before (ya Y) (ys Y) = true) ∧ SK E ak av fm (ys Y) (ys Y).heap ∧
  (d + 1 ≤ (yR Y).frames ∧ 12 + 64 * d ≤ (yR Y).locals)
def Ms (E : wEnv) (y : MethodName) (cc : ByteArray) (nL : Nat) (ret : Option FieldType) (d ak av : Nat) (fm : Value) (As : List Value) (v : Option Value) : Prop :=
  ∀ l : Launch, Met l y (Cond.code y cc nL ret :: WT) (rmb d 0 0) (va_Pc As (fun U => SK E ak av fm U U.heap)) (fun _ st oc t => oc = .returned v ∧ t.heap = st.heap) 0 0 (fun _ => False)
def Rsv (Y : YT) (ret : Option FieldType) (v : Option Value) : Prop := (yM Y).locks = false ∧ (yM Y).sig.returnType = ret ∧ yQ Y = MQ (yb Y) (fun _ st oc t => oc = .returned v ∧ t.heap = st.heap) (ya Y) (ys Y) 0 0 (fun _ => False)
def Ws (Y : YT) (pc : Nat) (ls : Array Slot) (st : List Value) : Prop := W (yp Y) (yl Y) (ye Y) (yR Y) (ys Y) (ym Y) (ya Y) (yb Y) (yM Y) (yc Y) (ys Y).heap [] 0 0 (yQ Y) (F0 (ym Y) pc ls st)
theorem ms_intro {E : wEnv} {y : MethodName} {cc : ByteArray} {nL : Nat} {ret : Option FieldType} {d ak av : Nat} {fm : Value} {As : List Value} {v : Option Value} {own : String} {lv0 : LV} (hy : plainName y.cls = true) (ho : y.cls = own) (h0 : lv_args 0 As = lv0) (hlen : Nat.ble (lg_sl As).length nL = true)
    (body : ∀ (Y : YT) (ls : Array Slot), Ks E Y cc nL own d ak av fm → Rsv Y ret v → lv_has ls nL lv0 → Ws Y 0 ls []) : Ms E y cc nL ret d ak av fm As v := by
  intro l
  refine Met.ofW (cc := cc) (maxL := nL) (ret := ret) hy rfl ?_
  intro p e s m args below meth c s₁ B hml hv
  obtain ⟨rfl, hK⟩ := hv
  have hts := atoms_spec (ws := Cond.code y cc nL ret :: WT) B.pre
  have hown : s.vm.findClass own = some m.cls := by rw [← ho]; exact findClass_of_methodNamed B.named
  rw [lg_entry_eq]
  refine body (p, l, e, rmb d 0 0, s, m, As.toArray, below, meth, c, MQ below (fun _ st oc t => oc = .returned v ∧ t.heap = st.heap) As.toArray s 0 0 (fun _ => False), inB E, 0, 0) _
    ⟨B.exec, B.bytes, hml, hown, fun w h => hts w (List.mem_cons_of_mem _ h), hK, ⟨Nat.le_refl _, Nat.le_refl _⟩⟩ ⟨B.notSynchronized, B.returns, rfl⟩ ?_
  rw [← h0]
  exact lv_entry As (Nat.le_of_ble_eq_true hlen)
theorem SKblind {E : wEnv} {ak av : Nat} {fm : Value} {As : List Value} : FrameBlind (va_Pc As (fun U => SK E ak av fm U U.heap)) := fun a U g mk q => by
  obtain ⟨q0, q1⟩ := q
  exact ⟨q0, SK.moved (u := U) (U := U.calling g mk a) (Vm.Alike.refl U.vm) q1⟩
section SROWS
variable {E : wEnv} {Y : YT} {cc : ByteArray} {nL d ak av pc : Nat} {fm : Value} {own : String} {H : Heap} {locs : List Loc} {c w : Nat} {ls : Array Slot} {lv : LV} {st : List Value}
/-- a call that changes nothing -/
theorem wz_callS {n index dd nL' : Nat} {y : MethodName} {cc' : ByteArray} {ret : Option FieldType} {As : List Value} {v : Option Value} (C : CallFix (yp Y) (ym Y) (yc Y) cc nL (ys Y) (ya Y) WT own) (hK : SK E ak av fm (ys Y) H) (hr : d + 1 ≤ (yR Y).frames ∧ 12 + 64 * d ≤ (yR Y).locals) (hcs : c ≤ (yR Y).cells ∧ w ≤ (yR Y).slots) (hd : decode cc pc = .ok (.invokestatic index, 3))
    (K : Ms E y cc' nL' ret dd ak av fm As v) (hl : Cond.methodLink own index y ∈ WT) (hstt : Cond.static y ∈ WT) (hini : Cond.initialized y.cls ∈ WT) (hcode : Cond.code y cc' nL' ret ∈ WT)
    (hy : y.cls ≠ "java/lang/invoke/MethodHandle" ∧ y.cls ≠ "java/lang/invoke/VarHandle" ∧ (parseMethodDescriptor y.desc).map (fun d => d.parameters.length) = some n) (hn : As.length = n) (hdd : dd + 1 ≤ d) (hnL : nL' ≤ 45) {st0 : List Value} (hst0 : st0 = As.reverse ++ st) (hst : Nat.ble (st.map fun v => v.category).sum 8 = true) (hlv : lv_has ls nL lv)
    (kk : W (yp Y) (yl Y) (ye Y) (yR Y) (ys Y) (ym Y) (ya Y) (yb Y) (yM Y) (yc Y) H locs c w (yQ Y) (F0 (ym Y) (pc + 3) ls (v.toList ++ st))) : W (yp Y) (yl Y) (ye Y) (yR Y) (ys Y) (ym Y) (ya Y) (yb Y) (yM Y) (yc Y) H locs c w (yQ Y) (F0 (ym Y) pc ls st0) := by
  have hts := C.2.2.2.2
  have hrun := va_runS (p := yp Y) (l := yl Y) (e := ye Y) (R := yR Y) (s := ys Y) (m := ym Y) (args := ya Y) (below := yb Y) (meth := yM Y) (c := yc Y) (H := H) (locs := locs) (cells := c) (slots := w) (g := F0 (ym Y) pc ls st0) (As := As) (rest := st) C (K (yl Y)) ⟨callB_of n hts (goodIn_WT hcode) rfl rfl rfl (hts _ hini) (hts _ hl) hy ⟨by show dd + 1 + 1 ≤ _; omega, by show 8 + (nL' + 11) + (12 + 64 * dd) ≤ _; omega⟩, hts _ hstt⟩
    ⟨SKblind, fun U hU hW1 => ⟨rfl, by show SK E ak av fm U U.heap; rw [hU]; exact hK.moved hW1.alike⟩⟩ rfl hn hlv.1 hst0 (lv_room (Nat.le_of_ble_eq_true hst)) hd hcs
  intro T hT X
  obtain ⟨v2, st₀, t, T', L, h0, X', hL, e1, e2, ⟨hv, hh⟩, go⟩ := hrun T hT X
  have hv : v2 = v := Outcome.returned.inj hv
  subst hv
  have hL0 : L = [] := by
    cases L with
    | nil => rfl
    | cons a L => exact absurd (hL a List.mem_cons_self) id
  subst hL0
  rw [List.append_nil] at X'
  obtain ⟨t2, a1, b1⟩ := kk T' (by rw [e1, hh, h0]) X'
  exact ⟨t2, go t2 a1, b1⟩
theorem wz_callV {n index dd nL' : Nat} {y : MethodName} {cc' : ByteArray} {ret : Option FieldType} {As : List Value} {v : Option Value} (C : CallFix (yp Y) (ym Y) (yc Y) cc nL (ys Y) (ya Y) WT own) (hK : SK E ak av fm (ys Y) H) (hr : d + 1 ≤ (yR Y).frames ∧ 12 + 64 * d ≤ (yR Y).locals) (hcs : c ≤ (yR Y).cells ∧ w ≤ (yR Y).slots) (hd : decode cc pc = .ok (.invokevirtual index, 3))
    (K : Ms E y cc' nL' ret dd ak av fm (.ref ak :: As) v) (hl : Cond.methodLink own index y ∈ WT) (hin : Cond.instanceMethod y ∈ WT) (hsel : Cond.selects "java/lang/String" y y ∈ WT) (hini : Cond.initialized y.cls ∈ WT) (hcode : Cond.code y cc' nL' ret ∈ WT)
    (hy : y.cls ≠ "java/lang/invoke/MethodHandle" ∧ y.cls ≠ "java/lang/invoke/VarHandle" ∧ (parseMethodDescriptor y.desc).map (fun d => d.parameters.length) = some n) (hn : As.length = n) (hdd : dd + 1 ≤ d) (hnL : nL' ≤ 45) {st0 : List Value} (hst0 : st0 = As.reverse ++ .ref ak :: st) (hst : Nat.ble (st.map fun v => v.category).sum 8 = true) (hlv : lv_has ls nL lv)
    (kk : W (yp Y) (yl Y) (ye Y) (yR Y) (ys Y) (ym Y) (ya Y) (yb Y) (yM Y) (yc Y) H locs c w (yQ Y) (F0 (ym Y) (pc + 3) ls (v.toList ++ st))) : W (yp Y) (yl Y) (ye Y) (yR Y) (ys Y) (ym Y) (ya Y) (yb Y) (yM Y) (yc Y) H locs c w (yQ Y) (F0 (ym Y) pc ls st0) := by
  have hts := C.2.2.2.2
  obtain ⟨cell, q1, q2, q3, -⟩ := (hK.1.1 0 (by decide)).1
  have hrun := va_runV (p := yp Y) (l := yl Y) (e := ye Y) (R := yR Y) (s := ys Y) (m := ym Y) (args := ya Y) (below := yb Y) (meth := yM Y) (c := yc Y) (H := H) (locs := locs) (cells := c) (slots := w) (g := F0 (ym Y) pc ls st0) (C := "java/lang/String") (b := ak) (As := As) (rest := st) C (K (yl Y)) ⟨callB_of n hts (goodIn_WT hcode) rfl rfl rfl (hts _ hini) (hts _ hl) hy ⟨by show dd + 1 + 1 ≤ _; omega, by show 8 + (nL' + 11) + (12 + 64 * dd) ≤ _; omega⟩, hts _ hin, hts _ hsel⟩
    ⟨SKblind, ⟨cell, q1, q2, q3⟩, fun U hU hW1 => ⟨rfl, by show SK E ak av fm U U.heap; rw [hU]; exact hK.moved hW1.alike⟩⟩ rfl hn hlv.1 hst0 (lv_room (Nat.le_of_ble_eq_true hst)) hd hcs
  intro T hT X
  obtain ⟨v2, st₀, t, T', L, h0, X', hL, e1, e2, ⟨hv, hh⟩, go⟩ := hrun T hT X
  have hv : v2 = v := Outcome.returned.inj hv
  subst hv
  have hL0 : L = [] := by
    cases L with
    | nil => rfl
    | cons a L => exact absurd (hL a List.mem_cons_self) id
  subst hL0
  rw [List.append_nil] at X'
  obtain ⟨t2, a1, b1⟩ := kk T' (by rw [e1, hh, h0]) X'
  exact ⟨t2, go t2 a1, b1⟩
theorem Ks.F (C : Ks E Y cc nL own d ak av fm) : CallFix (yp Y) (ym Y) (yc Y) cc nL (ys Y) (ya Y) WT own := ⟨C.1, C.2.1, C.2.2.1, C.2.2.2.1, C.2.2.2.2.1⟩
theorem Ks.K (C : Ks E Y cc nL own d ak av fm) : SK E ak av fm (ys Y) (ys Y).heap := C.2.2.2.2.2.1
theorem Ks.r (C : Ks E Y cc nL own d ak av fm) : d + 1 ≤ (yR Y).frames ∧ 12 + 64 * d ≤ (yR Y).locals := C.2.2.2.2.2.2
theorem Ks.t (C : Ks E Y cc nL own d ak av fm) : ∀ w ∈ WT, w.before (ya Y) (ys Y) = true := C.2.2.2.2.1
theorem ws_zret {ret : FieldType} {v : Int32} (C : Ks E Y cc nL own d ak av fm) (R : Rsv Y (some ret) (some (.int v))) (hd : decode cc pc = .ok (.ireturn, 1)) (hn : narrow ret (.int v) = .int v) : Ws Y pc ls [.int v] := by
  obtain ⟨hlk, hret, hQ⟩ := R
  unfold Ws
  rw [hQ]
  exact W.zret (v := v) C.1 C.2.1 hret hn (fun t ht hw => ⟨rfl, ht⟩) (fun q hq => by cases hq) hd hlk
theorem ws_vret (C : Ks E Y cc nL own d ak av fm) (R : Rsv Y none none) (hd : decode cc pc = .ok (.return_, 1)) : Ws Y pc ls [] := by
  obtain ⟨hlk, hret, hQ⟩ := R
  unfold Ws
  rw [hQ]
  exact W.vret C.1 C.2.1 hret (fun t ht hw => ⟨rfl, ht⟩) (fun q hq => by cases hq) hd hlk
end SROWS
theorem s_coder {E : wEnv} {ak av : Nat} {fm : Value} : Ms E yJ0_coder_7d493 cJ0_coder_7d493 1 (some .byte) 0 ak av fm [.ref ak] (some (.int 0)) := by
  refine ms_intro (own := RJ0) (lv0 := [(0, .ref ak)]) (by decide) rfl rfl rfl (fun Y ls C R hl => ?_)
  refine va_gets C.1 C.2.1 C.K.2.1 va_S.rf C.2.2.2.1 (C.t _ qf_J0_38) (fun _ h => h) dJ0_coder_7d493_0 ?_
  refine lv_if_eq (tgt := 13) C.1 C.2.1 dJ0_coder_7d493_3 (by decide) (fun h => absurd h (by decide)) (fun _ => ?_)
  refine lv_aload_n C.1 C.2.1 dJ0_coder_7d493_6 rfl (lv_lk hl rfl) ?_
  refine vk_getf C.1 C.2.1 ((C.K.1.1 0 (by decide)).2.1) va_S.rf C.2.2.2.1 (C.t _ qf_J0_15) (fun _ h => h) dJ0_coder_7d493_7 ?_
  refine lv_goto (tgt := 14) C.1 C.2.1 dJ0_coder_7d493_10 (by decide) ?_
  exact ws_zret C R dJ0_coder_7d493_14 rfl
theorem s_isLatin1 {E : wEnv} {ak av : Nat} {fm : Value} : Ms E yJ0_isLatin1_aae02 cJ0_isLatin1_aae02 1 (some .boolean) 0 ak av fm [.ref ak] (some (.int 1)) := by
  refine ms_intro (own := RJ0) (lv0 := [(0, .ref ak)]) (by decide) rfl rfl rfl (fun Y ls C R hl => ?_)
  refine va_gets C.1 C.2.1 C.K.2.1 va_S.rf C.2.2.2.1 (C.t _ qf_J0_38) (fun _ h => h) dJ0_isLatin1_aae02_0 ?_
  refine lv_if_eq (tgt := 17) C.1 C.2.1 dJ0_isLatin1_aae02_3 (by decide) (fun h => absurd h (by decide)) (fun _ => ?_)
  refine lv_aload_n C.1 C.2.1 dJ0_isLatin1_aae02_6 rfl (lv_lk hl rfl) ?_
  refine vk_getf C.1 C.2.1 ((C.K.1.1 0 (by decide)).2.1) va_S.rf C.2.2.2.1 (C.t _ qf_J0_15) (fun _ h => h) dJ0_isLatin1_aae02_7 ?_
  refine lv_if_ne (tgt := 17) C.1 C.2.1 dJ0_isLatin1_aae02_10 (by decide) (fun h => absurd rfl h) (fun _ => ?_)
  refine lv_iconst (v := 1) C.1 C.2.1 dJ0_isLatin1_aae02_13 (by decide) ?_
  refine lv_goto (tgt := 18) C.1 C.2.1 dJ0_isLatin1_aae02_14 (by decide) ?_
  exact ws_zret C R dJ0_isLatin1_aae02_18 (by decide)
def sLn : Int32 := 170
theorem sB0 : [sBy].getD 0 [] = sBy := rfl
theorem sB1 : [sBy.length].getD 0 0 = 170 := by decide +kernel
theorem sB2 : Int32.ofNat ([sBy.length].getD 0 0) = sLn := by decide +kernel
theorem sLn_sh : sLn >>> ((0 : Int32) &&& 31) = sLn := by decide +kernel
theorem s_length {E : wEnv} {ak av : Nat} {fm : Value} : Ms E yJ0_length_8abf5 cJ0_length_8abf5 1 (some .int) 1 ak av fm [.ref ak] (some (.int sLn)) := by
  refine ms_intro (own := RJ0) (lv0 := [(0, .ref ak)]) (by decide) rfl rfl rfl (fun Y ls C R hl => ?_)
  refine lv_aload_n C.1 C.2.1 dJ0_length_8abf5_0 rfl (lv_lk hl rfl) ?_
  refine vk_getf C.1 C.2.1 ((C.K.1.1 0 (by decide)).2.2.1) va_S.rf C.2.2.2.1 (C.t _ qf_J0_9) (fun _ h => h) dJ0_length_8abf5_1 ?_
  refine va_tlen C.1 C.2.1 ((C.K.1.1 0 (by decide)).2.2.2) va_S.rf (v := sLn) sB2 dJ0_length_8abf5_4 ?_
  refine lv_aload_n C.1 C.2.1 dJ0_length_8abf5_5 rfl (lv_lk hl rfl) ?_
  refine wz_callV (d := 1) (n := 0) (As := []) C.F C.K C.r ⟨Nat.zero_le _, Nat.zero_le _⟩ dJ0_length_8abf5_6 s_coder ql_J0_335 qi_yJ0_coder_7d493 qv_yJ0_coder_7d493 ini_J0 qk_yJ0_coder_7d493 (by decide +kernel) rfl (by decide) (by decide) rfl rfl hl ?_
  refine lv_ishr C.1 C.2.1 dJ0_length_8abf5_9 ?_
  rw [sLn_sh]
  exact ws_zret C R dJ0_length_8abf5_10 rfl
theorem s_check3 {E : wEnv} {ak av j : Nat} {fm : Value} (hj : j < 170) (hf : fm = .null ∨ ∃ t, fm = .ref t) : Ms E yJ3_checkIndex_8e157 cJ3_checkIndex_8e157 3 (some .int) 0 ak av fm [.int (nI j), .int sLn, fm] (some (.int (nI j))) := by
  rcases hf with rfl | ⟨t, rfl⟩
  · refine ms_intro (own := RJ3) (lv0 := [(0, .int (nI j)), (1, .int sLn), (2, .null)]) (by decide) rfl rfl rfl (fun Y ls C R hl => ?_)
    refine lv_iload_n C.1 C.2.1 dJ3_checkIndex_8e157_0 rfl (lv_lk hl rfl) ?_
    refine lv_if_lt (tgt := 9) C.1 C.2.1 dJ3_checkIndex_8e157_1 (by decide) (fun h => absurd h (nI_pos (by omega))) (fun _ => ?_)
    refine lv_iload_n C.1 C.2.1 dJ3_checkIndex_8e157_4 rfl (lv_lk hl rfl) ?_
    refine lv_iload_n C.1 C.2.1 dJ3_checkIndex_8e157_5 rfl (lv_lk hl rfl) ?_
    refine lv_icmp_lt (tgt := 16) C.1 C.2.1 dJ3_checkIndex_8e157_6 (by decide) (fun _ => ?_) (fun h => absurd (nI_lt (show j < 170 from hj) (by decide)) h)
    refine lv_iload_n C.1 C.2.1 dJ3_checkIndex_8e157_16 rfl (lv_lk hl rfl) ?_
    exact ws_zret C R dJ3_checkIndex_8e157_17 rfl
  · refine ms_intro (own := RJ3) (lv0 := [(0, .int (nI j)), (1, .int sLn), (2, .ref t)]) (by decide) rfl rfl rfl (fun Y ls C R hl => ?_)
    refine lv_iload_n C.1 C.2.1 dJ3_checkIndex_8e157_0 rfl (lv_lk hl rfl) ?_
    refine lv_if_lt (tgt := 9) C.1 C.2.1 dJ3_checkIndex_8e157_1 (by decide) (fun h => absurd h (nI_pos (by omega))) (fun _ => ?_)
    refine lv_iload_n C.1 C.2.1 dJ3_checkIndex_8e157_4 rfl (lv_lk hl rfl) ?_
    refine lv_iload_n C.1 C.2.1 dJ3_checkIndex_8e157_5 rfl (lv_lk hl rfl) ?_
    refine lv_icmp_lt (tgt := 16) C.1 C.2.1 dJ3_checkIndex_8e157_6 (by decide) (fun _ => ?_) (fun h => absurd (nI_lt (show j < 170 from hj) (by decide)) h)
    refine lv_iload_n C.1 C.2.1 dJ3_checkIndex_8e157_16 rfl (lv_lk hl rfl) ?_
    exact ws_zret C R dJ3_checkIndex_8e157_17 rfl
theorem s_check0 {E : wEnv} {ak av j : Nat} {fm : Value} (hj : j < 170) : Ms E yJ0_checkIndex_df160 cJ0_checkIndex_df160 2 none 1 ak av fm [.int (nI j), .int sLn] none := by
  refine ms_intro (own := RJ0) (lv0 := [(0, .int (nI j)), (1, .int sLn)]) (by decide) rfl rfl rfl (fun Y ls C R hl => ?_)
  refine lv_iload_n C.1 C.2.1 dJ0_checkIndex_df160_0 rfl (lv_lk hl rfl) ?_
  refine lv_iload_n C.1 C.2.1 dJ0_checkIndex_df160_1 rfl (lv_lk hl rfl) ?_
  refine va_gets C.1 C.2.1 C.K.2.2.1 va_S.rf C.2.2.2.1 (C.t _ qf_J0_1053) (fun _ h => h) dJ0_checkIndex_df160_2 ?_
  refine wz_callS (d := 1) (n := 3) (As := [.int (nI j), .int sLn, fm]) C.F C.K C.r ⟨Nat.zero_le _, Nat.zero_le _⟩ dJ0_checkIndex_df160_5 (s_check3 hj C.K.2.2.2) ql_J0_1059 qs_yJ3_checkIndex_8e157 ini_J3 qk_yJ3_checkIndex_8e157 (by decide +kernel) rfl (by decide) (by decide) rfl rfl hl ?_
  refine lv_pop C.1 C.2.1 dJ0_checkIndex_df160_8 rfl ?_
  exact ws_vret C R dJ0_checkIndex_df160_9
theorem sBy_ok : ∀ j, j < 170 → ((sBy.getD j 0 &&& 255).toUInt32 % 65536).toInt32 = sBy.getD j 0 ∧ narrow .char (.int (sBy.getD j 0)) = .int (sBy.getD j 0) := by decide +kernel
theorem s_char1 {E : wEnv} {ak av j : Nat} {fm : Value} (hj : j < 170) : Ms E yJ1_charAt_3b067 cJ1_charAt_3b067 2 (some .char) 2 ak av fm [.ref av, .int (nI j)] (some (.int (sBy.getD j 0))) := by
  refine ms_intro (own := RJ1) (lv0 := [(0, .ref av), (1, .int (nI j))]) (by decide) rfl rfl rfl (fun Y ls C R hl => ?_)
  refine lv_iload_n C.1 C.2.1 dJ1_charAt_3b067_0 rfl (lv_lk hl rfl) ?_
  refine lv_aload_n C.1 C.2.1 dJ1_charAt_3b067_1 rfl (lv_lk hl rfl) ?_
  refine va_tlen C.1 C.2.1 ((C.K.1.1 0 (by decide)).2.2.2) va_S.rf (v := sLn) sB2 dJ1_charAt_3b067_2 ?_
  refine wz_callS (d := 2) (n := 2) (As := [.int (nI j), .int sLn]) C.F C.K C.r ⟨Nat.zero_le _, Nat.zero_le _⟩ dJ1_charAt_3b067_3 (s_check0 hj) ql_J1_9 qs_yJ0_checkIndex_df160 ini_J0 qk_yJ0_checkIndex_df160 (by decide +kernel) rfl (by decide) (by decide) rfl rfl hl ?_
  refine lv_aload_n C.1 C.2.1 dJ1_charAt_3b067_6 rfl (lv_lk hl rfl) ?_
  refine lv_iload_n C.1 C.2.1 dJ1_charAt_3b067_7 rfl (lv_lk hl rfl) ?_
  refine va_tb C.1 C.2.1 ((C.K.1.1 0 (by decide)).2.2.2) va_S.rf (i := nI j) (v := .int (sBy.getD j 0)) (by rw [sB1]; exact vp_in_nI hj (by decide)) (by rw [nI_clamp (by omega), sB0]) dJ1_charAt_3b067_8 ?_
  refine lv_sipush (v := 255) C.1 C.2.1 dJ1_charAt_3b067_9 (by decide) ?_
  refine lv_iand C.1 C.2.1 dJ1_charAt_3b067_12 ?_
  refine lv_i2c (v := sBy.getD j 0) C.1 C.2.1 dJ1_charAt_3b067_13 (sBy_ok j hj).1 ?_
  exact ws_zret C R dJ1_charAt_3b067_14 (sBy_ok j hj).2
theorem s_charAt {E : wEnv} {ak av j : Nat} {fm : Value} (hj : j < 170) : Ms E yJ0_charAt_5068e cJ0_charAt_5068e 2 (some .char) 3 ak av fm [.ref ak, .int (nI j)] (some (.int (sBy.getD j 0))) := by
  refine ms_intro (own := RJ0) (lv0 := [(0, .ref ak), (1, .int (nI j))]) (by decide) rfl rfl rfl (fun Y ls C R hl => ?_)
  refine lv_aload_n C.1 C.2.1 dJ0_charAt_5068e_0 rfl (lv_lk hl rfl) ?_
  refine wz_callV (d := 3) (n := 0) (As := []) C.F C.K C.r ⟨Nat.zero_le _, Nat.zero_le _⟩ dJ0_charAt_5068e_1 s_isLatin1 ql_J0_492 qi_yJ0_isLatin1_aae02 qv_yJ0_isLatin1_aae02 ini_J0 qk_yJ0_isLatin1_aae02 (by decide +kernel) rfl (by decide) (by decide) rfl rfl hl ?_
  refine lv_if_eq (tgt := 16) C.1 C.2.1 dJ0_charAt_5068e_4 (by decide) (fun h => absurd h (by decide)) (fun _ => ?_)
  refine lv_aload_n C.1 C.2.1 dJ0_charAt_5068e_7 rfl (lv_lk hl rfl) ?_
  refine vk_getf C.1 C.2.1 ((C.K.1.1 0 (by decide)).2.2.1) va_S.rf C.2.2.2.1 (C.t _ qf_J0_9) (fun _ h => h) dJ0_charAt_5068e_8 ?_
  refine lv_iload_n C.1 C.2.1 dJ0_charAt_5068e_11 rfl (lv_lk hl rfl) ?_
  refine wz_callS (d := 3) (n := 2) (As := [.ref av, .int (nI j)]) C.F C.K C.r ⟨Nat.zero_le _, Nat.zero_le _⟩ dJ0_charAt_5068e_12 (s_char1 hj) ql_J0_495 qs_yJ1_charAt_3b067 ini_J1 qk_yJ1_charAt_3b067 (by decide +kernel) rfl (by decide) (by decide) rfl rfl hl ?_
  exact ws_zret C R dJ0_charAt_5068e_15 (sBy_ok j hj).2
