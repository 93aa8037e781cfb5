/-! ===== calls ===== -/
section CALLS
variable {E : wEnv} {Y : YT} {cc : ByteArray} {nL d : Nat} {own : String} {M : Mem} {pc : Nat} {lv lv' : LV} {st : List Value}
theorem Pblind {av : List Value} : FrameBlind (va_Pc av (fun U => Wd E M U.heap ∧ Kx E U ∧ Zs E U U.heap)) := fun a U g mk q => by
  obtain ⟨q0, q1, q2, q3⟩ := q
  exact ⟨q0, q1, Kx.moved (u := U) (U := U.calling g mk a) (Vm.Alike.refl U.vm) q2, Zs.same (u := U) (U := U.calling g mk a) rfl q3⟩
theorem g_run (C : Cx E Y cc nL own d) {v : Option Value} {M' : Mem} {a : Array Value} {H : Heap} {locs : List Loc} {ls : Array Slot} {st0 : List Value} (hS : va_S (yA Y) (ys Y).heap H locs) (hl : lv_has ls nL lv)
    (hr : va_Run (yp Y) (yl Y) (ye Y) (yR Y) (ys Y) (ym Y) (ya Y) (yb Y) (yM Y) (yc Y) H locs (yk Y) (yn Y) 0 0 (F0 (ym Y) pc ls st0) st (Qm E v M' a) (inB E)) (kk : G E Y nL M' (pc + 3) lv (v.toList ++ st)) :
    W (yp Y) (yl Y) (ye Y) (yR Y) (ys Y) (ym Y) (ya Y) (yb Y) (yM Y) (yc Y) H locs (yk Y) (yn Y) (yQ Y) (F0 (ym Y) pc ls st0) := by
  intro T hT X
  obtain ⟨v2, st₀, t, T', L, h0, X', hL, e1, e2, ⟨hv, hW', hK', hz, hk⟩, go⟩ := hr T hT X
  have hv : v2 = v := Outcome.returned.inj hv
  subst hv
  rw [h0] at hz hk
  have hA := C.2.2.2.2.2.2.2.1
  obtain ⟨t2, a1, b1⟩ := kk T'.heap (locs ++ L) ls (by rw [e1]; exact hW')
    ⟨Nat.le_trans hS.1 (by rw [e1]; exact hz), fun q h1 h2 => by rw [e1, hk q (Nat.lt_of_lt_of_le h1 hS.1) (fun z => h2 (hA q z))]; exact hS.2.1 q h1 h2, fun q hq => by
      rcases List.mem_append.mp hq with h | h
      · exact hS.2.2 q h
      · exact hA _ (hL q h)⟩ hl T' rfl X'
  exact ⟨t2, go t2 a1, b1⟩
theorem rm_ok (C : Cx E Y cc nL own d) {dd nL' : Nat} (hdd : dd + 1 ≤ d) (hn : nL' ≤ 45) : (rmd dd).frames + 1 ≤ (yR Y).frames ∧ 8 + (nL' + 11) + (rmd dd).locals ≤ (yR Y).locals := by
  obtain ⟨h1, h2, -, -⟩ := C.2.2.2.2.2.2.1
  constructor
  · show dd + 1 + 1 ≤ _
    omega
  · show 8 + (nL' + 11) + (12 + 64 * dd) ≤ _
    omega
theorem g_callV (C : Cx E Y cc nL own d) {c i ci N n index dd nL' : Nat} {CN : String} {T : u_T} {fs : List Value} {y : MethodName} {cc' : ByteArray} {ret : Option FieldType} {As : List Value} {v : Option Value} {M' : Mem} (hd : decode cc pc = .ok (.invokevirtual index, 3)) (he : cE E M c i = .inr (ci, fs)) (hi : i < cnt c) (hc : vwCl[ci]? = some (CN, T, N))
    (K : Mt E y cc' nL' ret dd (.ref (ad E c i) :: As) M v M') (hl : Cond.methodLink own index y ∈ WT) (hin : Cond.instanceMethod y ∈ WT) (hsel : Cond.selects CN y y ∈ WT) (hini : Cond.initialized y.cls ∈ WT) (hcode : Cond.code y cc' nL' ret ∈ WT)
    (hy : y.cls ≠ "java/lang/invoke/MethodHandle" ∧ y.cls ≠ "java/lang/invoke/VarHandle" ∧ (parseMethodDescriptor y.desc).map (fun d => d.parameters.length) = some n) (hn : As.length = n) (hdd : dd + 1 ≤ d) (hnL : nL' ≤ 45) {st0 : List Value} (hst0 : st0 = As.reverse ++ .ref (ad E c i) :: st) (hst : Nat.ble (st.map fun v => v.category).sum 8 = true) (kk : G E Y nL M' (pc + 3) lv (v.toList ++ st)) : G E Y nL M pc lv st0 := by
  intro H locs ls hW hS hl'
  have hK := C.2.2.2.2.2.1
  have hts := C.2.2.2.2.1
  obtain ⟨q, hq⟩ := allC_in hi
  refine g_run C hS hl' (va_runV (As := As) (rest := st) ⟨C.1, C.2.1, C.2.2.1, C.2.2.2.1, hts⟩ (K (yl Y)) ⟨callB_of n hts (goodIn_WT hcode) rfl rfl rfl (hts _ hini) (hts _ hl) hy (rm_ok C hdd hnL), hts _ hin, hts _ hsel⟩
    ⟨Pblind, va_recv hK (wl_P hW) (ci := ci) (q0 := q) hc (wl_at hq M he), fun U hU hW1 => ⟨rfl, by rw [hU]; exact hW, Kx.moved hW1.alike hK, by rw [hU]; exact (C.Zat hS).warm hW1⟩⟩ rfl hn hl'.1 hst0 (lv_room (Nat.le_of_ble_eq_true hst)) hd ⟨C.2.2.2.2.2.2.1.2.2.1, C.2.2.2.2.2.2.1.2.2.2⟩) kk
theorem g_callS (C : Cx E Y cc nL own d) {n index dd nL' : Nat} {y : MethodName} {cc' : ByteArray} {ret : Option FieldType} {As : List Value} {v : Option Value} {M' : Mem} (hd : decode cc pc = .ok (.invokestatic index, 3))
    (K : Mt E y cc' nL' ret dd As M v M') (hl : Cond.methodLink own index y ∈ WT) (hstt : Cond.static y ∈ WT) (hini : Cond.initialized y.cls ∈ WT) (hcode : Cond.code y cc' nL' ret ∈ WT)
    (hy : y.cls ≠ "java/lang/invoke/MethodHandle" ∧ y.cls ≠ "java/lang/invoke/VarHandle" ∧ (parseMethodDescriptor y.desc).map (fun d => d.parameters.length) = some n) (hn : As.length = n) (hdd : dd + 1 ≤ d) (hnL : nL' ≤ 45) {st0 : List Value} (hst0 : st0 = As.reverse ++ st) (hst : Nat.ble (st.map fun v => v.category).sum 8 = true) (kk : G E Y nL M' (pc + 3) lv (v.toList ++ st)) : G E Y nL M pc lv st0 := by
  intro H locs ls hW hS hl'
  have hK := C.2.2.2.2.2.1
  have hts := C.2.2.2.2.1
  refine g_run C hS hl' (va_runS (As := As) (rest := st) ⟨C.1, C.2.1, C.2.2.1, C.2.2.2.1, hts⟩ (K (yl Y)) ⟨callB_of n hts (goodIn_WT hcode) rfl rfl rfl (hts _ hini) (hts _ hl) hy (rm_ok C hdd hnL), hts _ hstt⟩
    ⟨Pblind, fun U hU hW1 => ⟨rfl, by rw [hU]; exact hW, Kx.moved hW1.alike hK, by rw [hU]; exact (C.Zat hS).warm hW1⟩⟩ rfl hn hl'.1 hst0 (lv_room (Nat.le_of_ble_eq_true hst)) hd ⟨C.2.2.2.2.2.2.1.2.2.1, C.2.2.2.2.2.2.1.2.2.2⟩) kk
theorem g_callSN (C : Cx E Y cc nL own d) {n index dd nL' : Nat} {host : String} {y : MethodName} {cc' : ByteArray} {ret : Option FieldType} {As : List Value} {v : Option Value} {M' : Mem} (hd : decode cc pc = .ok (.invokestatic index, 3))
    (K : Mt E y cc' nL' ret dd As M v M') (hl : va_Nw (Cond.methodLinkNest own index y host) (ys Y)) (hstt : Cond.static y ∈ WT) (hini : Cond.initialized y.cls ∈ WT) (hcode : Cond.code y cc' nL' ret ∈ WT)
    (hy : y.cls ≠ "java/lang/invoke/MethodHandle" ∧ y.cls ≠ "java/lang/invoke/VarHandle" ∧ (parseMethodDescriptor y.desc).map (fun d => d.parameters.length) = some n) (hn : As.length = n) (hdd : dd + 1 ≤ d) (hnL : nL' ≤ 45) {st0 : List Value} (hst0 : st0 = As.reverse ++ st) (hst : Nat.ble (st.map fun v => v.category).sum 8 = true) (kk : G E Y nL M' (pc + 3) lv (v.toList ++ st)) : G E Y nL M pc lv st0 := by
  intro H locs ls hW hS hl'
  have hK := C.2.2.2.2.2.1
  have hts := C.2.2.2.2.1
  refine g_run C hS hl' (va_runSN (As := As) (rest := st) ⟨C.1, C.2.1, C.2.2.1, C.2.2.2.1, hts⟩ (K (yl Y)) ⟨va_cnB n hts (goodIn_WT hcode) rfl rfl rfl hl (hts _ hini) hy (rm_ok C hdd hnL), hts _ hstt, trivial⟩
    ⟨Pblind, fun U hU hW1 => ⟨rfl, by rw [hU]; exact hW, Kx.moved hW1.alike hK, by rw [hU]; exact (C.Zat hS).warm hW1⟩⟩ rfl hn hl'.1 hst0 (lv_room (Nat.le_of_ble_eq_true hst)) hd ⟨C.2.2.2.2.2.2.1.2.2.1, C.2.2.2.2.2.2.1.2.2.2⟩) kk
-- the library
theorem g_mmax (C : Cx E Y cc nL own d) {index : Nat} {x y : Int32} (hd : decode cc pc = .ok (.invokestatic index, 3)) (hl : Cond.methodLink own index Lib.Math.max.name ∈ WT) (h1 : Cond.static Lib.Math.max.name ∈ WT) (h2 : Cond.initialized "java/lang/Math" ∈ WT) (h3 : Cond.code Lib.Math.max.name Lib.Math.max.code 2 (some .int) ∈ WT) (hst : Nat.ble (st.map fun v => v.category).sum 8 = true) (hdd : 1 ≤ d) (kk : G E Y nL M (pc + 3) lv (.int (jmax x y) :: st)) : G E Y nL M pc lv (.int y :: .int x :: st) := by
  intro H locs ls hW hS hl'
  have hts := C.2.2.2.2.1
  obtain ⟨r1, r2, r3, r4⟩ := C.2.2.2.2.2.2.1
  exact va_mmax C.1 C.2.1 (C.2.2.1.trans hl'.1.symm) C.2.2.2.1 (hts _ hl) (hts _ h1) (hts _ h2) (hts _ h3) (by omega) (by have := Nat.le_of_ble_eq_true hst; omega) r3 r4 hd (kk H locs ls hW hS hl')
theorem g_mmin (C : Cx E Y cc nL own d) {index : Nat} {x y : Int32} (hd : decode cc pc = .ok (.invokestatic index, 3)) (hl : Cond.methodLink own index Lib.Math.min.name ∈ WT) (h1 : Cond.static Lib.Math.min.name ∈ WT) (h2 : Cond.initialized "java/lang/Math" ∈ WT) (h3 : Cond.code Lib.Math.min.name Lib.Math.min.code 2 (some .int) ∈ WT) (hst : Nat.ble (st.map fun v => v.category).sum 8 = true) (hdd : 1 ≤ d) (kk : G E Y nL M (pc + 3) lv (.int (jmin x y) :: st)) : G E Y nL M pc lv (.int y :: .int x :: st) := by
  intro H locs ls hW hS hl'
  have hts := C.2.2.2.2.1
  obtain ⟨r1, r2, r3, r4⟩ := C.2.2.2.2.2.2.1
  exact va_mmin C.1 C.2.1 (C.2.2.1.trans hl'.1.symm) C.2.2.2.1 (hts _ hl) (hts _ h1) (hts _ h2) (hts _ h3) (by omega) (by have := Nat.le_of_ble_eq_true hst; omega) r3 r4 hd (kk H locs ls hW hS hl')
theorem g_mabs (C : Cx E Y cc nL own d) {index : Nat} {x : Int32} (hd : decode cc pc = .ok (.invokestatic index, 3)) (hl : Cond.methodLink own index Lib.Math.abs.name ∈ WT) (h1 : Cond.static Lib.Math.abs.name ∈ WT) (h2 : Cond.initialized "java/lang/Math" ∈ WT) (h3 : Cond.code Lib.Math.abs.name Lib.Math.abs.code 1 (some .int) ∈ WT) (hst : Nat.ble (st.map fun v => v.category).sum 8 = true) (hdd : 1 ≤ d) (kk : G E Y nL M (pc + 3) lv (.int (jabs x) :: st)) : G E Y nL M pc lv (.int x :: st) := by
  intro H locs ls hW hS hl'
  have hts := C.2.2.2.2.1
  obtain ⟨r1, r2, r3, r4⟩ := C.2.2.2.2.2.2.1
  exact va_mabs C.1 C.2.1 (C.2.2.1.trans hl'.1.symm) C.2.2.2.1 (hts _ hl) (hts _ h1) (hts _ h2) (hts _ h3) (by omega) (by have := Nat.le_of_ble_eq_true hst; omega) r3 r4 hd (kk H locs ls hW hS hl')
theorem g_mabsl (C : Cx E Y cc nL own d) {index : Nat} {x : Int64} (hd : decode cc pc = .ok (.invokestatic index, 3)) (hl : Cond.methodLink own index Lib.MathLoose.abs_long.x ∈ WT) (h1 : Cond.static Lib.MathLoose.abs_long.x ∈ WT) (h2 : Cond.initialized "java/lang/Math" ∈ WT) (h3 : Cond.code Lib.MathLoose.abs_long.x Lib.MathLoose.abs_long.code 2 (some .long) ∈ WT) (hst : Nat.ble (st.map fun v => v.category).sum 8 = true) (hdd : 1 ≤ d) (kk : G E Y nL M (pc + 3) lv (.long (jabsl x) :: st)) : G E Y nL M pc lv (.long x :: st) := by
  intro H locs ls hW hS hl'
  have hts := C.2.2.2.2.1
  obtain ⟨r1, r2, r3, r4⟩ := C.2.2.2.2.2.2.1
  exact va_mabs_long C.1 C.2.1 (C.2.2.1.trans hl'.1.symm) C.2.2.2.1 (hts _ hl) (hts _ h1) (hts _ h2) (hts _ h3) (by omega) (by have := Nat.le_of_ble_eq_true hst; omega) r3 r4 hd (kk H locs ls hW hS hl')
/-- may so many be copied -/
def cpok (sp dp n : Int32) (n0 n1 : Nat) : Bool := !(decide (sp < 0)) && !(decide (dp < 0)) && !(decide (n < 0)) && decide (sp.toNatClampNeg + n.toNatClampNeg ≤ n0) && decide (dp.toNatClampNeg + n.toNatClampNeg ≤ n1)
theorem cpok_spec {sp dp n : Int32} {n0 n1 : Nat} (h : cpok sp dp n n0 n1 = true) : (¬ sp < 0) ∧ (¬ dp < 0) ∧ (¬ n < 0) ∧ sp.toNatClampNeg + n.toNatClampNeg ≤ n0 ∧ dp.toNatClampNeg + n.toNatClampNeg ≤ n1 := by
  unfold cpok at h
  simp only [Bool.and_eq_true, Bool.not_eq_true', decide_eq_false_iff_not, decide_eq_true_eq] at h
  exact ⟨h.1.1.1.1, h.1.1.1.2, h.1.1.2, h.1.2, h.2⟩
theorem g_copyi (C : Cx E Y cc nL own d) {index c0 i0 c1 i1 n0 n1 : Nat} {f g : Nat → Int32} {sp dp n : Int32} {M' : Mem} (hd : decode cc pc = .ok (.invokestatic index, 3)) (he0 : cE E M c0 i0 = .inl (E.2.1 0, n0, .inl f)) (he1 : cE E M c1 i1 = .inl (E.2.1 0, n1, .inl g)) (he' : cE E M' c1 i1 = .inl (E.2.1 0, n1, .inl (va_cpy f g sp.toNatClampNeg dp.toNatClampNeg n.toNatClampNeg))) (hM : ∀ a b, ¬ (a = c1 ∧ b = i1) → cE E M' a b = cE E M a b) (hi0 : i0 < cnt c0) (hi1 : i1 < cnt c1) (hok : cpok sp dp n n0 n1 = true)
    (hl : Cond.methodLink own index arraycopyName ∈ WT) (h1 : Cond.native arraycopyName ∈ WT) (h2 : Cond.static arraycopyName ∈ WT) (h3 : Cond.initialized "java/lang/System" ∈ WT) (hst : Nat.ble (st.map fun v => v.category).sum 8 = true) (hdd : 1 ≤ d) (kk : G E Y nL M' (pc + 3) lv st) : G E Y nL M pc lv (.int n :: .int dp :: .ref (ad E c1 i1) :: .int sp :: .ref (ad E c0 i0) :: st) := by
  intro H locs ls hW hS hl'
  have hts := C.2.2.2.2.1
  obtain ⟨r1, r2, r3, r4⟩ := C.2.2.2.2.2.2.1
  obtain ⟨q, hq⟩ := allC_in hi0
  obtain ⟨q1, hq1⟩ := allC_in hi1
  obtain ⟨k1, k2, k3, k4, k5⟩ := cpok_spec hok
  refine va_copyi (D := E.1) (cl := vwCl) (tys := tysL E) (ws := wl E M) (A := yA Y) C.1 C.2.1 (C.2.2.1.trans hl'.1.symm) C.2.2.2.1 (hts _ hl) (hts _ h1) (hts _ h2) (hts _ h3) C.2.2.2.2.2.1 (wl_P hW) (wl_D C.2.2.2.2.2.2.2.1) hS q q1 0 0 (wl_at hq M he0) (wl_at hq1 M he1) rfl rfl rfl k1 k2 k3 k4 k5 (fun _ _ => rfl) (by omega) (by have := Nat.le_of_ble_eq_true hst; have h40 : nativeFrameWords "java/lang/System" "arraycopy" 5 ≤ 50 := (by decide +kernel); omega) hd (fun H1 locs1 hP1 _ hS1 => ?_)
  rw [wl_set hq1 he' hM] at hP1
  exact kk H1 locs1 ls (wl_W hP1) hS1 hl'
theorem g_copyl (C : Cx E Y cc nL own d) {index c0 i0 c1 i1 n0 n1 : Nat} {f g : Nat → Int64} {sp dp n : Int32} {M' : Mem} (hd : decode cc pc = .ok (.invokestatic index, 3)) (he0 : cE E M c0 i0 = .inl (E.2.1 2, n0, .inr (.inl f))) (he1 : cE E M c1 i1 = .inl (E.2.1 2, n1, .inr (.inl g))) (he' : cE E M' c1 i1 = .inl (E.2.1 2, n1, .inr (.inl (va_cpy f g sp.toNatClampNeg dp.toNatClampNeg n.toNatClampNeg)))) (hM : ∀ a b, ¬ (a = c1 ∧ b = i1) → cE E M' a b = cE E M a b) (hi0 : i0 < cnt c0) (hi1 : i1 < cnt c1) (hok : cpok sp dp n n0 n1 = true)
    (hl : Cond.methodLink own index arraycopyName ∈ WT) (h1 : Cond.native arraycopyName ∈ WT) (h2 : Cond.static arraycopyName ∈ WT) (h3 : Cond.initialized "java/lang/System" ∈ WT) (hst : Nat.ble (st.map fun v => v.category).sum 8 = true) (hdd : 1 ≤ d) (kk : G E Y nL M' (pc + 3) lv st) : G E Y nL M pc lv (.int n :: .int dp :: .ref (ad E c1 i1) :: .int sp :: .ref (ad E c0 i0) :: st) := by
  intro H locs ls hW hS hl'
  have hts := C.2.2.2.2.1
  obtain ⟨r1, r2, r3, r4⟩ := C.2.2.2.2.2.2.1
  obtain ⟨q, hq⟩ := allC_in hi0
  obtain ⟨q1, hq1⟩ := allC_in hi1
  obtain ⟨k1, k2, k3, k4, k5⟩ := cpok_spec hok
  refine va_copyl (D := E.1) (cl := vwCl) (tys := tysL E) (ws := wl E M) (A := yA Y) C.1 C.2.1 (C.2.2.1.trans hl'.1.symm) C.2.2.2.1 (hts _ hl) (hts _ h1) (hts _ h2) (hts _ h3) C.2.2.2.2.2.1 (wl_P hW) (wl_D C.2.2.2.2.2.2.2.1) hS q q1 2 2 (wl_at hq M he0) (wl_at hq1 M he1) rfl rfl rfl k1 k2 k3 k4 k5 (fun _ _ => rfl) (by omega) (by have := Nat.le_of_ble_eq_true hst; have h40 : nativeFrameWords "java/lang/System" "arraycopy" 5 ≤ 50 := (by decide +kernel); omega) hd (fun H1 locs1 hP1 _ hS1 => ?_)
  rw [wl_set hq1 he' hM] at hP1
  exact kk H1 locs1 ls (wl_W hP1) hS1 hl'
end CALLS
