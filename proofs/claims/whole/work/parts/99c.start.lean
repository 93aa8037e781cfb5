/-! ===== what holds at the start ===== -/
theorem mem_L1 {w : Cond} {i : Nat} (h : tables_1_1[i]? = some w) : w ∈ lw_tbl := List.mem_append_right _ (List.mem_append_left _ (List.mem_of_getElem? h))
theorem mem_L2 {w : Cond} {i : Nat} (h : tables_1_2[i]? = some w) : w ∈ lw_tbl := List.mem_append_right _ (List.mem_append_right _ (List.mem_append_left _ (List.mem_of_getElem? h)))
theorem mem_L3 {w : Cond} {i : Nat} (h : tables_1_3[i]? = some w) : w ∈ lw_tbl := List.mem_append_right _ (List.mem_append_right _ (List.mem_append_right _ (List.mem_append_left _ (List.mem_of_getElem? h))))
theorem mem_L4 {w : Cond} {i : Nat} (h : tables_1_4[i]? = some w) : w ∈ lw_tbl := List.mem_append_right _ (List.mem_append_right _ (List.mem_append_right _ (List.mem_append_right _ (List.mem_append_left _ (List.mem_of_getElem? h)))))
theorem mem_L5 {w : Cond} {i : Nat} (h : tables_1_5[i]? = some w) : w ∈ lw_tbl := List.mem_append_right _ (List.mem_append_right _ (List.mem_append_right _ (List.mem_append_right _ (List.mem_append_right _ (List.mem_append_left _ (List.mem_of_getElem? h))))))
theorem mem_L6 {w : Cond} {i : Nat} (h : tables_1_6[i]? = some w) : w ∈ lw_tbl := List.mem_append_right _ (List.mem_append_right _ (List.mem_append_right _ (List.mem_append_right _ (List.mem_append_right _ (List.mem_append_right _ (List.mem_append_left _ (List.mem_of_getElem? h)))))))
theorem mem_L7 {w : Cond} {i : Nat} (h : tables_1_7[i]? = some w) : w ∈ lw_tbl := List.mem_append_right _ (List.mem_append_right _ (List.mem_append_right _ (List.mem_append_right _ (List.mem_append_right _ (List.mem_append_right _ (List.mem_append_right _ (List.mem_append_left _ (List.mem_of_getElem? h))))))))
theorem mem_L8 {w : Cond} {i : Nat} (h : tables_1_8[i]? = some w) : w ∈ lw_tbl := List.mem_append_right _ (List.mem_append_right _ (List.mem_append_right _ (List.mem_append_right _ (List.mem_append_right _ (List.mem_append_right _ (List.mem_append_right _ (List.mem_append_right _ (List.mem_append_left _ (List.mem_of_getElem? h)))))))))
theorem mem_L9 {w : Cond} {i : Nat} (h : tables_1_9[i]? = some w) : w ∈ lw_tbl := List.mem_append_right _ (List.mem_append_right _ (List.mem_append_right _ (List.mem_append_right _ (List.mem_append_right _ (List.mem_append_right _ (List.mem_append_right _ (List.mem_append_right _ (List.mem_append_right _ (List.mem_of_getElem? h)))))))))
section START
variable {args : Array Value} {s : State}
theorem st_nl (hts : ∀ w ∈ lw_tbl, w.before args s = true) : NLs s := by
  refine List.forall_mem_cons.mpr ⟨?_, List.forall_mem_cons.mpr ⟨?_, List.forall_mem_cons.mpr ⟨?_, List.forall_mem_cons.mpr ⟨?_, List.forall_mem_cons.mpr ⟨?_, List.forall_mem_cons.mpr ⟨?_, List.forall_mem_cons.mpr ⟨?_, List.forall_mem_cons.mpr ⟨?_, List.forall_mem_cons.mpr ⟨?_, List.forall_mem_cons.mpr ⟨?_, List.forall_mem_cons.mpr ⟨?_, List.forall_mem_cons.mpr ⟨?_, fun _ h => absurd h List.not_mem_nil⟩⟩⟩⟩⟩⟩⟩⟩⟩⟩⟩⟩
  · exact va_Nw.of (A := args) rfl (hts _ (mem_L1 (i := 30) rfl))
  · exact va_Nw.of (A := args) rfl (hts _ (mem_L1 (i := 53) rfl))
  · exact va_Nw.of (A := args) rfl (hts _ (mem_L2 (i := 6) rfl))
  · exact va_Nw.of (A := args) rfl (hts _ (mem_L2 (i := 8) rfl))
  · exact va_Nw.of (A := args) rfl (hts _ (mem_L2 (i := 116) rfl))
  · exact va_Nw.of (A := args) rfl (hts _ (mem_L2 (i := 126) rfl))
  · exact va_Nw.of (A := args) rfl (hts _ (mem_L2 (i := 187) rfl))
  · exact va_Nw.of (A := args) rfl (hts _ (mem_L2 (i := 190) rfl))
  · exact va_Nw.of (A := args) rfl (hts _ (mem_L1 (i := 59) rfl))
  · exact va_Nw.of (A := args) rfl (hts _ (mem_L1 (i := 135) rfl))
  · exact va_Nw.of (A := args) rfl (hts _ (mem_L1 (i := 179) rfl))
  · exact va_Nw.of (A := args) rfl (hts _ (mem_L2 (i := 145) rfl))
theorem st_ao (hts : ∀ w ∈ lw_tbl, w.before args s = true) : va_AO "RainJury$World" s ∧ va_AO "RainJury$Hall" s ∧ AOl s :=
  ⟨va_AO.of (A := args) (hts _ (mem_L2 (i := 4) rfl)), va_AO.of (A := args) (hts _ (mem_L2 (i := 144) rfl)), hts _ (mem_L1 (i := 35) rfl)⟩
theorem st_cl (htw : ∀ w ∈ WT, w.before args s = true) : ∃ (dC : Nat → ClassId) (dI : Nat → Nat → Nat), ∀ (k : Nat) (q : vw_C), vwCl[k]? = some q → u_Kn s q.1 q.2.1 q.2.2 (dC k) (dI k) := by
  obtain ⟨c0, i0, h0⟩ := u_known (C := RX0) (T := TX0) (N := 11) (n := 11) htw lay_X0 (htw _ qI_X0)
  obtain ⟨c1, i1, h1⟩ := u_known (C := RX1) (T := TX1) (N := 13) (n := 13) htw lay_X1 (htw _ qI_X1)
  obtain ⟨c2, i2, h2⟩ := u_known (C := RX2) (T := TX2) (N := 1) (n := 1) htw lay_X2 (htw _ qI_X2)
  obtain ⟨c3, i3, h3⟩ := u_known (C := RX3) (T := TX3) (N := 8) (n := 8) htw lay_X3 (htw _ qI_X3)
  obtain ⟨c4, i4, h4⟩ := u_known (C := RX4) (T := TX4) (N := 8) (n := 8) htw lay_X4 (htw _ qI_X4)
  obtain ⟨c5, i5, h5⟩ := u_known (C := RX5) (T := TX5) (N := 12) (n := 12) htw lay_X5 (htw _ qI_X5)
  obtain ⟨c6, i6, h6⟩ := u_known (C := RX6) (T := TX6) (N := 3) (n := 3) htw lay_X6 (htw _ qI_X6)
  obtain ⟨c7, i7, h7⟩ := u_known (C := RX7) (T := TX7) (N := 9) (n := 9) htw lay_X7 (htw _ qI_X7)
  obtain ⟨c8, i8, h8⟩ := u_known (C := RX8) (T := TX8) (N := 2) (n := 2) htw lay_X8 (htw _ qI_X8)
  obtain ⟨c9, i9, h9⟩ := u_known (C := RX9) (T := TX9) (N := 3) (n := 3) htw lay_X9 (htw _ qI_X9)
  obtain ⟨c10, i10, h10⟩ := u_known (C := RX10) (T := TX10) (N := 19) (n := 19) htw lay_X10 (htw _ qI_X10)
  obtain ⟨c11, i11, h11⟩ := u_known (C := RX11) (T := TX11) (N := 46) (n := 46) htw lay_X11 (htw _ qI_X11)
  refine ⟨fun k => match k with | 0 => c0 | 1 => c1 | 2 => c2 | 3 => c3 | 4 => c4 | 5 => c5 | 6 => c6 | 7 => c7 | 8 => c8 | 9 => c9 | 10 => c10 | 11 => c11 | _ => c0, fun k => match k with | 0 => i0 | 1 => i1 | 2 => i2 | 3 => i3 | 4 => i4 | 5 => i5 | 6 => i6 | 7 => i7 | 8 => i8 | 9 => i9 | 10 => i10 | 11 => i11 | _ => i0, ?_⟩
  intro k q hq
  match k, hq with
  | 0, hq => cases hq; exact h0
  | 1, hq => cases hq; exact h1
  | 2, hq => cases hq; exact h2
  | 3, hq => cases hq; exact h3
  | 4, hq => cases hq; exact h4
  | 5, hq => cases hq; exact h5
  | 6, hq => cases hq; exact h6
  | 7, hq => cases hq; exact h7
  | 8, hq => cases hq; exact h8
  | 9, hq => cases hq; exact h9
  | 10, hq => cases hq; exact h10
  | 11, hq => cases hq; exact h11
  | k + 12, hq => cases hq
theorem ra_prim {ty : FieldType} (h : (Cond.arrayClass ty).before args s = true) : ∃ cA, ArrOfT s cA ty ∧ s.vm.findClass ("[" ++ ty.toString) = some cA := by
  obtain ⟨cA, kA, comp, h1, h2, h3⟩ := Cond.arrayClass_spec h
  exact ⟨cA, fun N z => ⟨(fun q hq => by cases hq), kA, h2, comp, h3⟩, h1⟩
theorem ra_obj {C : String} (h : va_AO C s) : ∃ cA, ArrOfT s cA (.object C) ∧ va_RA s cA (.object C) := by
  obtain ⟨comp, cA, kA, h1, -, h3, h4, h5⟩ := Cond.arrayOver_spec h
  exact ⟨cA, fun N z => ⟨(fun q hq => by cases hq), kA, h3, comp, h4⟩, kA, comp, h3, h4, h1, h5⟩
theorem ra_row (h : AOl s) : ∃ cA, ArrOfT s cA (.array .long) ∧ s.vm.findClass ("[" ++ (FieldType.array .long).toString) = some cA := by
  obtain ⟨comp, cA, kA, h1, h3, h4, h5⟩ := Cond.arrayOver_specA h
  exact ⟨cA, fun N z => ⟨(fun q hq => by cases hq), kA, h3, comp, h4⟩, h5⟩
theorem st_K (hts : ∀ w ∈ lw_tbl, w.before args s = true) : ∃ E : wEnv, E.2.2 = s.heap.size ∧ Kx E s := by
  have htw : ∀ w ∈ WT, w.before args s = true := fun w h => hts w (WT_sub h)
  obtain ⟨dC, dI, hc⟩ := st_cl htw
  obtain ⟨a0, x0, y0⟩ := ra_prim (htw _ qA_int)
  obtain ⟨a1, x1, y1⟩ := ra_prim (htw _ qA_byte)
  obtain ⟨a2, x2, y2⟩ := ra_prim (htw _ qA_long)
  obtain ⟨h1, h2, h3⟩ := st_ao hts
  obtain ⟨a3, x3, y3⟩ := ra_obj h1
  obtain ⟨a4, x4, y4⟩ := ra_obj h2
  obtain ⟨a5, x5, y5⟩ := ra_row h3
  refine ⟨((dC, dI), (fun k => match k with | 0 => a0 | 1 => a1 | 2 => a2 | 3 => a3 | 4 => a4 | _ => a5), s.heap.size), rfl, hc, ?_⟩
  intro k q hq
  match k, hq with
  | 0, hq => cases hq; exact ⟨x0, y0⟩
  | 1, hq => cases hq; exact ⟨x1, y1⟩
  | 2, hq => cases hq; exact ⟨x2, y2⟩
  | 3, hq => cases hq; exact ⟨x3, y3⟩
  | 4, hq => cases hq; exact ⟨x4, y4⟩
  | 5, hq => cases hq; exact ⟨x5, y5⟩
  | k + 6, hq => cases hq
theorem term_size {tm : Term} {N : Nat} {t : Nat} {cell : Cell} (hN : N < 2 ^ 31) (ht : tm.eval args s none [] s = some (.ref t)) (hc : s.arrayAt? t = some cell) (hv : (Term.length tm).eval args s none [] s = some (.int (Int32.ofNat N))) : cell.slots.size = N := by
  simp only [Term.eval, ht, hc, Option.bind_eq_bind, Option.bind_some] at hv
  by_cases hlt : cell.slots.size < 2147483648
  · rw [if_pos hlt] at hv
    have h2 : cell.slots.size.toInt32 = Int32.ofNat N := Value.int.inj (Option.some.inj hv)
    have h3 := congrArg Int32.toNatClampNeg h2
    rw [show cell.slots.size.toInt32 = Int32.ofNat cell.slots.size from rfl, Int32.toNatClampNeg_ofNat_of_lt hlt, Int32.toNatClampNeg_ofNat_of_lt hN] at h3
    exact h3
  · rw [if_neg hlt] at hv
    cases hv

theorem st_el {tm : Term} {t j : Nat} {cell : Cell} {v : Value} (hj : j < 2 ^ 31) (ht : tm.eval args s none [] s = some (.ref t)) (hc : s.arrayAt? t = some cell) (hel : (Term.elem tm (.int (Int32.ofNat j))).eval args s none [] s = some v) : cell.slots[j]? = some v := by
  obtain ⟨a, i, cell2, h1, h2, h3, h4, h5⟩ := Term.elem_spec hel
  cases ht.symm.trans h1
  cases hc.symm.trans h3
  have hi : i = Int32.ofNat j := by
    have e : (Term.int (Int32.ofNat j)).eval args s none [] s = some (.int (Int32.ofNat j)) := rfl
    cases h2.symm.trans e
    rfl
  rw [hi, Int32.toNatClampNeg_ofNat_of_lt hj] at h5
  exact h5
theorem n_7 : (Cond.arrayOf (.static "RainJury" "MOST_OF" "[I") .int) ∈ flatC narrow_1 := by decide +kernel
theorem n_8 : (Cond.eq (.length (.static "RainJury" "MOST_OF" "[I")) (.int 4)) ∈ flatC narrow_1 := by decide +kernel
theorem n_9 : ∀ j, j < 4 → (Cond.eq (.elem (.static "RainJury" "MOST_OF" "[I") (.int (Int32.ofNat j))) (.int (mostOf j))) ∈ flatC narrow_1 := by decide +kernel
theorem n_2 : (Cond.eq (.static "java/lang/String" "COMPACT_STRINGS" "Z") (.int 1)) ∈ flatC narrow_1 := by decide +kernel
theorem n_3 : (Cond.isRef (.static "jdk/internal/util/Preconditions" "SIOOBE_FORMATTER" "Ljava/util/function/BiFunction;")) ∈ flatC narrow_1 := by decide +kernel
def tmS : Term := .string "RainJury$Reader" 51
def tmV : Term := .field tmS "java/lang/String" "value" "[B"
theorem n_38 : (Cond.exactly tmS "java/lang/String") ∈ flatC narrow_1 := by decide +kernel
theorem n_39 : (Cond.eq (.field tmS "java/lang/String" "coder" "B") (.int 0)) ∈ flatC narrow_1 := by decide +kernel
theorem n_40 : (Cond.arrayOf tmV .byte) ∈ flatC narrow_1 := by decide +kernel
theorem n_41 : (Cond.eq (.length tmV) (.int 170)) ∈ flatC narrow_1 := by decide +kernel
theorem n_42 : ((flatC narrow_1).drop 42).take 170 = (List.range 170).map (fun j => Cond.eq (.elem tmV (.int (Int32.ofNat j))) (.int (sBy.getD j 0))) := by decide +kernel
theorem n_el {j : Nat} (hj : j < 170) : (Cond.eq (.elem tmV (.int (Int32.ofNat j))) (.int (sBy.getD j 0))) ∈ flatC narrow_1 := by
  have h : (Cond.eq (.elem tmV (.int (Int32.ofNat j))) (.int (sBy.getD j 0))) ∈ ((flatC narrow_1).drop 42).take 170 := by
    rw [n_42]
    exact List.mem_map.mpr ⟨j, List.mem_range.mpr hj, rfl⟩
  exact List.mem_of_mem_drop (List.mem_of_mem_take h)
theorem st_Zs {E : wEnv} (hts : ∀ w ∈ lw_tbl, w.before args s = true) (hn : ∀ c ∈ flatC narrow_1, c.before args s = true) (hE : E.2.2 = s.heap.size) : Zs E s s.heap := by
  have hA : ∀ a : Nat, a < s.heap.size → ¬ inB E a := fun a h q => by
    have := q.1
    omega
  have hlen : (Term.length (.static "RainJury" "MOST_OF" "[I")).eval args s none [] s = some (.int (Int32.ofNat 4)) := va_eqt (hn _ n_8)
  obtain ⟨t, cell, ht, hat, -⟩ := Term.length_spec hlen
  obtain ⟨hcell, hkn, -, -⟩ := State.arrayAt?_spec hat
  obtain ⟨hof, -⟩ := Cond.arrayOf_spec (hn _ n_7) ht hcell
  have hsz := term_size (N := 4) (by decide) ht hat hlen
  refine ⟨va_Nw.of (A := args) rfl (hts _ (mem_L4 (i := 232) rfl)), va_Nw.of (A := args) rfl (hts _ (mem_L3 (i := 173) rfl)), t, va_Zof (hts _ (mem_L3 (i := 174) rfl)) (hts _ (WT_sub ini_X10)) ht hA, ⟨cell, hcell, hof, hkn, hsz, fun j hj => ?_⟩, (Array.getElem?_eq_some_iff.mp hcell).1, hA t (Array.getElem?_eq_some_iff.mp hcell).1⟩
  exact st_el (by omega) ht hat (va_eqt (hn _ (n_9 j hj)))
theorem st_Zl {E : wEnv} (hts : ∀ w ∈ lw_tbl, w.before args s = true) (hn : ∀ c ∈ flatC narrow_1, c.before args s = true) (hE : E.2.2 = s.heap.size) : Zl E s s.heap := by
  have hA : ∀ a : Nat, a < s.heap.size → ¬ hiA E a := fun a h q => by
    have q : E.2.2 ≤ a := q
    omega
  obtain ⟨adK, adV, hS, hev⟩ := vk_Sof (args := args) (s := s) (N := 1) (tm := fun _ => tmS) (len := [sBy.length]) (byt := [sBy]) (A := hiA E) (fun i hi => by
      rw [show i = 0 by omega, sB1]
      decide) (fun i _ => hn _ n_38) (fun i _ => hn _ n_39) (fun i _ => hn _ n_40) (fun i hi => by
      rw [show i = 0 by omega, sB2]
      exact hn _ n_41) (fun i hi j hj => by
      rw [show i = 0 by omega, sB1] at hj
      rw [show i = 0 by omega, sB0]
      exact hn _ (n_el hj)) (fun i j hi hj h => absurd (show i = j by omega) h) hA
  have hS2 : vk_S 1 [sBy.length] [sBy] (fun _ => adK 0) (fun _ => adV 0) (hiA E) s s.heap := ⟨fun i hi => by
      rw [show i = 0 by omega]
      exact hS.1 0 (by decide), fun i j hi hj _ => by omega⟩
  have hR : vk_R RX5 51 sTx (adK 0) s := vk_R.of (A := args) (hts _ (mem_L2 (i := 15) rfl)) (hev 0 (by decide))
  have hC : va_Z "java/lang/String" "COMPACT_STRINGS" "Z" (.int 1) (hiA E) s s.heap := va_Zof (hts _ (mem_L2 (i := 25) rfl)) (hts _ (WT_sub ini_J0)) (va_eqt (hn _ n_2)) hA
  have hq := va_Zqof (args := args) (s := s) (A := hiA E) (hts _ (mem_L2 (i := 41) rfl)) (hts _ (WT_sub ini_J3)) (hn _ n_3) hA
  rcases hq with hq | ⟨t, hq⟩
  · exact ⟨st_ao hts, st_nl hts, adK 0, adV 0, _, hR, hS2, hC, hq, Or.inl rfl⟩
  · exact ⟨st_ao hts, st_nl hts, adK 0, adV 0, _, hR, hS2, hC, hq, Or.inr ⟨t, rfl⟩⟩
end START
theorem law_start {E : wEnv} {Y : YT} {b L : Nat} {xs : Nat → Int32} (C : Cb E Y cL_law 4 RL 1000 0 600000 7302250) (CL : LC E Y b L xs) (kend : ∀ M i, G E Y 4 M 1752 (lvL E b i) []) (hk : yk Y = 172) (hy : yn Y = 12305) (hA : yA Y = hiA E) (D : Dw) : Gb E Y 4 D 0 0 0 0 [(0, .ref b)] [] := by
  refine gb_new (fs := z_X10) C dL_law_0 lay_X10 tyX10_ok qL_L_7 qI_X10 ini_X10 (ci := 10) rfl zd_X10 rfl (by decide) (by decide) ?_
  refine gb_dup C dL_law_3 rfl ?_
  refine gb_init C dL_law_4 (mk_0 _ upD_at) ql_L_9 qi_yX10_init ini_X10 qk_yX10_init rfl (by decide +kernel) (by decide) (by decide) rfl (by decide) (by decide) rfl ?_
  refine gb_astore_n C dL_law_7 rfl rfl ?_
  refine gb_new (n := 157) (fs := z_X11) C dL_law_8 lay_X11 tyX11_ok qL_L_10 qI_X11 ini_X11 (ci := 11) rfl zd_X11 rfl (by decide) (by decide) ?_
  refine gb_dup C dL_law_11 rfl ?_
  refine gb_init C dL_law_12 (mk_157 _ upD_at) ql_L_12 qi_yX11_init ini_X11 qk_yX11_init rfl (by decide +kernel) (by decide) (by decide) rfl (by decide) (by decide) rfl ?_
  refine gb_astore_n C dL_law_15 rfl rfl ?_
  refine gb_iconst (v := nI 0) C dL_law_16 (by decide) ?_
  refine gb_istore_n C dL_law_17 rfl rfl ?_
  intro H locs ls hP hS hl
  have hG := g_sub (lv := _) (law_loop CL kend (L + 1) 0 S0 M0 (by omega) (Nat.zero_le _) OKS_0 RX_0 RM_0) ⟨rfl, rfl, rfl, rfl, trivial⟩ H locs ls ?_ (by rw [hA]; exact hS) hl
  · rw [hk, hy] at hG
    exact hG
  · intro c i hi
    have hc := cnt_lt hi
    have ho : (kOF.getD c []).getD i 0 < 172 := kOF_lt c hc i hi
    have hw := hP _ _ (wlD_at ho)
    have hf : FIN E ((kOF.getD c []).getD i 0) = cE E M0 c i := by
      unfold FIN
      rw [kORD_ok c hc i hi]
    show va_at E.1 vwCl (E.2.2 + (kOF.getD c []).getD i 0, cE E M0 c i) H
    rw [← hf]
    generalize (kOF.getD c []).getD i 0 = q at hw ho ⊢
    by_cases h1 : 157 ≤ q
    · have e : dF E 157 (upD (dF E 0 (upD D 0 (.inr (10, z_X10)))) 157 (.inr (11, z_X11))) q = FIN E q := if_pos h1
      rw [← e]
      exact hw
    · have e : dF E 157 (upD (dF E 0 (upD D 0 (.inr (10, z_X10)))) 157 (.inr (11, z_X11))) q = FIN E q := (if_neg h1).trans ((upD_ne (by omega)).trans (if_pos (Nat.zero_le _)))
      rw [← e]
      exact hw
