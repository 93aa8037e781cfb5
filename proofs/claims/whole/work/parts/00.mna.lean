/-! ===== new long[4][60] ===== -/
theorem mna_outer (c : ClassId) (N h0 : Nat) : ∀ i : Nat, Jvm.Free.Multi.outerC c N h0 i = arrV c N (fun j => if j < i then .ref (h0 + 1 + j) else .null)
  | 0 => by
    show ({ cls := c, slots := Array.replicate N .null, vm := .none } : Cell) = _
    rw [arrV_new]
    exact congrArg (arrV c N) (funext fun j => (if_neg (Nat.not_lt_zero j)).symm)
  | i + 1 => by
    show (Jvm.Free.Multi.outerC c N h0 i).setSlot i (.ref (h0 + 1 + i)) = _
    rw [mna_outer c N h0 i, arrV_store]
    refine congrArg (arrV c N) (funext fun j => ?_)
    by_cases e : j = i
    · subst e
      simp [updV]
    · by_cases h : j < i
      · simp [updV, e, h, Nat.lt_succ_of_lt h]
      · simp [updV, e, h, show ¬ j < i + 1 by omega]
theorem w_mna {p : Program} {l : Launch} {e : Env} {R : Room} {s : State} {m : MethodId} {args : Array Value} {below : List Frame} {meth : Method} {c : Code} {H : Heap} {locs : List Loc} {cells slots : Nat} {Q : State → Prop} {cc : ByteArray} {pc : Nat} {ls : Array Slot} {rest : List Value} (hexec : p.tables.exec = Jvm.exec) (hb : c.code = cc) {own : String} {idx : Nat} (hown : s.vm.findClass own = some m.cls) (hcl : (Cond.classLink own idx "[[J").before args s = true) (hover : (Cond.arrayOver (.array .long)).before args s = true) (harr : (Cond.arrayClass .long).before args s = true)
    {n0 : Nat} (hsz : H.size = n0) {n k : Int32} (hn : n.toNatClampNeg = 4) (hk : k.toNatClampNeg = 60) (hn0 : ¬ n < 0) (hk0 : ¬ k < 0) (hcells : cells + 5 ≤ R.cells) (hslots : slots + 244 ≤ R.slots) (hd : decode cc pc = .ok (.multianewarray idx 2, 4))
    (kk : ∀ (cA comp : ClassId) (H1 : Heap), s.vm.findClass "[[J" = some cA → s.vm.findClass "[J" = some comp → H1.size = n0 + 5 → (∀ q : Nat, q < n0 → H1[q]? = H[q]?) → H1[n0]? = some (arrV cA 4 (fun j => if j < 4 then .ref (n0 + 1 + j) else .null)) → (∀ j, j < 4 → H1[n0 + 1 + j]? = some (arrV comp 60 (fun _ => .long 0))) → W p l e R s m args below meth c H1 (locs ++ (List.range 4).map fun j => ⟨n0, j⟩) (cells + 5) (slots + 244) Q (F0 m (pc + 4) ls (.ref n0 :: rest))) :
    W p l e R s m args below meth c H locs cells slots Q (F0 m pc ls (.int k :: .int n :: rest)) := by
  have e1 : "[" ++ (FieldType.array FieldType.long).toString = "[[J" := by decide +kernel
  have e2 : (FieldType.array FieldType.long).toString = "[J" := by decide +kernel
  intro T hT Xs
  obtain ⟨vm₁, cA, comp, -, fA, fC, -, -, X', step⟩ := Xs.multianewarray2K hexec (own := own) (index := idx) (ty := .long) hown (by rw [e1]; exact hcl) hover harr (g := F0 m pc ls (.int k :: .int n :: rest)) rfl (by rw [hb]; exact hd) (n := n) (k := k) (rest := rest) rfl hn0 hk0 (by rw [hn]; decide) (by rw [hk]; decide) (by rw [hk]; decide) rfl rfl (by rw [hn]; omega) (by rw [hn, hk]; omega)
  rw [e1] at fA
  rw [e2] at fC
  rw [hn, hk] at X' step
  have hTh : (T.setVm vm₁).heap = H := hT
  have hT0 : T.heap.size = n0 := by rw [hT, hsz]
  rw [hT0] at X' step
  obtain ⟨f1, f2, -, -⟩ := Jvm.Free.Multi.fill_facts (T.setVm vm₁) cA comp 4 60 (defaultValue .long) 4
  rw [hTh, hsz] at f1 f2
  rw [mna_outer] at f2
  refine (kk cA comp _ fA fC (by rw [f1]) (fun q hq => ?_) f2 (fun j hj => ?_) _ rfl X').imp fun t ht => ⟨step t ht.1, ht.2⟩
  · have := Jvm.Free.Multi.fill_old (T.setVm vm₁) cA comp 4 60 (defaultValue .long) (a := q) (by rw [hTh, hsz]; exact hq) 4
    rw [hTh] at this
    exact this
  · have := Jvm.Free.Multi.fill_inner (T.setVm vm₁) cA comp 4 60 (defaultValue .long) 4 j hj
    rw [hTh, hsz] at this
    rw [this]
    exact congrArg some (arrV_new comp 60 (defaultValue .long))
