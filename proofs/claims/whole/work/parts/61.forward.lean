/-! ===== tokens go forward; crops, hunger, law on the class ===== -/
def MT (t : Tk) : Prop := t.1 ≤ t.2.1
def LE (t t' : Tk) : Prop := t.1 ≤ t'.1 ∧ MT t'
set_option maxHeartbeats 600000 in
theorem tok_mt {P : Nat → Int32} {n p : Nat} : MT (tokS P n p) := by
  have e : ∀ a, MT (tokA P n a) := by
    intro a
    unfold tokA MT
    split
    · exact Nat.le_refl _
    · split
      · exact (runP_le isL P (n - a) a).1
      · split
        · exact (runP_le isD P (n - a) a).1
        · exact Nat.le_succ a
  exact e _
set_option maxHeartbeats 600000 in
theorem nx_le {P : Nat → Int32} {n : Nat} {t : Tk} (h : MT t) : LE t (nx P n t) := ⟨Nat.le_trans h tokS_ge, tok_mt⟩
set_option maxHeartbeats 600000 in
theorem nx_lt {P : Nat → Int32} {n : Nat} {t : Tk} (h : t.1 < t.2.1) : t.1 + 1 ≤ (nx P n t).1 := Nat.le_trans h tokS_ge
set_option maxHeartbeats 600000 in
theorem LE.tr {a b c : Tk} (h : LE a b) (k : LE b c) : LE a c := ⟨Nat.le_trans h.1 k.1, k.2⟩
set_option maxHeartbeats 600000 in
theorem LE.rf {a : Tk} (h : MT a) : LE a a := ⟨Nat.le_refl _, h⟩
set_option maxHeartbeats 600000 in
theorem num_inv {P : Nat → Int32} {n : Nat} {lo hi : Int32} {t : Tk} {a : Tk × Int32} (e : numR P n lo hi t = .inr a) : t.2.2.1 = 2 ∧ a.1 = nx P n t ∧ ¬ a.2 < lo ∧ ¬ hi < a.2 := by
  unfold numR at e
  by_cases c : t.2.2.1 = 2
  · rw [if_pos c] at e
    by_cases c1 : t.2.2.2.2.2 < lo
    · rw [if_pos c1] at e; cases e
    · rw [if_neg c1] at e
      by_cases c2 : hi < t.2.2.2.2.2
      · rw [if_pos c2] at e; cases e
      · rw [if_neg c2] at e
        cases e
        exact ⟨c, rfl, c1, c2⟩
  · rw [if_neg c] at e; cases e
set_option maxHeartbeats 600000 in
theorem eith_inv {P : Nat → Int32} {n : Nat} {hi : Int32} {t : Tk} {a : Tk × Int32} (e : eithR P n hi t = .inr a) : ∃ b, numR P n 0 hi (if wdS t = nI 2 then nx P n t else t) = .inr b ∧ a.1 = b.1 ∧ a.2 = (if wdS t = nI 2 then -b.2 else b.2) := by
  unfold eithR at e
  cases c : numR P n 0 hi (if wdS t = nI 2 then nx P n t else t) with
  | inl f => rw [c] at e; cases e
  | inr b =>
    rw [c] at e
    cases e
    exact ⟨b, rfl, rfl, rfl⟩
set_option maxHeartbeats 600000 in
theorem num_le {P : Nat → Int32} {n : Nat} {lo hi : Int32} {t : Tk} {a : Tk × Int32} (h : MT t) (e : numR P n lo hi t = .inr a) : LE t a.1 := by
  rw [(num_inv e).2.1]; exact nx_le h
set_option maxHeartbeats 600000 in
theorem eith_le {P : Nat → Int32} {n : Nat} {hi : Int32} {t : Tk} {a : Tk × Int32} (h : MT t) (e : eithR P n hi t = .inr a) : LE t a.1 := by
  obtain ⟨b, e1, e2, -⟩ := eith_inv e
  rw [e2]
  by_cases c : wdS t = nI 2
  · rw [if_pos c] at e1
    exact (nx_le h).tr (num_le tok_mt e1)
  · rw [if_neg c] at e1
    exact num_le h e1
set_option maxHeartbeats 600000 in
theorem opt_le {P : Nat → Int32} {n i : Nat} {R : Tk → Ft ⊕ (Tk × Int32)} {t : Tk} {a : Tk × Int32} (hR : ∀ t a, MT t → R t = .inr a → LE t a.1) (h : MT t) (e : optR P n i R t = .inr a) : LE t a.1 := by
  unfold optR at e
  by_cases c : wdS t = nI i
  · rw [if_pos c] at e
    exact (nx_le h).tr (hR _ _ tok_mt e)
  · rw [if_neg c] at e
    cases e
    exact LE.rf h
set_option maxHeartbeats 600000 in
theorem bnd_inv {α β : Type} {x : Ft ⊕ α} {f : α → Ft ⊕ β} {b : β} (e : bnd x f = .inr b) : ∃ a, x = .inr a ∧ f a = .inr b := by
  cases x with
  | inl g => cases e
  | inr a => exact ⟨a, rfl, e⟩
set_option maxHeartbeats 600000 in
theorem jur_le {P : Nat → Int32} {n : Nat} {t : Tk} {a : Tk × Int32 × Int32 × Int32} (h : MT t) (e : jurR P n t = .inr a) : LE t a.1 := by
  obtain ⟨x, e1, e⟩ := bnd_inv e
  obtain ⟨y, e2, e⟩ := bnd_inv e
  obtain ⟨z, e3, e⟩ := bnd_inv e
  cases e
  have l1 := opt_le (fun _ _ h e => eith_le h e) h e1
  have l2 := opt_le (fun _ _ h e => num_le h e) l1.2 e2
  have l3 := opt_le (fun _ _ h e => num_le h e) l2.2 e3
  exact (l1.tr l2).tr l3
set_option maxHeartbeats 600000 in
theorem new_inv {P : Nat → Int32} {n q : Nat} {c : Nat → Nat} {N : Nat → Nat → Int64} {t : Tk} {a : Tk × Int64} (e : newR P n c N q t = .inr a) : ¬ c q = moN q ∧ a.1 = nx P n (nx P n t) := by
  unfold newR at e
  by_cases c1 : c q = moN q
  · rw [if_pos c1] at e; cases e
  · rw [if_neg c1] at e
    by_cases c2 : isNm (nx P n t) = true
    · rw [if_pos c2] at e
      by_cases c3 : takenS c N (nx P n t).2.2.2.2.1 = true
      · rw [if_pos c3] at e; cases e
      · rw [if_neg c3] at e
        cases e
        exact ⟨c1, rfl⟩
    · rw [if_neg c2] at e; cases e
set_option maxHeartbeats 600000 in
theorem new_le {P : Nat → Int32} {n q : Nat} {c : Nat → Nat} {N : Nat → Nat → Int64} {t : Tk} {a : Tk × Int64} (h : MT t) (e : newR P n c N q t = .inr a) : LE t a.1 := by
  rw [(new_inv e).2]
  exact (nx_le h).tr (nx_le tok_mt)
set_option maxHeartbeats 600000 in
theorem see_inv {c : Nat → Nat} {N : Nat → Nat → Int64} {q i : Nat} {t : Tk} (e : seeR c N q t = .inr i) : isNm t = true ∧ i < c q := by
  unfold seeR at e
  by_cases c1 : isNm t = true
  · rw [if_pos c1] at e
    cases e2 : fndF (N q) t.2.2.2.2.1 (c q) 0 with
    | none => rw [e2] at e; cases e
    | some j =>
      rw [e2] at e
      cases e
      exact ⟨c1, by have := (fndF_lt _ _ _ e2).2.1; omega⟩
  · rw [if_neg c1] at e; cases e
set_option maxHeartbeats 600000 in
theorem wd_inv {P : Nat → Int32} {n i : Nat} {t t' : Tk} (e : wdR P n i t = .inr t') : wdS t = nI i ∧ t' = nx P n t := by
  unfold wdR at e
  by_cases c : wdS t = nI i
  · rw [if_pos c] at e; cases e; exact ⟨c, rfl⟩
  · rw [if_neg c] at e; cases e
set_option maxHeartbeats 600000 in
theorem stop_inv {P : Nat → Int32} {n : Nat} {t t' : Tk} (e : stopR P n t = .inr t') : t.2.2.1 = 3 ∧ t' = nx P n t := by
  unfold stopR at e
  by_cases c : t.2.2.1 = 3 ∧ t.2.2.2.2.2 = 59
  · rw [if_pos c] at e; cases e; exact ⟨c.1, rfl⟩
  · rw [if_neg c] at e; cases e
set_option maxHeartbeats 600000 in
theorem wd_kind {t : Tk} {i : Nat} (hi : i < 30) (e : wdS t = nI i) : t.2.2.1 = 1 := by
  unfold wdS at e
  by_cases c : t.2.2.1 = 1
  · exact c
  · rw [if_neg c] at e
    exact absurd e.symm (m1_nI i hi)
set_option maxHeartbeats 600000 in
theorem grow_step {P : Nat → Int32} {n w : Nat} {c : Nat → Nat} {N : Nat → Nat → Int64} {t : Tk} {v : Tk × Int32} (hw : WfT n t) (h : MT t) (e0 : wdS t = nI 12) (e2 : eithR P n 99 (nx P n (nx P n t)) = .inr v) : t.1 + 1 ≤ v.1.1 ∧ LE t v.1 := by
  have hk := wd_kind (by decide) e0
  have hl : t.1 < t.2.1 := hw.2.2.2.2.1.resolve_left (by omega)
  have l1 : LE t (nx P n t) := nx_le h
  have l2 : LE (nx P n t) (nx P n (nx P n t)) := nx_le tok_mt
  have l3 := eith_le tok_mt e2
  have := nx_lt (P := P) (n := n) hl
  exact ⟨Nat.le_trans this (Nat.le_trans l2.1 l3.1), (l1.tr l2).tr l3⟩
set_option maxHeartbeats 600000 in
theorem seeR_cg {c c' : Nat → Nat} {N N' : Nat → Nat → Int64} {q : Nat} {t : Tk} (h1 : c' q = c q) (h2 : N' q = N q) : seeR c' N' q t = seeR c N q t := by
  unfold seeR
  rw [h1, h2]
set_option maxHeartbeats 600000 in
theorem DR.gro {M : Mem} {k : Nat → Nat} {f : Nat → Nat → Int32} {lt : Bool} {q w : Nat} {v : Int32} (hq : q < 4) (hw : w < 6) (h : DR M (k, f) lt) : DR (sR M 19 4 (upd (M.1 19 4) (6 * q + w) v)) (k, set2 f 5 (6 * q + w) v) lt := by
  obtain ⟨q1, q2, q3, q4, q5, q6, q7, q8, q9⟩ := h
  have e4 : ∀ i j, ¬ i = 5 → (set2 f 5 (6 * q + w) v) i j = f i j := fun i j hi => set2_ne (fun z => hi z.1)
  have f1 : ∀ c, ¬ c = 19 → (sR M 19 4 (upd (M.1 19 4) (6 * q + w) v)).1 c 4 = M.1 c 4 := fun c h2 => by rw [sR_ne _ _ _ _ (fun z => h2 z.1)]
  refine ⟨?_, ?_, ?_, fun j hj => ?_, fun x y hx hy => ?_, fun y hy => ?_, fun p hp => ?_, fun u hu => ?_, fun c u hc hu => ?_⟩
  · rw [f1 8 (by decide)]; exact q1
  · rw [f1 8 (by decide)]; exact q2
  · rw [sR_ne _ _ _ _ (by omega)]; exact q3
  · dsimp only
    rw [f1 11 (by decide), f1 12 (by decide), f1 13 (by decide), e4 0 _ (by decide), e4 1 _ (by decide), e4 2 _ (by decide)]; exact q4 j hj
  · dsimp only
    rw [f1 14 (by decide), e4 3 _ (by decide)]; exact q5 x y hx hy
  · obtain ⟨T2, u1, u2, u3⟩ := q6 y hy
    refine ⟨T2, by rw [f1 15 (by decide)]; exact u1, u2, fun x hx => ?_⟩
    show _ = decide (¬ set2 f 5 (6 * q + w) v 3 (10 * x + y) = 0)
    rw [e4 3 _ (by decide)]; exact u3 x hx
  · dsimp only
    rw [f1 16 (by decide), e4 4 _ (by decide)]; exact q7 p hp
  · rw [f1 17 (by decide), f1 18 (by decide)]; exact q8 u hu
  · dsimp only
    rw [sR_at]
    by_cases e : 6 * c + u = 6 * q + w
    · rw [e, upd_at, set2_at]
    · rw [upd_ne _ _ e, set2_ne (fun z => e z.2)]; exact q9 c u hc hu
set_option maxHeartbeats 600000 in
theorem crop_loop {P : Nat → Int32} {n q : Nat} {c : Nat → Nat} {N : Nat → Nat → Int64} {lt : Bool} (B : BY P n) (hq : q < 4) : ∀ (m x fu : Nat) (M : Mem) (t : Tk) (k : Nat → Nat) (f : Nat → Nat → Int32), x + m = n + 1 → m < fu → x ≤ t.1 → MT t → GX P n M t → NX M 4 c N → DR M (k, f) lt →
    ∃ r, f_X2_readCrop_8 4 (nI q) fu (nI x) M = some r ∧ CtF M r.2 ∧ match growR P n c N q m t f with | .inl f => r.1 = 0 ∧ BX r.2 f | .inr a => r.1 = 1 ∧ GX P n r.2 a.1 ∧ NX r.2 4 c N ∧ DR r.2 (k, a.2) lt
  | 0, x, fu, M, t, k, f, hx, _, ht, _, h, _, _ => by
    have := h.2.2.1.1
    omega
  | m + 1, x, 0, M, t, k, f, _, z, _, _, _, _, _ => by omega
  | m + 1, x, fu + 1, M, t, k, f, hx, hf, ht, mt, h, hN, hR => by
    have := B.1
    have hc2 : c 2 ≤ 6 := (hN 2 (by decide)).2.1
    have es : growR P n c N q (m + 1) t f = if wdS t = nI 12 then bnd (seeR c N 2 (nx P n t)) fun w => bnd (eithR P n 99 (nx P n (nx P n t))) fun v => growR P n c N q m v.1 (set2 f 5 (6 * q + w) v.2) else .inr (t, f) := rfl
    rw [f_X2_readCrop_8, h.1.1, if_neg (by rw [lt_nI (by omega) (by omega)]; omega), es]
    obtain ⟨M1, a1, b1, d1⟩ := take_x (i := 12) B h
    rw [show f_X5_takeWord (12 : Int32) M = some (iw (wdS t) 12, M1) from a1, Option.bind_some]
    unfold iw
    by_cases c0 : wdS t = nI 12
    · rw [if_pos c0] at d1
      simp only
      rw [if_pos c0, if_neg (show ¬ (1 : Int32) = 0 from by decide), if_pos c0]
      refine chn (known_y (q := 2) B d1 (b1.x.N hN) (by decide)) (fun M' f eo fx bx => ?_) (fun q2 w eo x2 g2 => ?_)
      · rw [show bnd (seeR c N 2 (nx P n t)) _ = .inl f from by rw [eo]; rfl]
        exact ⟨(b1.x.tr fx).w, rfl, bx⟩
      obtain ⟨g2, vw, hw⟩ := g2
      have F2 := b1.x.tr x2
      rw [eo]
      refine chn (OXv.y (eith_x (hi := 99) B g2)) (fun M' f eo2 fx bx => ?_) (fun q3 v eo2 x3 g3 => ?_)
      · rw [show (bnd (.inr w) fun w => bnd (eithR P n 99 (nx P n (nx P n t))) fun v => growR P n c N q m v.1 (set2 _ 5 (6 * q + w) v.2)) = .inl f from by unfold bnd; simp only; rw [eo2]]
        exact ⟨(F2.tr fx).w, rfl, bx⟩
      obtain ⟨g3, vv⟩ := g3
      have F3 := F2.tr x3
      have st := grow_step (w := w) (c := c) (N := N) h.2.2.1 mt c0 eo2
      have e5 : f_X1_setGrowth 4 (nI q) (q2.2.1 30 0 9) (q3.2.1 30 0 9) q3.2 = some (sR q3.2 19 4 (upd (q3.2.1 19 4) (6 * q + w) v.2)) := by
        unfold f_X1_setGrowth
        rw [vw, vv, show nI q * (6 : Int32) = nI (q * 6) from mul_nI q 6, add_nI, inb_nI_t (show q * 6 + w < 24 by omega) (by decide), if_pos rfl, nI_clamp (by omega), show q * 6 + w = 6 * q + w by omega]
      rw [e5, Option.bind_some, show nI x + (1 : Int32) = nI (x + 1) from add_nI x 1]
      obtain ⟨r, a, b, d⟩ := crop_loop B hq m (x + 1) fu (sR q3.2 19 4 (upd (q3.2.1 19 4) (6 * q + w) v.2)) v.1 k (set2 f 5 (6 * q + w) v.2) (by omega) (by omega) (by omega) st.2.2 (g3.sR (by omega)) (CtF.N0 (by rw [sR_ne _ _ _ _ (by omega)]) rfl (F3.N hN)) (DR.gro hq (by omega) (DR.k F3.k hR))
      refine ⟨r, a, (F3.w.tr (CtF.R (by omega))).tr b, ?_⟩
      rw [show (bnd (.inr w) fun w => bnd (eithR P n 99 (nx P n (nx P n t))) fun v => growR P n c N q m v.1 (set2 f 5 (6 * q + w) v.2)) = growR P n c N q m v.1 (set2 f 5 (6 * q + w) v.2) from by unfold bnd; simp only; rw [eo2]]
      exact d
    · rw [if_neg c0] at d1
      simp only
      rw [if_neg c0, if_pos (show (0 : Int32) = 0 from rfl), if_neg c0]
      exact ⟨_, rfl, b1.x.w, rfl, d1, b1.x.N hN, DR.k b1.x.k hR⟩
