/-! ===== calls on both: bestOrder ===== -/
def effK (K : Co) : Bool := decide (0 < K.1 4)
def extL (K : Co) (rec : Ha → Option (List Nat)) (A : Ha) : Nat → Nat → Option (List Nat)
  | 0, _ => none
  | k + 1, p => if (A.1 1).testBit p = true then extL K rec A k (p + 1) else match rec (roundS K (effK K) (showS K p A)) with
    | some l => some (p :: l)
    | none => extL K rec A k (p + 1)
def extS (K : Co) (v : Int32) : Nat → Ha → Option (List Nat)
  | 0, A => if verdS K A = v then some [] else none
  | d + 1, A => extL K (extS K v d) A (K.1 1) 0
def enB (x : Option (List Nat)) : Int32 := match x with
  | none => 0
  | some _ => 1
def okB (K : Co) (A : Ha) : Prop := OKH (K.1 0) A ∧ A.1 1 < 2 ^ K.1 1
set_option maxHeartbeats 300000 in
theorem okB.S1 {K : Co} {A : Ha} (ok : OKC K) (o : okB K A) : A.1 1 < 1024 := Nat.lt_of_lt_of_le o.2 (p2_le (by have := ok.2.1; omega))
set_option maxHeartbeats 300000 in
theorem okB.show {K : Co} {p : Nat} {A : Ha} (ok : OKC K) (hp : p < K.1 1) (o : okB K A) : okB K (showS K p A) := by
  have k1 := ok.2.1
  have hor : A.1 1 ||| 2 ^ p < 2 ^ K.1 1 := or_lt o.2 hp
  have hor2 : A.1 1 ||| 2 ^ p < 1024 := Nat.lt_of_lt_of_le hor (p2_le (by omega))
  refine ⟨⟨o.1.1, o.1.2.1, fun j hj => ?_, showX_in o.1.toL⟩, hor⟩
  show (if j = 1 then A.1 1 ||| 2 ^ p else A.1 j) < _
  by_cases c : j = 1
  · rw [if_pos c]; omega
  · rw [if_neg c]; exact o.1.2.2.1 j hj
set_option maxHeartbeats 300000 in
theorem okB.round {K : Co} {e : Bool} {A : Ha} (o : okB K A) (h : A.1 2 + 1 < 16777216) : okB K (roundS K e A) := by
  refine ⟨roundS_ok o.1 h, ?_⟩
  show updN A.1 2 (A.1 2 + 1) 1 < _
  rw [updN_ne _ _ (by decide)]
  exact o.2
set_option maxHeartbeats 300000 in
theorem show_2 {K : Co} {p : Nat} {A : Ha} : (showS K p A).1 2 = A.1 2 := updN_ne (k := 1) (j := 2) A.1 (A.1 1 ||| 2 ^ p) (by decide)
set_option maxHeartbeats 300000 in
theorem round_2 {K : Co} {e : Bool} {A : Ha} : (roundS K e A).1 2 = A.1 2 + 1 := updN_at A.1 2 (A.1 2 + 1)
def EFr (d : Nat) (M M' : Mem) : Prop := M'.2 = M.2 ∧ (∀ c i, ¬ (c = 40 ∧ i = 0) → ¬ (d + 5 < i ∧ (c = 20 ∨ c = 21 ∨ c = 22)) → M'.1 c i = M.1 c i) ∧ ∀ j, j < d → M'.1 40 0 j = M.1 40 0 j
set_option maxHeartbeats 300000 in
theorem EFr.rf {d : Nat} {M : Mem} : EFr d M M := ⟨rfl, fun _ _ _ _ => rfl, fun _ _ => rfl⟩
set_option maxHeartbeats 300000 in
theorem EFr.tr {d : Nat} {M M1 M2 : Mem} (a : EFr d M M1) (b : EFr d M1 M2) : EFr d M M2 := ⟨b.1.trans a.1, fun c i h1 h2 => (b.2.1 c i h1 h2).trans (a.2.1 c i h1 h2), fun j h => (b.2.2 j h).trans (a.2.2 j h)⟩
set_option maxHeartbeats 300000 in
theorem EFr.up {d : Nat} {M M' : Mem} (f : EFr (d + 1) M M') : EFr d M M' := ⟨f.1, fun c i h1 h2 => f.2.1 c i h1 (fun z => h2 ⟨by omega, z.2⟩), fun j h => f.2.2 j (by omega)⟩
set_option maxHeartbeats 300000 in
theorem HFr.e {d : Nat} {M M' : Mem} (f : HFr (d + 6) M M') : EFr d M M' := ⟨f.1, fun c i _ h => f.2 c i (fun z => h ⟨by omega, z.2⟩), fun j _ => by rw [f.2 40 0 (by omega)]⟩
set_option maxHeartbeats 300000 in
theorem EFr.put {d : Nat} {M : Mem} {v : Int32} : EFr d M (sR M 40 0 (upd (M.1 40 0) d v)) := ⟨rfl, fun c i h _ => sR_ne _ _ _ _ h, fun j h => by rw [sR_at, upd_ne _ _ (by omega)]⟩
set_option maxHeartbeats 300000 in
theorem EFr.C {d : Nat} {M M' : Mem} {K : Co} (f : EFr d M M') (rc : RepC M 0 K) : RepC M' 0 K := RepCR.congr (fun c h1 h2 => f.2.1 c 0 (by omega) (by omega)) rc
set_option maxHeartbeats 300000 in
theorem EFr.H {d : Nat} {M M' : Mem} {A : Ha} (f : EFr d M M') (r : RepH M (d + 5) A) : RepH M' (d + 5) A := by
  unfold RepH at r ⊢
  rw [f.2.1 20 (d + 5) (by omega) (by omega), f.2.1 21 (d + 5) (by omega) (by omega), f.2.1 22 (d + 5) (by omega) (by omega)]
  exact r
set_option maxHeartbeats 300000 in
theorem EFr.q {d : Nat} {M M' : Mem} (f : EFr d M M') : XQ M M' := by
  refine ⟨fun c i _ _ _ h4 => ⟨f.2.1 c i (fun z => h4 (by unfold scrX; omega)) (fun z => h4 (by unfold scrX; omega)), by rw [f.1]⟩, fun j _ => ?_, by rw [f.1], ?_, ?_, ?_⟩
  · rw [f.2.1 0 0 (by omega) (by omega)]
  · rw [f.2.1 30 0 (by omega) (by omega)]
  · rw [f.2.1 36 0 (by omega) (by omega)]
  · rw [f.2.1 36 0 (by omega) (by omega)]
set_option maxHeartbeats 300000 in
theorem ext51_loop {K : Co} {v : Int32} {A : Ha} {d rem L : Nat} {rec : Nat → Int32 → Int32 → Int32 → Mem → Option (Int32 × Mem)} (ok : OKC K) (o : okB K A) (hd : d < 4) (hb : A.1 2 + (rem + 1) < 16777216)
    (hrec : ∀ (B : Ha) (M : Mem), RepC M 0 K → RepH M (d + 1 + 5) B → okB K B → B.1 2 + rem < 16777216 → ∃ M', rec 0 (nI (d + 1)) (nI L) v M = some (enB (extS K v rem B), M') ∧ EFr (d + 1) M M' ∧ ∀ l, extS K v rem B = some l → ∀ i, i < rem → M'.1 40 0 (d + 1 + i) = nI (l.getD i 0)) : ∀ (k p fu : Nat) (M : Mem), p + k = K.1 1 → k < fu → RepC M 0 K → RepH M (d + 5) A →
    ∃ M', f_X0_extend_51 rec 0 (nI d) (nI L) v (d + 5) (d + 1 + 5) fu (nI p) M = some (enB (extL K (extS K v rem) A k p), M') ∧ EFr d M M' ∧ ∀ l, extL K (extS K v rem) A k p = some l → ∀ i, i < rem + 1 → M'.1 40 0 (d + i) = nI (l.getD i 0)
  | k, p, 0, M, _, h, _, _ => by omega
  | 0, p, fu + 1, M, hp, _, rc, r => by
    have k1 := ok.2.1
    refine ⟨M, ?_, EFr.rf, fun l h => by cases h⟩
    rw [f_X0_extend_51, show M.1 9 0 1 = nI (K.1 1) from rc.1 1 (by decide), if_neg (by rw [lt_nI (by omega) (by omega)]; omega)]
    rfl
  | k + 1, p, fu + 1, M, hp, hk, rc, r => by
    have k1 := ok.2.1
    have h1 := o.S1 ok
    have el : extL K (extS K v rem) A (k + 1) p = if (A.1 1).testBit p = true then extL K (extS K v rem) A k (p + 1) else match extS K v rem (roundS K (effK K) (showS K p A)) with
      | some l => some (p :: l)
      | none => extL K (extS K v rem) A k (p + 1) := rfl
    have ih := fun M1 => ext51_loop ok o hd hb hrec k (p + 1) fu M1 (by omega) (by omega)
    rw [f_X0_extend_51, show M.1 9 0 1 = nI (K.1 1) from rc.1 1 (by decide), if_pos (by rw [lt_nI (by omega) (by omega)]; omega), X3_wasShown_sp r (by omega) h1, Option.bind_some, el, show nI p + (1 : Int32) = nI (p + 1) from add_nI p 1]
    cases hbit : (A.1 1).testBit p with
    | true =>
      rw [ifb_t, if_pos rfl]
      exact ih M rc r
    | false =>
      obtain ⟨M1, e1, r1, f1⟩ := X3_copyFrom_sp (h := d + 1 + 5) (i := d + 5) (by omega) r
      obtain ⟨M2, e2, r2, f2⟩ := X3_present_sp ok (RepC.fr f1 rc) r1 o.1 (show p < K.1 1 by omega)
      have o2 := o.show ok (show p < K.1 1 by omega)
      obtain ⟨M3, e3, r3, f3⟩ := X3_talkOn_sp (R := 1) (RepC.fr f2 (RepC.fr f1 rc)) r2 o2.1 ok.2.2.2.2.1 (by decide) (by rw [show_2]; omega)
      have r3 : RepH M3 (d + 1 + 5) (roundS K (effK K) (showS K p A)) := r3
      have o3 : okB K (roundS K (effK K) (showS K p A)) := o2.round (by rw [show_2]; omega)
      have F3 : EFr d M M3 := ((f1.tr f2).tr f3).e
      have F4 : EFr d M (sR M3 40 0 (upd (M3.1 40 0) d (nI p))) := F3.tr EFr.put
      have r4 : RepH (sR M3 40 0 (upd (M3.1 40 0) d (nI p))) (d + 1 + 5) (roundS K (effK K) (showS K p A)) := by
        unfold RepH at r3 ⊢
        rw [sR_ne _ _ _ _ (by omega), sR_ne _ _ _ _ (by omega), sR_ne _ _ _ _ (by omega)]
        exact r3
      obtain ⟨M5, e5, f5, g5⟩ := hrec _ _ (F4.C rc) r4 o3 (by rw [round_2, show_2]; omega)
      have F5 := F4.tr f5.up
      have d5 : M5.1 40 0 d = nI p := by rw [f5.2.2 d (by omega), sR_at, upd_at]
      rw [ifb_f, if_neg (show ¬ (false = true) from by decide), e1, Option.bind_some, e2, Option.bind_some]
      simp only
      rw [show f_X3_talkOn (d + 1 + 5) 0 (1 : Int32) M2 = some M3 from e3, Option.bind_some, inb_nI_t hd (by decide), if_pos rfl, nI_clamp (by omega), show nI d + (1 : Int32) = nI (d + 1) from add_nI d 1, e5, Option.bind_some]
      cases hs : extS K v rem (roundS K (effK K) (showS K p A)) with
      | none =>
        simp only
        rw [show enB none = 0 from rfl, if_pos rfl]
        obtain ⟨M6, a1, a2, a3⟩ := ih M5 (F5.C rc) (F5.H r)
        exact ⟨M6, a1, F5.tr a2, a3⟩
      | some l =>
        simp only
        rw [show enB (some l) = 1 from rfl, if_neg (by decide)]
        refine ⟨M5, rfl, F5, fun l' h i hi => ?_⟩
        cases h
        match i, hi with
        | 0, _ => exact d5
        | i + 1, hi =>
          have := g5 l hs i (by omega)
          rw [show d + (i + 1) = d + 1 + i by omega, this]
          rfl
set_option maxHeartbeats 300000 in
theorem ext_sp {K : Co} {v : Int32} (ok : OKC K) : ∀ (rem fu d : Nat) (A : Ha) (M : Mem), d + rem ≤ 4 → rem < fu → RepC M 0 K → RepH M (d + 5) A → okB K A → A.1 2 + rem < 16777216 →
    ∃ M', f_X0_extend fu 0 (nI d) (nI (d + rem)) v M = some (enB (extS K v rem A), M') ∧ EFr d M M' ∧ ∀ l, extS K v rem A = some l → ∀ i, i < rem → M'.1 40 0 (d + i) = nI (l.getD i 0)
  | rem, 0, d, A, M, _, h, _, _, _, _ => by omega
  | 0, fu + 1, d, A, M, hd, _, rc, r, o, _ => by
    refine ⟨M, ?_, EFr.rf, fun l h i hi => by omega⟩
    rw [f_X0_extend, inb_nI_t (show d < 5 by omega) (by decide), if_pos rfl, if_neg (by rw [lt_nI (by omega) (by omega)]; omega), nI_clamp (by omega), show M.1 8 0 12 = nI (K.1 5) from rc.2.2.1, X3_ruling_sp r o.1 ok.2.2.2.2.2.1, Option.bind_some]
    show (if verdS K A = v then _ else _) = some (enB (if verdS K A = v then some [] else none), M)
    by_cases c : verdS K A = v
    · rw [if_pos c, if_pos c]; rfl
    · rw [if_neg c, if_neg c]; rfl
  | rem + 1, fu + 1, d, A, M, hd, hf, rc, r, o, hb => by
    rw [f_X0_extend, inb_nI_t (show d < 5 by omega) (by decide), if_pos rfl, if_pos (by rw [lt_nI (by omega) (by omega)]; omega), if_pos (by show nI d < nI 4; rw [lt_nI (by omega) (by omega)]; omega), show nI d + (1 : Int32) = nI (d + 1) from add_nI d 1, inb_nI_t (show d + 1 < 5 by omega) (by decide), if_pos rfl, nI_clamp (by omega), nI_clamp (by omega)]
    exact ext51_loop (L := d + (rem + 1)) ok o (by omega) hb (fun B M1 a b c e => by
      have := ext_sp (v := v) ok rem fu (d + 1) B M1 (by omega) (by omega) a b c e
      rw [show d + 1 + rem = d + (rem + 1) by omega] at this
      exact this) (K.1 1) 0 FU M (by omega) (lt_FU (by have := ok.2.1; omega)) rc r
-- the reference
def OFr (d : Nat) (M M' : Mem) : Prop := M'.2 = M.2 ∧ (∀ c i, ¬ ((c = 55 ∨ c = 59 ∨ c = 61) ∧ i = 0) → M'.1 c i = M.1 c i) ∧ (∀ j, ¬ hallIx j → M'.1 55 0 j = M.1 55 0 j) ∧ (∀ j, j < d → M'.1 59 0 j = M.1 59 0 j) ∧ ∀ j, j < 198 * d → M'.1 61 0 j = M.1 61 0 j
set_option maxHeartbeats 300000 in
theorem OFr.rf {d : Nat} {M : Mem} : OFr d M M := ⟨rfl, fun _ _ _ => rfl, fun _ _ => rfl, fun _ _ => rfl, fun _ _ => rfl⟩
set_option maxHeartbeats 300000 in
theorem OFr.tr {d : Nat} {M M1 M2 : Mem} (a : OFr d M M1) (b : OFr d M1 M2) : OFr d M M2 := ⟨b.1.trans a.1, fun c i h => (b.2.1 c i h).trans (a.2.1 c i h), fun j h => (b.2.2.1 j h).trans (a.2.2.1 j h), fun j h => (b.2.2.2.1 j h).trans (a.2.2.2.1 j h), fun j h => (b.2.2.2.2 j h).trans (a.2.2.2.2 j h)⟩
set_option maxHeartbeats 300000 in
theorem OFr.up {d : Nat} {M M' : Mem} (f : OFr (d + 1) M M') : OFr d M M' := ⟨f.1, f.2.1, f.2.2.1, fun j h => f.2.2.2.1 j (by omega), fun j h => f.2.2.2.2 j (by omega)⟩
set_option maxHeartbeats 300000 in
theorem MFr.o {d : Nat} {M M' : Mem} (f : MFr M M') : OFr d M M' := ⟨f.1, fun c i h => f.2.1 c i (fun z => h ⟨Or.inl z.1, z.2⟩), f.2.2, fun j _ => by rw [f.2.1 59 0 (by decide)], fun j _ => by rw [f.2.1 61 0 (by decide)]⟩
set_option maxHeartbeats 300000 in
theorem OFr.put {d : Nat} {M : Mem} {v : Int32} : OFr d M (sR M 59 0 (upd (M.1 59 0) d v)) := ⟨rfl, fun c i h => sR_ne _ _ _ _ (fun z => h ⟨Or.inr (Or.inl z.1), z.2⟩), fun j _ => by rw [sR_ne _ _ _ _ (by decide)], fun j h => by rw [sR_at, upd_ne _ _ (by omega)], fun j _ => by rw [sR_ne _ _ _ _ (by decide)]⟩
set_option maxHeartbeats 300000 in
theorem o122_loop {K : Co} {M0 : Mem} {d : Nat} {rec : Int32 → Int32 → Int32 → Mem → Option (Int32 × Mem)} {k156 : Mem → Option (Int32 × Mem)} {x1 x3 x4 x5 : Int32} (hd : d < 5) : ∀ (k j fu : Nat) (M : Mem), j + k = 198 → k < fu → (∀ i, i < 198 → M.1 61 0 (198 * d + i) = M0.1 55 0 i) → (∀ i, i < j → M.1 55 0 i = M0.1 55 0 i) → (∀ i, 198 ≤ i → M.1 55 0 i = M0.1 55 0 i) →
    ∃ M', f_X11_orders_122 rec k156 x1 (nI d) x3 x4 x5 fu (nI j) M = k156 M' ∧ M'.1 55 0 = M0.1 55 0 ∧ M'.2 = M.2 ∧ ∀ c i, ¬ (c = 55 ∧ i = 0) → M'.1 c i = M.1 c i
  | k, j, 0, M, _, h, _, _, _ => by omega
  | 0, j, fu + 1, M, hj, _, h1, h2, h3 => by
    refine ⟨M, ?_, ?_, rfl, fun _ _ _ => rfl⟩
    · rw [f_X11_orders_122, if_neg (by show ¬ nI j < nI 198; rw [lt_nI (by omega) (by omega)]; omega)]
    · funext i
      by_cases c : i < 198
      · exact h2 i (by omega)
      · exact h3 i (by omega)
  | k + 1, j, fu + 1, M, hj, hk, h1, h2, h3 => by
    obtain ⟨M', e1, e2, e3, e4⟩ := o122_loop (K := K) (M0 := M0) (rec := rec) (k156 := k156) (x1 := x1) (x3 := x3) (x4 := x4) (x5 := x5) hd k (j + 1) fu (sR M 55 0 (upd (M.1 55 0) j (M0.1 55 0 j))) (by omega) (by omega) (fun i hi => by rw [sR_ne _ _ _ _ (by decide)]; exact h1 i hi) (fun i hi => by
      rw [sR_at]
      by_cases c : i = j
      · rw [c, upd_at]
      · rw [upd_ne _ _ c]; exact h2 i (by omega)) (fun i hi => by
      rw [sR_at, upd_ne _ _ (by omega)]; exact h3 i hi)
    refine ⟨M', ?_, e2, e3, fun c i h => (e4 c i h).trans (sR_ne _ _ _ _ h)⟩
    rw [f_X11_orders_122, if_pos (by show nI j < nI 198; rw [lt_nI (by omega) (by omega)]; omega), show (198 : Int32) * nI d + nI j = nI (198 * d + j) from by rw [show (198 : Int32) = nI 198 from rfl, mul_nI, add_nI], inb_nI_t (by omega) (by decide), if_pos rfl, inb_nI_t (by omega) (by decide), if_pos rfl, nI_clamp (by omega), nI_clamp (by omega), h1 j (by omega), show nI j + (1 : Int32) = nI (j + 1) from add_nI j 1]
    exact e1
set_option maxHeartbeats 300000 in
theorem o59_loop {K : Co} {v : Int32} {A : Ha} {M0 : Mem} {d rem L : Nat} {rec : Int32 → Int32 → Int32 → Mem → Option (Int32 × Mem)} (ok : OKC K) (o : okB K A) (hd : d < 4) (hb : A.1 2 + (rem + 1) < 16777216) (rc : RepMC (M0.1 55 0) K) (r : RepMH (M0.1 55 0) K A)
    (hrec : ∀ (B : Ha) (M : Mem), RepMC (M.1 55 0) K → RepMH (M.1 55 0) K B → okB K B → B.1 2 + rem < 16777216 → ∃ M', rec v (nI (d + 1)) (nI L) M = some (enB (extS K v rem B), M') ∧ OFr (d + 1) M M' ∧ M'.1 55 0 = M.1 55 0 ∧ ∀ l, extS K v rem B = some l → ∀ i, i < rem → M'.1 59 0 (d + 1 + i) = nI (l.getD i 0)) : ∀ (k p fu : Nat) (M : Mem), p + k = K.1 1 → k < fu → M.1 55 0 = M0.1 55 0 → (∀ i, i < 198 → M.1 61 0 (198 * d + i) = M0.1 55 0 i) →
    ∃ M', f_X11_orders_59 rec v (nI d) (nI L) fu (nI p) M = some (enB (extL K (extS K v rem) A k p), M') ∧ OFr d M M' ∧ M'.1 55 0 = M0.1 55 0 ∧ ∀ l, extL K (extS K v rem) A k p = some l → ∀ i, i < rem + 1 → M'.1 59 0 (d + i) = nI (l.getD i 0)
  | k, p, 0, M, _, h, _, _ => by omega
  | 0, p, fu + 1, M, hp, _, h0, h1 => by
    have k1 := ok.2.1
    refine ⟨M, ?_, OFr.rf, h0, fun l h => by cases h⟩
    rw [f_X11_orders_59, h0, show M0.1 55 0 1 = nI (K.1 1) from rc.1 1 (by decide), if_neg (by rw [lt_nI (by omega) (by omega)]; omega)]
    rfl
  | k + 1, p, fu + 1, M, hp, hk, h0, h1 => by
    have k1 := ok.2.1
    have hS1 := o.S1 ok
    have el : extL K (extS K v rem) A (k + 1) p = if (A.1 1).testBit p = true then extL K (extS K v rem) A k (p + 1) else match extS K v rem (roundS K (effK K) (showS K p A)) with
      | some l => some (p :: l)
      | none => extL K (extS K v rem) A k (p + 1) := rfl
    have ih := fun M1 => o59_loop ok o hd hb rc r hrec k (p + 1) fu M1 (by omega) (by omega)
    rw [f_X11_orders_59, h0, show M0.1 55 0 1 = nI (K.1 1) from rc.1 1 (by decide), if_pos (by rw [lt_nI (by omega) (by omega)]; omega), show M0.1 55 0 11 = nI (A.1 1) from r.2.1, has_at hS1 (by omega), Option.bind_some, el, show nI p + (1 : Int32) = nI (p + 1) from add_nI p 1]
    cases hbit : (A.1 1).testBit p with
    | true =>
      rw [ifb_t, if_pos rfl]
      exact ih M h0 h1
    | false =>
      have e55 : (sR M 59 0 (upd (M.1 59 0) d (nI p))).1 55 0 = M0.1 55 0 := by rw [sR_ne _ _ _ _ (by decide), h0]
      obtain ⟨M2, e2, r2, f2⟩ := X11_showsOne_sp (M := sR M 59 0 (upd (M.1 59 0) d (nI p))) (A := A) ok (by rw [e55]; exact rc) (by rw [e55]; exact r) o.1 (show p < K.1 1 by omega)
      have rc2 : RepMC (M2.1 55 0) K := RepMC.fr ok f2.2.2 (by rw [e55]; exact rc)
      have o2 := o.show ok (show p < K.1 1 by omega)
      obtain ⟨M3, e3, r3, f3⟩ := X11_talks_sp (b := 1) (by decide) ok rc2 r2 o2.1 (by rw [show_2]; omega)
      have r3 : RepMH (M3.1 55 0) K (roundS K (effK K) (showS K p A)) := r3
      have o3 : okB K (roundS K (effK K) (showS K p A)) := o2.round (by rw [show_2]; omega)
      have rc3 := RepMC.fr ok f3.2.2 rc2
      have F3 : OFr d M M3 := (OFr.put (v := nI p)).tr (f2.tr f3).o
      obtain ⟨M5, e5, f5, g5, l5⟩ := hrec _ M3 rc3 r3 o3 (by rw [round_2, show_2]; omega)
      have F5 := F3.tr f5.up
      have d5 : M5.1 59 0 d = nI p := by rw [f5.2.2.2.1 d (by omega), f3.2.1 59 0 (by decide), f2.2.1 59 0 (by decide), sR_at, upd_at]
      have s5 : ∀ i, i < 198 → M5.1 61 0 (198 * d + i) = M0.1 55 0 i := fun i hi => by
        rw [f5.2.2.2.2 _ (by omega), f3.2.1 61 0 (by decide), f2.2.1 61 0 (by decide), sR_ne _ _ _ _ (by decide)]; exact h1 i hi
      have t5 : ∀ i, 198 ≤ i → M5.1 55 0 i = M0.1 55 0 i := fun i hi => by
        rw [g5, f3.2.2 i (by unfold hallIx; omega), f2.2.2 i (by unfold hallIx; omega), e55]
      rw [ifb_f, if_neg (show ¬ (false = true) from by decide), inb_nI_t hd (by decide), if_pos rfl, nI_clamp (by omega)]
      simp only
      rw [e2, Option.bind_some]
      simp only
      rw [show f_X11_talks (1 : Int32) M2 = some M3 from e3, Option.bind_some, show nI d + (1 : Int32) = nI (d + 1) from add_nI d 1, e5, Option.bind_some]
      obtain ⟨M6, e6, g6, q6, z6⟩ := o122_loop (K := K) (M0 := M0) (d := d) (rec := rec) (k156 := fun M_10 => if enB (extS K v rem (roundS K (effK K) (showS K p A))) = 0 then f_X11_orders_59 rec v (nI d) (nI L) fu (nI (p + 1)) M_10 else some ((1 : Int32), M_10)) (x1 := v) (x3 := nI L) (x4 := nI p) (x5 := enB (extS K v rem (roundS K (effK K) (showS K p A)))) (by omega) 198 0 FU M5 (by omega) (lt_FU (by omega)) s5 (fun i hi => by omega) t5
      have F6 : OFr d M M6 := F5.tr ⟨q6, fun c i h => z6 c i (fun y => h ⟨Or.inl y.1, y.2⟩), fun j hj => by rw [g6, g5, f3.2.2 j hj, f2.2.2 j hj, e55], fun j _ => by rw [z6 59 0 (by decide)], fun j _ => by rw [z6 61 0 (by decide)]⟩
      have go := e6
      have s6 : ∀ i, i < 198 → M6.1 61 0 (198 * d + i) = M0.1 55 0 i := fun i hi => by rw [z6 61 0 (by decide)]; exact s5 i hi
      cases hs : extS K v rem (roundS K (effK K) (showS K p A)) with
      | none =>
        rw [hs] at go
        rw [show enB none = 0 from rfl, if_pos rfl] at go
        obtain ⟨M7, a1, a2, a3, a4⟩ := ih M6 g6 s6
        exact ⟨M7, go.trans a1, F6.tr a2, a3, a4⟩
      | some l =>
        rw [hs] at go
        rw [show enB (some l) = 1 from rfl, if_neg (by decide)] at go
        refine ⟨M6, go, F6, g6, fun l' h i hi => ?_⟩
        cases h
        rw [z6 59 0 (by decide)]
        match i, hi with
        | 0, _ => exact d5
        | i + 1, hi =>
          have := l5 l hs i (by omega)
          rw [show d + (i + 1) = d + 1 + i by omega, this]
          rfl
set_option maxHeartbeats 300000 in
theorem o22_loop {d L : Nat} {v : Int32} {rec : Int32 → Int32 → Int32 → Mem → Option (Int32 × Mem)} (hd : d < 5) : ∀ (k j fu : Nat) (M : Mem), j + k = 198 → k < fu → (∀ i, i < j → M.1 61 0 (198 * d + i) = M.1 55 0 i) →
    ∃ M', f_X11_orders_22 rec v (nI d) (nI L) fu (nI j) M = f_X11_orders_59 rec v (nI d) (nI L) FU (nI 0) M' ∧ (∀ i, i < 198 → M'.1 61 0 (198 * d + i) = M.1 55 0 i) ∧ M'.1 55 0 = M.1 55 0 ∧ OFr d M M'
  | k, j, 0, M, _, h, _ => by omega
  | 0, j, fu + 1, M, hj, _, h1 => by
    refine ⟨M, ?_, fun i hi => h1 i (by omega), rfl, OFr.rf⟩
    rw [f_X11_orders_22, if_neg (by show ¬ nI j < nI 198; rw [lt_nI (by omega) (by omega)]; omega)]
    rfl
  | k + 1, j, fu + 1, M, hj, hk, h1 => by
    have e55 : (sR M 61 0 (upd (M.1 61 0) (198 * d + j) (M.1 55 0 j))).1 55 0 = M.1 55 0 := sR_ne _ _ _ _ (by decide)
    obtain ⟨M', e1, e2, e3, e4⟩ := o22_loop (v := v) (L := L) (rec := rec) hd k (j + 1) fu (sR M 61 0 (upd (M.1 61 0) (198 * d + j) (M.1 55 0 j))) (by omega) (by omega) (fun i hi => by
      rw [sR_at, e55]
      by_cases c : i = j
      · rw [c, upd_at]
      · rw [upd_ne _ _ (by omega)]; exact h1 i (by omega))
    rw [e55] at e2 e3
    refine ⟨M', ?_, e2, e3, OFr.tr (M1 := sR M 61 0 (upd (M.1 61 0) (198 * d + j) (M.1 55 0 j))) ⟨rfl, fun c i h => sR_ne _ _ _ _ (fun z => h ⟨Or.inr (Or.inr z.1), z.2⟩), fun i _ => by rw [e55], fun i _ => by rw [sR_ne _ _ _ _ (by decide)], fun i hi => by rw [sR_at, upd_ne _ _ (by omega)]⟩ e4⟩
    rw [f_X11_orders_22, if_pos (by show nI j < nI 198; rw [lt_nI (by omega) (by omega)]; omega), inb_nI_t (show j < 2375 by omega) (by decide), if_pos rfl, show (198 : Int32) * nI d + nI j = nI (198 * d + j) from by rw [show (198 : Int32) = nI 198 from rfl, mul_nI, add_nI], inb_nI_t (by omega) (by decide), if_pos rfl, nI_clamp (by omega), nI_clamp (by omega), show nI j + (1 : Int32) = nI (j + 1) from add_nI j 1]
    exact e1
set_option maxHeartbeats 300000 in
theorem ord_sp {K : Co} {v : Int32} (ok : OKC K) : ∀ (rem fu d : Nat) (A : Ha) (M : Mem), d + rem ≤ 4 → rem < fu → RepMC (M.1 55 0) K → RepMH (M.1 55 0) K A → okB K A → A.1 2 + rem < 16777216 →
    ∃ M', f_X11_orders fu v (nI d) (nI (d + rem)) M = some (enB (extS K v rem A), M') ∧ OFr d M M' ∧ M'.1 55 0 = M.1 55 0 ∧ ∀ l, extS K v rem A = some l → ∀ i, i < rem → M'.1 59 0 (d + i) = nI (l.getD i 0)
  | rem, 0, d, A, M, _, h, _, _, _, _ => by omega
  | 0, fu + 1, d, A, M, hd, _, rc, r, o, _ => by
    refine ⟨M, ?_, OFr.rf, rfl, fun l h i hi => by omega⟩
    rw [f_X11_orders, if_pos (show nI d = nI (d + 0) from rfl), X11_judged_sp ok rc r o.1, Option.bind_some]
    show (if verdS K A = v then _ else _) = some (enB (if verdS K A = v then some [] else none), M)
    by_cases c : verdS K A = v
    · rw [if_pos c, if_pos c]; rfl
    · rw [if_neg c, if_neg c]; rfl
  | rem + 1, fu + 1, d, A, M, hd, hf, rc, r, o, hb => by
    obtain ⟨M1, e1, s1, g1, f1⟩ := o22_loop (v := v) (L := d + (rem + 1)) (rec := f_X11_orders fu) (show d < 5 by omega) 198 0 FU M (by omega) (lt_FU (by omega)) (fun i hi => by omega)
    obtain ⟨M2, e2, f2, g2, l2⟩ := o59_loop (v := v) (M0 := M) (L := d + (rem + 1)) (rec := f_X11_orders fu) ok o (by omega) hb rc r (fun B M1 a b c e => by
      have := ord_sp (v := v) ok rem fu (d + 1) B M1 (by omega) (by omega) a b c e
      rw [show d + 1 + rem = d + (rem + 1) by omega] at this
      exact this) (K.1 1) 0 FU M1 (by omega) (lt_FU (by have := ok.2.1; omega)) g1 s1
    refine ⟨M2, ?_, f1.tr f2, g2, l2⟩
    rw [f_X11_orders, if_neg (by rw [eq_nI (by omega) (by omega)]; omega)]
    exact e1.trans e2
def bestS (K : Co) (A : Ha) (v : Int32) : Nat → Nat → Option (Nat × List Nat)
  | 0, _ => none
  | k + 1, L => match extS K v L A with
    | some l => some (L, l)
    | none => bestS K A v k (L + 1)
set_option maxHeartbeats 300000 in
theorem cpok4 : ∀ L, L < 5 → cpok (0 : Int32) (0 : Int32) (nI L) 4 4 = true := by decide +kernel
/-- what the class leaves: the order and how long it is -/
def ordX (M : Mem) (f : Nat → Int32) (L : Nat) : Mem := sR (sR M 42 0 f) 36 0 (upd ((sR M 42 0 f).1 36 0) 7 (nI L))
set_option maxHeartbeats 300000 in
theorem fo_loop {K : Co} {A : Ha} {v : Int32} (ok : OKC K) (o : okB K A) (hb : A.1 2 < 10000) : ∀ (k L fu : Nat) (M : Mem), L + k = 5 → k < fu → RepC M 0 K → RepH M 5 A →
    ∃ M', EFr 0 M M' ∧ match bestS K A v k L with
      | none => f_X0_findOrder_13 0 v fu (nI L) M = some (0, M')
      | some q => ∃ f, f_X0_findOrder_13 0 v fu (nI L) M = some (1, ordX M' f q.1) ∧ q.1 ≤ 4 ∧ ∀ i, i < q.1 → f i = nI (q.2.getD i 0)
  | k, L, 0, M, _, h, _, _ => by omega
  | 0, L, fu + 1, M, hL, _, rc, r => by
    refine ⟨M, EFr.rf, ?_⟩
    show f_X0_findOrder_13 0 v (fu + 1) (nI L) M = some (0, M)
    rw [f_X0_findOrder_13, if_pos (by show nI 4 < nI L; rw [lt_nI (by omega) (by omega)]; omega)]
  | k + 1, L, fu + 1, M, hL, hk, rc, r => by
    obtain ⟨M1, e1, f1, l1⟩ := ext_sp (v := v) ok L 40 0 A M (by omega) (by omega) rc r o (by omega)
    rw [Nat.zero_add] at e1
    have es : bestS K A v (k + 1) L = match extS K v L A with
      | some l => some (L, l)
      | none => bestS K A v k (L + 1) := rfl
    have go : f_X0_findOrder_13 0 v (fu + 1) (nI L) M = if enB (extS K v L A) = 0 then f_X0_findOrder_13 0 v fu (nI (L + 1)) M1 else some (1, ordX M1 (va_cpy (M1.1 40 0) (M1.1 42 0) 0 0 L) L) := by
      rw [f_X0_findOrder_13, if_neg (by show ¬ nI 4 < nI L; rw [lt_nI (by omega) (by omega)]; omega), show f_X0_extend 40 0 (0 : Int32) (nI L) v M = _ from e1, Option.bind_some, show nI L + (1 : Int32) = nI (L + 1) from add_nI L 1, if_pos (cpok4 L (by omega)), nI_clamp (by omega)]
      rfl
    rw [es, go]
    cases hs : extS K v L A with
    | none =>
      obtain ⟨M2, f2, g2⟩ := fo_loop (v := v) ok o hb k (L + 1) fu M1 (by omega) (by omega) (f1.C rc) (f1.H r)
      refine ⟨M2, f1.tr f2, ?_⟩
      rw [show enB none = 0 from rfl, if_pos rfl]
      exact g2
    | some l =>
      refine ⟨M1, f1, va_cpy (M1.1 40 0) (M1.1 42 0) 0 0 L, ?_, by show L ≤ 4; omega, fun i hi => ?_⟩
      · rw [show enB (some l) = 1 from rfl, if_neg (by decide)]
      · have hi : i < L := hi
        have := l1 l hs i hi
        unfold va_cpy
        rw [if_pos (by omega)]
        simp only [Nat.zero_add, Nat.sub_zero] at this ⊢
        exact this
set_option maxHeartbeats 300000 in
theorem b51_loop {L : Nat} (hL : L ≤ 4) : ∀ (k j fu : Nat) (M : Mem), j + k = L → k < fu → (∀ i, i < j → M.1 60 0 i = M.1 59 0 i) →
    ∃ M', f_X11_bestOrder_51 (nI L) fu (nI j) M = some (nI L, M') ∧ (∀ i, i < L → M'.1 60 0 i = M.1 59 0 i) ∧ M'.2 = M.2 ∧ ∀ c i, ¬ (c = 60 ∧ i = 0) → M'.1 c i = M.1 c i
  | k, j, 0, M, _, h, _ => by omega
  | 0, j, fu + 1, M, hj, _, h1 => by
    refine ⟨M, ?_, fun i hi => h1 i (by omega), rfl, fun _ _ _ => rfl⟩
    rw [f_X11_bestOrder_51, if_neg (by rw [lt_nI (by omega) (by omega)]; omega)]
  | k + 1, j, fu + 1, M, hj, hk, h1 => by
    have e59 : (sR M 60 0 (upd (M.1 60 0) j (M.1 59 0 j))).1 59 0 = M.1 59 0 := sR_ne _ _ _ _ (by decide)
    obtain ⟨M', e1, e2, e3, e4⟩ := b51_loop hL k (j + 1) fu (sR M 60 0 (upd (M.1 60 0) j (M.1 59 0 j))) (by omega) (by omega) (fun i hi => by
      rw [sR_at, e59]
      by_cases c : i = j
      · rw [c, upd_at]
      · rw [upd_ne _ _ c]; exact h1 i (by omega))
    rw [e59] at e2
    refine ⟨M', ?_, e2, e3, fun c i h => (e4 c i h).trans (sR_ne _ _ _ _ h)⟩
    rw [f_X11_bestOrder_51, if_pos (by rw [lt_nI (by omega) (by omega)]; omega), inb_nI_t (show j < 4 by omega) (by decide), if_pos rfl, if_pos rfl, nI_clamp (by omega), show nI j + (1 : Int32) = nI (j + 1) from add_nI j 1]
    exact e1
set_option maxHeartbeats 300000 in
theorem b26_loop {K : Co} {A : Ha} {v : Int32} (ok : OKC K) (o : okB K A) (hb : A.1 2 < 10000) : ∀ (k L fu : Nat) (M : Mem), L + k = 5 → k < fu → RepMC (M.1 55 0) K → RepMH (M.1 55 0) K A →
    match bestS K A v k L with
      | none => ∃ M', f_X11_bestOrder_26 v fu (nI L) M = some (-1, smM M' 8) ∧ OFr 0 M M' ∧ M'.1 55 0 = M.1 55 0
      | some q => ∃ M' M'', f_X11_bestOrder_26 v fu (nI L) M = some (nI q.1, M'') ∧ OFr 0 M M' ∧ M'.1 55 0 = M.1 55 0 ∧ q.1 ≤ 4 ∧ M''.2 = M'.2 ∧ (∀ c i, ¬ ((c = 50 ∨ c = 60) ∧ i = 0) → M''.1 c i = M'.1 c i) ∧ M''.1 50 0 = upd (M'.1 50 0) 30 (nI q.1) ∧ ∀ i, i < q.1 → M''.1 60 0 i = nI (q.2.getD i 0)
  | k, L, 0, M, _, h, _, _ => by omega
  | 0, L, fu + 1, M, hL, _, rc, r => by
    refine ⟨M, ?_, OFr.rf, rfl⟩
    rw [f_X11_bestOrder_26, if_neg (by show ¬ nI L < nI 5; rw [lt_nI (by omega) (by omega)]; omega)]
    rfl
  | k + 1, L, fu + 1, M, hL, hk, rc, r => by
    obtain ⟨M1, e1, f1, g1, l1⟩ := ord_sp (v := v) ok L 40 0 A M (by omega) (by omega) rc r o (by omega)
    rw [Nat.zero_add] at e1
    have es : bestS K A v (k + 1) L = match extS K v L A with
      | some l => some (L, l)
      | none => bestS K A v k (L + 1) := rfl
    have go : f_X11_bestOrder_26 v (fu + 1) (nI L) M = if enB (extS K v L A) = 0 then f_X11_bestOrder_26 v fu (nI (L + 1)) M1 else f_X11_bestOrder_51 (nI L) FU (0 : Int32) (sR M1 50 0 (upd (M1.1 50 0) 30 (nI L))) := by
      rw [f_X11_bestOrder_26, if_pos (by show nI L < nI 5; rw [lt_nI (by omega) (by omega)]; omega), show f_X11_orders 40 v (0 : Int32) (nI L) M = _ from e1, Option.bind_some, show nI L + (1 : Int32) = nI (L + 1) from add_nI L 1]
    rw [es, go]
    cases hs : extS K v L A with
    | none =>
      have ih := b26_loop (v := v) ok o hb k (L + 1) fu M1 (by omega) (by omega) (by rw [g1]; exact rc) (by rw [g1]; exact r)
      rw [show enB none = 0 from rfl, if_pos rfl]
      simp only
      cases hq : bestS K A v k (L + 1) with
      | none =>
        rw [hq] at ih
        obtain ⟨M', a1, a2, a3⟩ := ih
        exact ⟨M', a1, f1.tr a2, a3.trans g1⟩
      | some q =>
        rw [hq] at ih
        obtain ⟨M', M'', a1, a2, a3, a4⟩ := ih
        exact ⟨M', M'', a1, f1.tr a2, a3.trans g1, a4⟩
    | some l =>
      rw [show enB (some l) = 1 from rfl, if_neg (by decide)]
      simp only
      obtain ⟨M2, a1, a2, a3, a4⟩ := b51_loop (L := L) (by omega) L 0 FU (sR M1 50 0 (upd (M1.1 50 0) 30 (nI L))) (by omega) (lt_FU (by omega)) (fun i hi => by omega)
      refine ⟨M1, M2, a1, f1, g1, by omega, a3, fun c i h => ?_, ?_, fun i hi => ?_⟩
      · rw [a4 c i (fun z => h ⟨Or.inr z.1, z.2⟩), sR_ne _ _ _ _ (fun z => h ⟨Or.inl z.1, z.2⟩)]
      · rw [a4 50 0 (by decide), sR_at]
      · rw [a2 i hi, sR_ne _ _ _ _ (by decide)]
        have := l1 l hs i hi
        rw [Nat.zero_add] at this
        exact this
set_option maxHeartbeats 300000 in
theorem RX.or {s : Sy} {M : Mem} {f : Nat → Int32} {L : Nat} {g : Nat → Int32} (hg : ∀ k, k < L → f k = g k) (h : RX s M) : RX (setOr s (true, L, g)) (ordX M f L) ∧ onX M (ordX M f L) := by
  have e : ∀ c i, ¬ (c = 42 ∧ i = 0) → ¬ (c = 36 ∧ i = 0) → (ordX M f L).1 c i = M.1 c i := by
    intro c i a b
    unfold ordX
    rw [sR_ne _ _ _ _ b, sR_ne _ _ _ _ a]
  have e42 : (ordX M f L).1 42 0 = f := by
    unfold ordX
    rw [sR_ne _ _ _ _ (by decide), sR_at]
  have e36 : (ordX M f L).1 36 0 = upd (M.1 36 0) 7 (nI L) := by
    unfold ordX
    rw [sR_at, sR_ne _ _ _ _ (by decide)]
  obtain ⟨⟨a1, a2, a3, a4⟩, ⟨b1, b2⟩, ⟨t1, t2⟩, tr, w, ⟨m1, m2⟩, ⟨o1, o2⟩, ⟨l1, l2⟩, rs⟩ := h
  have e0 := e 0 0 (by decide) (by decide)
  refine ⟨⟨⟨by rw [e0]; exact a1, by rw [e0]; exact a2, by rw [e0]; exact a3, by rw [e36, upd_ne _ _ (by decide)]; exact a4⟩, ⟨b1, b2⟩, ⟨by rw [e 30 0 (by decide) (by decide)]; exact t1, fun j hj => by rw [e 31 0 (by decide) (by decide)]; exact t2 j hj⟩,
    fun t ht => ⟨by rw [e 5 0 (by decide) (by decide)]; exact (tr t ht).1, by rw [e 6 0 (by decide) (by decide)]; exact (tr t ht).2.1, (tr t ht).2.2⟩, XW.eq (M := M) (fun c h1 h2 => ⟨e c 0 (by omega) (by omega), rfl⟩) w, ⟨by rw [e0]; exact m1, fun k h1 h2 => XW.eq (M := M) (fun c h1 h2 => ⟨e c k (by omega) (by omega), rfl⟩) (m2 k h1 h2)⟩, ⟨by rw [e36, upd_at]; rfl, fun k hk => by rw [e42]; exact hg k hk⟩, ⟨by rw [e0]; exact l1, fun hl j hj => by rw [e 44 0 (by decide) (by decide)]; exact l2 hl j hj⟩, rs⟩, fun c i z => ⟨e c i (by omega) (by omega), rfl⟩⟩
set_option maxHeartbeats 300000 in
theorem RM.or {s : Sy} {M M'' : Mem} {L : Nat} {g : Nat → Int32} (q2 : M''.2 = M.2) (q1 : ∀ c i, ¬ ((c = 50 ∨ c = 60) ∧ i = 0) → M''.1 c i = M.1 c i) (q50 : M''.1 50 0 = upd (M.1 50 0) 30 (nI L)) (hg : ∀ k, k < L → M''.1 60 0 k = g k) (h : RM s M) : RM (setOr s (true, L, g)) M'' ∧ onM M M'' := by
  have e : ∀ c, ¬ (c = 50 ∨ c = 60) → M''.1 c 0 = M.1 c 0 := fun c hc => q1 c 0 (fun z => hc z.1)
  obtain ⟨⟨a1, a2, a3, a4⟩, ⟨b1, b2⟩, ⟨t1, t2⟩, tr, w, ⟨m1, m2⟩, ⟨o1, o2⟩, ⟨l1, l2⟩⟩ := h
  refine ⟨⟨⟨by rw [q50, upd_ne _ _ (by decide)]; exact a1, by rw [q50, upd_ne _ _ (by decide)]; exact a2, by rw [q50, upd_ne _ _ (by decide)]; exact a3, by rw [q50, upd_ne _ _ (by decide)]; exact a4⟩, ⟨by rw [q2]; exact b1, by rw [q2]; exact b2⟩, ⟨by rw [q50, upd_ne _ _ (by decide)]; exact t1, fun j hj => by rw [e 54 (by decide)]; exact t2 j hj⟩,
    fun t ht => ⟨by rw [e 52 (by decide)]; exact (tr t ht).1, by rw [e 51 (by decide)]; exact (tr t ht).2.1, fun j hj => by rw [q2]; exact (tr t ht).2.2 j hj⟩, by rw [e 55 (by decide), q2]; exact w, ⟨by rw [q50, upd_ne _ _ (by decide)]; exact m1, fun k h1 h2 => by rw [e 55 (by decide), q2]; exact m2 k h1 h2⟩, ⟨by rw [q50, upd_at]; rfl, fun k hk => hg k hk⟩, ⟨by rw [q50, upd_ne _ _ (by decide)]; exact l1, fun hl j hj => by rw [e 63 (by decide)]; exact l2 hl j hj⟩⟩, fun c i z => ⟨q1 c i (by omega), by rw [q2]⟩⟩
set_option maxHeartbeats 300000 in
theorem OFr.q {M M' : Mem} (f : OFr 0 M M') (h : M'.1 55 0 = M.1 55 0) : MQm M M' :=
  ⟨fun c i hc => ⟨f.2.1 c i (by omega), by rw [f.1]⟩, fun j _ => by rw [f.2.1 50 0 (by decide)], ⟨by rw [f.1], by rw [f.1]⟩, fun j _ => by rw [h], fun j _ => by rw [f.1]⟩
set_option maxHeartbeats 300000 in
theorem ext_small {K : Co} {v : Int32} (ok : OKC K) : ∀ (rem : Nat) (A : Ha) (l : List Nat), extS K v rem A = some l → ∀ i, l.getD i 0 < 7
  | 0, A, l, h => by
    have h : (if verdS K A = v then some [] else none) = some l := h
    by_cases c : verdS K A = v
    · rw [if_pos c] at h; cases h; intro i; simp
    · rw [if_neg c] at h; cases h
  | rem + 1, A, l, h => by
    have h : extL K (extS K v rem) A (K.1 1) 0 = some l := h
    have k1 := ok.2.1
    have key : ∀ (k p : Nat), p + k = K.1 1 → ∀ l, extL K (extS K v rem) A k p = some l → ∀ i, l.getD i 0 < 7 := by
      intro k
      induction k with
      | zero => intro p hp l h; cases h
      | succ k ih =>
        intro p hp l h
        have h : (if (A.1 1).testBit p = true then extL K (extS K v rem) A k (p + 1) else match extS K v rem (roundS K (effK K) (showS K p A)) with
          | some l => some (p :: l)
          | none => extL K (extS K v rem) A k (p + 1)) = some l := h
        by_cases c : (A.1 1).testBit p = true
        · rw [if_pos c] at h; exact ih (p + 1) (by omega) l h
        · rw [if_neg c] at h
          cases hs : extS K v rem (roundS K (effK K) (showS K p A)) with
          | none => rw [hs] at h; exact ih (p + 1) (by omega) l h
          | some l' =>
            rw [hs] at h
            cases h
            intro i
            cases i with
            | zero => show p < 7; omega
            | succ i => exact ext_small ok rem _ l' hs i
    exact key (K.1 1) 0 (by omega) l h
set_option maxHeartbeats 300000 in
theorem best_small {K : Co} {A : Ha} {v : Int32} (ok : OKC K) : ∀ (k L : Nat) (q : Nat × List Nat), bestS K A v k L = some q → ∀ i, q.2.getD i 0 < 7
  | 0, _, _, h => by cases h
  | k + 1, L, q, h => by
    have h : (match extS K v L A with
      | some l => some (L, l)
      | none => bestS K A v k (L + 1)) = some q := h
    cases hs : extS K v L A with
    | none => rw [hs] at h; exact best_small ok k (L + 1) q h
    | some l => rw [hs] at h; cases h; exact ext_small ok L A l hs
set_option maxHeartbeats 300000 in
theorem step_bestOrder {s : Sy} (o : OKS s) (x : Int32) : Step s (f_X10_bestOrder x) (f_X11_bestOrder x) := by
  have b := hall_bounds o
  by_cases cv : -1 ≤ x.toInt ∧ x.toInt ≤ 1
  · have ob : okB (sWo s).1 (sWo s).2.1 := ⟨o.H, o.2.2.1.2.2.2.1⟩
    have hX : ∀ M, RX s M → ∃ M1 M', f_X3_copyFrom (0 + 5) 0 M = some M1 ∧ XQ M M' ∧ M'.1 0 0 = M.1 0 0 ∧ match bestS (sWo s).1 (sWo s).2.1 x 5 0 with
      | none => f_X0_findOrder_13 0 x FU (nI 0) M1 = some (0, M')
      | some q => ∃ f, f_X0_findOrder_13 0 x FU (nI 0) M1 = some (1, ordX M' f q.1) ∧ q.1 ≤ 4 ∧ ∀ i, i < q.1 → f i = nI (q.2.getD i 0) := by
      intro M h
      obtain ⟨M1, e1, r1, f1⟩ := X3_copyFrom_sp (h := 5) (i := 0) (by decide) h.H
      obtain ⟨M2, f2, g2⟩ := fo_loop (v := x) o.C ob (by omega) 5 0 FU M1 (by omega) (lt_FU (by omega)) (RepC.fr f1 h.C) r1
      exact ⟨M1, M2, e1, (XQ.hall (by decide) f1).tr f2.q, by rw [f2.2.1 0 0 (by decide) (by decide), f1.2 0 0 (by decide)], g2⟩
    have hM : ∀ M, RM s M → _ := fun M h => b26_loop (v := x) (M := mR M) o.C ob (by omega) 5 0 FU (by omega) (lt_FU (by omega)) (h.r o).C (h.r o).H
    have X : ∀ M, f_X10_bestOrder x M = (f_X0_findOrder 0 0 x M).bind fun q2 => if q2.1 = 0 then some (-1, stM q2.2 8) else some (q2.2.1 36 0 7, stM q2.2 0) := by
      intro M
      unfold f_X10_bestOrder
      rw [noVerd_e, if_pos cv, Option.bind_some, if_pos rfl]
      rfl
    have Y : ∀ M, f_X11_bestOrder x M = f_X11_bestOrder_26 x FU (nI 0) (mR M) := by
      intro M
      unfold f_X11_bestOrder f_X11_isVerdict
      simp only [mR_e]
      rw [isIn_t (b := -1) (c := 1) cv, Option.bind_some, if_pos oB, Option.bind_some, if_neg (by decide)]
      rfl
    have hsm : ∀ q, bestS (sWo s).1 (sWo s).2.1 x 5 0 = some q → ∀ i, q.2.getD i 0 < 7 := best_small o.C 5 0
    generalize bestS (sWo s).1 (sWo s).2.1 x 5 0 = w at *
    cases w with
    | none =>
      refine step_of (-1) (setSc s 0 8) o (fun M h => ?_) (fun M h => ?_)
      · obtain ⟨M1, M', e1, q1, -, e2⟩ := hX M h
        refine ⟨stM M' 8, ?_, h.st o 8 q1⟩
        have e2 : f_X0_findOrder_13 0 x FU (nI 0) M1 = some (0, M') := e2
        rw [X M]
        unfold f_X0_findOrder
        rw [e1, Option.bind_some, show f_X0_findOrder_13 0 x FU (0 : Int32) M1 = _ from e2]
        rfl
      · obtain ⟨M', e1, f1, g1⟩ := hM M h
        refine ⟨smM M' 8, ?_, h.st o 8 ((mR_Q M).tr (f1.q g1))⟩
        rw [Y M]; exact e1
    | some q =>
      by_cases h4 : q.1 ≤ 4
      · refine step_of (nI q.1) (setSc (setOr s (true, q.1, fun i => nI (q.2.getD i 0))) 0 0) ?_ (fun M h => ?_) (fun M h => ?_)
        · exact ⟨o.1, o.2.1, o.2.2.1, o.2.2.2.1, ⟨h4, fun z => by cases z⟩, o.2.2.2.2.2.1, o.2.2.2.2.2.2.1, fun k _ => ⟨q.2.getD k 0, by have := hsm q rfl k; omega, rfl⟩, o.2.2.2.2.2.2.2.2⟩
        · obtain ⟨M1, M', e1, q1, z1, e2⟩ := hX M h
          obtain ⟨f, e2, -, g2⟩ := e2
          have h1 : RX s M' := h.q0 o q1 (by rw [z1])
          have h2 := h1.or g2
          have o2 : OKS (setOr s (true, q.1, fun i => nI (q.2.getD i 0))) := ⟨o.1, o.2.1, o.2.2.1, o.2.2.2.1, ⟨h4, fun z => by cases z⟩, o.2.2.2.2.2.1, o.2.2.2.2.2.2.1, fun k _ => ⟨q.2.getD k 0, by have := hsm q rfl k; omega, rfl⟩, o.2.2.2.2.2.2.2.2⟩
          have h3 := h2.1.st o2 0 XQ.rf
          refine ⟨stM (ordX M' f q.1) 0, ?_, h3.1, q1.on.tr (h2.2.tr h3.2)⟩
          rw [X M]
          unfold f_X0_findOrder
          rw [e1, Option.bind_some, show f_X0_findOrder_13 0 x FU (0 : Int32) M1 = _ from e2, Option.bind_some, if_neg (show ¬ (1 : Int32) = 0 from by decide)]
          simp only
          rw [show (ordX M' f q.1).1 36 0 7 = nI q.1 from h2.1.2.2.2.2.2.2.1.1]
        · obtain ⟨M', M'', e1, f1, g1, -, q2, q3, q4, q5⟩ := hM M h
          have h1 : RM (setSc s 0 0) M' := (h.r o).q0 (o.sc 0) (f1.q g1) (by rw [f1.2.1 50 0 (by decide)])
          have h2 := h1.or q2 q3 q4 (g := fun i => nI (q.2.getD i 0)) q5
          refine ⟨M'', by rw [Y M]; exact e1, h2.1, (mR_Q M).on.tr ((f1.q g1).on.tr h2.2)⟩
      · intro M h1 h2
        obtain ⟨M1, M', _, _, _, e2⟩ := hX M h1
        obtain ⟨f, _, t, _⟩ := e2
        exact absurd t h4
  · refine step_no o 5 (fun M h => ?_) (fun M h => ?_)
    · unfold f_X10_bestOrder
      rw [noVerd_e, if_neg cv]
      rfl
    · unfold f_X11_bestOrder f_X11_isVerdict
      simp only [mR_e]
      rw [isIn_f (b := -1) (c := 1) cv]
      rfl
