/-! ===== the run of weeks: in words of its own; the reference's ===== -/
/-- a hall, counters (0 draws, 1 missed, 2 days, 3 guilty, 4 hung), how many steps, 0 going on, 1 stopped, 2 ended by the most steps -/
abbrev Lf : Type := Ha × (Nat → Int32) × Nat × Nat
def kN (w : Wk) (s : Nat) : Nat := (w.2 0 s).toNatClampNeg
def cmpB (g : Int32) (v r : Int32) : Bool := if g = 60 then decide (v < r) else if g = 62 then decide (r < v) else decide (v = r)
def isSoB (K : Co) (w : Wk) (s : Nat) (A : Ha) : Bool := if w.2 2 s = 1 then decide (nI (A.1 4) = w.2 0 s) else cmpB (w.2 3 s) (if w.2 2 s = 0 then nI (votesS (K.1 0) (A.1 0) A.2.1) else A.2.2 (kN w s)) (w.2 1 s)
def loopS (rec : Nat → Nat → Lf → Lf) (a b : Nat) : Nat → Lf → Lf
  | 0, L => L
  | n + 1, L => if L.2.2.2 = 0 then loopS rec a b n (rec a b L) else L
def oneS (K : Co) (w : Wk) (rec : Nat → Nat → Lf → Lf) (s : Nat) (L : Lf) : Lf :=
  if L.2.2.1 = 300 then (L.1, L.2.1, 300, 2)
  else if w.1 (10 + s) < 7 then ((doR K (w.1 (10 + s)) (kN w s) (w.2 1 s) L.1 L.2.1).2.1, upd (doR K (w.1 (10 + s)) (kN w s) (w.2 1 s) L.1 L.2.1).2.2 1 (L.2.1 1 + (if (doR K (w.1 (10 + s)) (kN w s) (w.2 1 s) L.1 L.2.1).1 = true then 0 else 1)), L.2.2.1 + 1, 0)
  else if w.1 (10 + s) = 7 then (if isSoB K w s L.1 = true then rec (s + 1) (w.1 (100 + s)) (L.1, L.2.1, L.2.2.1 + 1, 0) else (L.1, L.2.1, L.2.2.1 + 1, 0))
  else if w.1 (10 + s) = 8 then loopS rec (s + 1) (w.1 (100 + s)) (kN w s) (L.1, L.2.1, L.2.2.1 + 1, 0)
  else (L.1, L.2.1, L.2.2.1 + 1, 1)
def allS (K : Co) (w : Wk) (rec : Nat → Nat → Lf → Lf) (b : Nat) : Nat → Nat → Lf → Lf
  | 0, _, L => L
  | k + 1, s, L => if s < b ∧ L.2.2.2 = 0 then allS K w rec b k (w.1 (100 + s)) (oneS K w rec s L) else L
def runS (K : Co) (w : Wk) : Nat → Nat → Nat → Lf → Lf
  | 0, _, _, L => L
  | d + 1, a, b, L => allS K w (runS K w d) b (b - a) a L
def LOK (K : Co) (L : Lf) : Prop := okL K L.1 ∧ L.2.2.1 ≤ 300
set_option maxHeartbeats 400000 in
theorem kN_of {w : Wk} {s p : Nat} (hp : p < 2 ^ 31) (h : w.2 0 s = nI p) : kN w s = p := by
  unfold kN
  rw [h, nI_clamp hp]
set_option maxHeartbeats 400000 in
theorem arg_of {K : Co} {w : Wk} {s : Nat} (ok : OKC K) (okw : OKK K w) (hs : s < w.1 1) (hq : w.1 (10 + s) < 7) : argOK K (w.1 (10 + s)) (kN w s) (w.2 1 s) ∧ (¬ w.1 (10 + s) = 2 → ¬ w.1 (10 + s) = 6 → w.2 0 s = nI (kN w s)) := by
  have k1 := ok.2.1
  have hJ := ok.J
  have g := okw.2.2.2 s hs
  have g0 := g.2.2.2.2.2.2.2.1
  have g1 := g.2.2.2.2.2.2.2.2.1
  have g3 := g.2.2.2.2.2.2.2.2.2.1
  have g5 := g.2.2.2.2.2.2.2.2.2.2.1
  refine ⟨⟨fun h => ?_, fun h => ?_, fun h => ?_, g5⟩, fun n2 n6 => ?_⟩
  · obtain ⟨p, hp, e⟩ := g0 h
    rw [kN_of (by omega) e]; exact hp
  · obtain ⟨p, p1, p2, e⟩ := g1 (Or.inl h)
    rw [kN_of (by omega) e]; exact p2
  · obtain ⟨p, hp, e⟩ := g3 h
    rw [kN_of (by omega) e]; exact hp
  · rcases (show w.1 (10 + s) = 0 ∨ w.1 (10 + s) = 1 ∨ (w.1 (10 + s) = 3 ∨ w.1 (10 + s) = 4 ∨ w.1 (10 + s) = 5) by omega) with h | h | h
    · obtain ⟨p, hp, e⟩ := g0 h
      rw [kN_of (by omega) e]; exact e
    · obtain ⟨p, p1, p2, e⟩ := g1 (Or.inl h)
      rw [kN_of (by omega) e]; exact e
    · obtain ⟨p, hp, e⟩ := g3 h
      rw [kN_of (by omega) e]; exact e
def LfM (M : Mem) (K : Co) (w : Wk) (L : Lf) : Prop := RepMC (M.1 55 0) K ∧ WkM (M.1 55 0) w ∧ RepMH (M.1 55 0) K L.1 ∧ CtM M L.2.1 ∧ M.1 50 0 40 = nI L.2.2.1 ∧ M.1 50 0 38 = (if L.2.2.2 = 0 then 0 else 1) ∧ M.1 50 0 45 = (if L.2.2.2 = 2 then 1 else 0)
def GFr (M M' : Mem) : Prop := M'.2 = M.2 ∧ (∀ c i, ¬ ((c = 50 ∨ c = 55) ∧ i = 0) → M'.1 c i = M.1 c i) ∧ (∀ j, ¬ hallIx j → M'.1 55 0 j = M.1 55 0 j) ∧ ∀ j, ¬ (38 ≤ j ∧ j ≤ 45) → M'.1 50 0 j = M.1 50 0 j
set_option maxHeartbeats 400000 in
theorem GFr.rf {M : Mem} : GFr M M := ⟨rfl, fun _ _ _ => rfl, fun _ _ => rfl, fun _ _ => rfl⟩
set_option maxHeartbeats 400000 in
theorem GFr.tr {M M1 M2 : Mem} (a : GFr M M1) (b : GFr M1 M2) : GFr M M2 := ⟨b.1.trans a.1, fun c i h => (b.2.1 c i h).trans (a.2.1 c i h), fun j h => (b.2.2.1 j h).trans (a.2.2.1 j h), fun j h => (b.2.2.2 j h).trans (a.2.2.2 j h)⟩
set_option maxHeartbeats 400000 in
theorem NFr.g {M M' : Mem} (f : NFr M M') : GFr M M' := ⟨f.1, f.2.1, f.2.2.1, fun j h => f.2.2.2 j (by omega)⟩
set_option maxHeartbeats 400000 in
theorem GFr.put {M : Mem} {p : Nat} {v : Int32} (hp : 38 ≤ p ∧ p ≤ 45) : GFr M (sR M 50 0 (upd (M.1 50 0) p v)) := ⟨rfl, fun c i h => sR_ne _ _ _ _ (fun z => h ⟨Or.inl z.1, z.2⟩), fun j _ => by rw [sR_ne _ _ _ _ (by decide)], fun j hj => by rw [sR_at, upd_ne _ _ (fun z => hj (by rw [z]; exact hp))]⟩
set_option maxHeartbeats 400000 in
theorem put55 {M : Mem} {p : Nat} {v : Int32} : (sR M 50 0 (upd (M.1 50 0) p v)).1 55 0 = M.1 55 0 := sR_ne _ _ _ _ (by decide)
set_option maxHeartbeats 400000 in
theorem putCt {M : Mem} {p : Nat} {v : Int32} {c : Nat → Int32} (hp : p = 38 ∨ p = 40 ∨ p = 45) (k : CtM M c) : CtM (sR M 50 0 (upd (M.1 50 0) p v)) c := by
  unfold CtM
  rw [sR_at, upd_ne _ _ (by omega), upd_ne _ _ (by omega), upd_ne _ _ (by omega), upd_ne _ _ (by omega), upd_ne _ _ (by omega)]
  exact k
set_option maxHeartbeats 400000 in
theorem isSo_sp {M : Mem} {K : Co} {w : Wk} {s : Nat} {A : Ha} (ok : OKC K) (okw : OKK K w) (hs : s < w.1 1) (hq : w.1 (10 + s) = 7) (o : okL K A) (rc : RepMC (M.1 55 0) K) (wm : WkM (M.1 55 0) w) (rh : RepMH (M.1 55 0) K A) : f_X11_isSo (nI (200 + 9 * s)) M = some (nB (isSoB K w s A)) := by
  have hN := okw.2.1
  have hJ := ok.J
  have k3 := ok.2.2.2.1
  have g7 := (okw.2.2.2 s hs).2.2.2.2.2.2.2.2.2.2.2 hq
  obtain ⟨w0, w1, w2, w6, w7, w8⟩ := wm.2.2 s hs
  have e : ∀ j, nI (200 + 9 * s) + nI j = nI (200 + 9 * s + j) := fun j => add_nI _ j
  have e68 : ∀ v, f_X11_isSo_68 (nI (200 + 9 * s)) v M = some (nB (cmpB (w.2 3 s) v (w.2 1 s))) := by
    intro v
    unfold f_X11_isSo_68 cmpB
    rw [show nI (200 + 9 * s) + (7 : Int32) = nI (207 + 9 * s) from (e 7).trans (by congr 1; omega), show nI (200 + 9 * s) + (2 : Int32) = nI (202 + 9 * s) from (e 2).trans (by congr 1; omega), inb_nI_t (show 207 + 9 * s < 2375 by omega) (by decide), if_pos rfl, nI_clamp (by omega), nI_clamp (by omega), w7, w2, inb_nI_t (show 202 + 9 * s < 2375 by omega) (by decide), if_pos rfl, if_pos rfl, if_pos rfl, if_pos rfl]
    by_cases c1 : w.2 3 s = 60
    · rw [if_pos c1, if_pos c1]
      by_cases d : v < w.2 1 s
      · rw [if_pos d, decide_eq_true d]; rfl
      · rw [if_neg d, decide_eq_false d]; rfl
    · rw [if_neg c1, if_neg c1]
      by_cases c2 : w.2 3 s = 62
      · rw [if_pos c2, if_pos c2]
        by_cases d : w.2 1 s < v
        · rw [if_pos d, decide_eq_true d]; rfl
        · rw [if_neg d, decide_eq_false d]; rfl
      · rw [if_neg c2, if_neg c2]
        by_cases d : v = w.2 1 s
        · rw [if_pos d, decide_eq_true d]; rfl
        · rw [if_neg d, decide_eq_false d]; rfl
  unfold f_X11_isSo isSoB
  rw [show nI (200 + 9 * s) + (6 : Int32) = nI (206 + 9 * s) from (e 6).trans (by congr 1; omega), show nI (200 + 9 * s) + (1 : Int32) = nI (201 + 9 * s) from (e 1).trans (by congr 1; omega), inb_nI_t (show 206 + 9 * s < 2375 by omega) (by decide), if_pos rfl, nI_clamp (by omega), nI_clamp (by omega), w6, w1]
  simp only
  by_cases c1 : w.2 2 s = 1
  · obtain ⟨v, hv, ev⟩ := g7.2.1 c1
    have hw : ¬ K.1 2 = 0 := by omega
    have e8 : M.1 55 0 8 = nI (A.1 4) := by
      have q : M.1 55 0 8 = (if K.1 2 = 0 then -1 else nI (A.1 4)) := rh.2.2.2.2.1
      rw [q, if_neg hw]
    rw [if_pos c1, if_pos c1, inb_nI_t (show 201 + 9 * s < 2375 by omega) (by decide), if_pos rfl, e8]
    by_cases d : nI (A.1 4) = w.2 0 s
    · rw [if_pos d, decide_eq_true d]; rfl
    · rw [if_neg d, decide_eq_false d]; rfl
  · rw [if_neg c1, if_neg c1]
    by_cases c0 : w.2 2 s = 0
    · rw [if_pos c0, if_pos c0, X11_votesFor_1 rc rh o.1, Option.bind_some, e68]
    · obtain ⟨q, hq3, eq⟩ := g7.2.2.1 ((g7.1.resolve_left c0).resolve_left c1)
      rw [if_neg c0, if_neg c0, inb_nI_t (show 201 + 9 * s < 2375 by omega) (by decide), if_pos rfl, eq, show (194 : Int32) + nI q = nI (194 + q) from add_nI 194 q, inb_nI_t (show 194 + q < 2375 by omega) (by decide), if_pos rfl, nI_clamp (by omega), rh.2.2.2.2.2.2.2 q hq3, e68, kN_of (by omega) eq]
set_option maxHeartbeats 400000 in
theorem LfM.fr {M M' : Mem} {K : Co} {w : Wk} {L : Lf} (ok : OKC K) (okw : OKK K w) (f : GFr M M') (h : LfM M K w L) : RepMC (M'.1 55 0) K ∧ WkM (M'.1 55 0) w :=
  ⟨RepMC.fr ok f.2.2.1 h.1, h.2.1.eq okw.2.1 (fun j h1 h2 => f.2.2.1 j (by unfold hallIx; omega))⟩
set_option maxHeartbeats 400000 in
theorem l120_loop {K : Co} {w : Wk} {s d : Nat} {rec : Int32 → Int32 → Mem → Option Mem} {recS : Nat → Nat → Lf → Lf} (ok : OKC K) (okw : OKK K w) (hs : s < w.1 1) (hn : kN w s ≤ 99) (e0 : w.2 0 s = nI (kN w s))
    (hrec : ∀ (M : Mem) (L : Lf), LfM M K w L → LOK K L → L.2.2.2 = 0 → ∃ M', rec (nI (s + 1)) (nI (w.1 (100 + s))) M = some M' ∧ LfM M' K w (recS (s + 1) (w.1 (100 + s)) L) ∧ LOK K (recS (s + 1) (w.1 (100 + s)) L) ∧ GFr M M') : ∀ (k j fu : Nat) (M : Mem) (L : Lf), j + k = kN w s → k < fu → LfM M K w L → LOK K L →
    ∃ M', f_X11_doOne_120 rec (nI s) (nI (200 + 9 * s)) fu (nI j) M = some M' ∧ LfM M' K w (loopS recS (s + 1) (w.1 (100 + s)) k L) ∧ LOK K (loopS recS (s + 1) (w.1 (100 + s)) k L) ∧ GFr M M'
  | k, j, 0, M, L, _, h, _, _ => by omega
  | 0, j, fu + 1, M, L, hj, _, h, o => by
    have hN := okw.2.1
    refine ⟨M, ?_, h, o, GFr.rf⟩
    rw [f_X11_doOne_120, show nI (200 + 9 * s) + (1 : Int32) = nI (201 + 9 * s) from (add_nI _ 1).trans (by congr 1; omega), inb_nI_t (show 201 + 9 * s < 2375 by omega) (by decide), if_pos rfl, nI_clamp (by omega), (h.2.1.2.2 s hs).2.1, e0, if_neg (by rw [lt_nI (by omega) (by omega)]; omega)]
  | k + 1, j, fu + 1, M, L, hj, hk, h, o => by
    have hN := okw.2.1
    have es : loopS recS (s + 1) (w.1 (100 + s)) (k + 1) L = if L.2.2.2 = 0 then loopS recS (s + 1) (w.1 (100 + s)) k (recS (s + 1) (w.1 (100 + s)) L) else L := rfl
    rw [f_X11_doOne_120, show nI (200 + 9 * s) + (1 : Int32) = nI (201 + 9 * s) from (add_nI _ 1).trans (by congr 1; omega), show nI (200 + 9 * s) + (8 : Int32) = nI (208 + 9 * s) from (add_nI _ 8).trans (by congr 1; omega), inb_nI_t (show 201 + 9 * s < 2375 by omega) (by decide), if_pos rfl, nI_clamp (by omega), nI_clamp (by omega), (h.2.1.2.2 s hs).2.1, e0, if_pos (by rw [lt_nI (by omega) (by omega)]; omega), h.2.2.2.2.2.1, es]
    by_cases c : L.2.2.2 = 0
    · obtain ⟨M1, e1, h1, o1, f1⟩ := hrec M L h o c
      rw [if_pos c, if_pos rfl, if_pos c, inb_nI_t (show 208 + 9 * s < 2375 by omega) (by decide), if_pos rfl, (h.2.1.2.2 s hs).2.2.2.2.2, show nI s + (1 : Int32) = nI (s + 1) from add_nI s 1, e1, Option.bind_some, show nI j + (1 : Int32) = nI (j + 1) from add_nI j 1]
      obtain ⟨M2, e2, h2, o2, f2⟩ := l120_loop (d := d) ok okw hs hn e0 hrec k (j + 1) fu M1 _ (by omega) (by omega) h1 o1
      exact ⟨M2, e2, h2, o2, f1.tr f2⟩
    · rw [if_neg c, if_neg (by decide), if_neg c]
      exact ⟨M, rfl, h, o, GFr.rf⟩
set_option maxHeartbeats 400000 in
theorem one_m {K : Co} {w : Wk} {s : Nat} {rec : Int32 → Int32 → Mem → Option Mem} {recS : Nat → Nat → Lf → Lf} (ok : OKC K) (okw : OKK K w) (hs : s < w.1 1)
    (hrec : ∀ (M : Mem) (L : Lf), LfM M K w L → LOK K L → L.2.2.2 = 0 → ∃ M', rec (nI (s + 1)) (nI (w.1 (100 + s))) M = some M' ∧ LfM M' K w (recS (s + 1) (w.1 (100 + s)) L) ∧ LOK K (recS (s + 1) (w.1 (100 + s)) L) ∧ GFr M M') {M : Mem} {L : Lf} (h : LfM M K w L) (o : LOK K L) (hov : L.2.2.2 = 0) :
    ∃ M', f_X11_doOne rec (nI s) M = some M' ∧ LfM M' K w (oneS K w recS s L) ∧ LOK K (oneS K w recS s L) ∧ GFr M M' := by
  have hN := okw.2.1
  obtain ⟨A, c, dn, ov⟩ := L
  obtain ⟨rc, wm, rh, ct, h40, h38, h45⟩ := h
  have hov : ov = 0 := hov
  subst hov
  have oA : okL K A := o.1
  have hdn : dn ≤ 300 := o.2
  have ct : CtM M c := ct
  have rh : RepMH (M.1 55 0) K A := rh
  have h40 : M.1 50 0 40 = nI dn := h40
  have h38 : M.1 50 0 38 = 0 := h38
  have h45 : M.1 50 0 45 = 0 := h45
  obtain ⟨w0, w1, w2, w6, w7, w8⟩ := wm.2.2 s hs
  unfold f_X11_doOne
  unfold oneS
  simp only
  rw [h40]
  by_cases cd : dn = 300
  · rw [if_pos (show nI dn = (300 : Int32) from by rw [cd]; rfl), if_pos cd]
    refine ⟨_, rfl, ⟨?_, ?_, ?_, ?_, ?_, ?_, ?_⟩, ⟨oA, Nat.le_refl _⟩, (GFr.put (by omega)).tr (GFr.put (by omega))⟩
    · rw [put55, put55]; exact rc
    · rw [put55, put55]; exact wm
    · rw [put55, put55]; exact rh
    · exact putCt (Or.inr (Or.inr rfl)) (putCt (Or.inl rfl) ct)
    · rw [sR_at, upd_ne _ _ (by decide), sR_at, upd_ne _ _ (by decide), h40, cd]
    · rw [sR_at, upd_ne _ _ (by decide), sR_at, upd_at]; rfl
    · rw [sR_at, upd_at]; rfl
  · rw [if_neg (show ¬ nI dn = (300 : Int32) from by show ¬ nI dn = nI 300; rw [eq_nI (by omega) (by omega)]; exact cd), if_neg cd, show nI dn + (1 : Int32) = nI (dn + 1) from add_nI dn 1, show (200 : Int32) + (9 : Int32) * nI s = nI (200 + 9 * s) from by rw [show (9 : Int32) = nI 9 from rfl, mul_nI, show (200 : Int32) = nI 200 from rfl, add_nI], inb_nI_t (show 200 + 9 * s < 2375 by omega) (by decide), if_pos rfl, nI_clamp (by omega)]
    have F1 : GFr M (sR M 50 0 (upd (M.1 50 0) 40 (nI (dn + 1)))) := GFr.put (by omega)
    have e55 : (sR M 50 0 (upd (M.1 50 0) 40 (nI (dn + 1)))).1 55 0 = M.1 55 0 := put55
    have ct1 : CtM (sR M 50 0 (upd (M.1 50 0) 40 (nI (dn + 1)))) c := putCt (Or.inr (Or.inl rfl)) ct
    have g40 : (sR M 50 0 (upd (M.1 50 0) 40 (nI (dn + 1)))).1 50 0 40 = nI (dn + 1) := by rw [sR_at, upd_at]
    have g38 : (sR M 50 0 (upd (M.1 50 0) 40 (nI (dn + 1)))).1 50 0 38 = 0 := by rw [sR_at, upd_ne _ _ (by decide)]; exact h38
    have g45 : (sR M 50 0 (upd (M.1 50 0) 40 (nI (dn + 1)))).1 50 0 45 = 0 := by rw [sR_at, upd_ne _ _ (by decide)]; exact h45
    generalize sR M 50 0 (upd (M.1 50 0) 40 (nI (dn + 1))) = M1 at *
    have rc1 : RepMC (M1.1 55 0) K := by rw [e55]; exact rc
    have wm1 : WkM (M1.1 55 0) w := by rw [e55]; exact wm
    have rh1 : RepMH (M1.1 55 0) K A := by rw [e55]; exact rh
    have L1 : LfM M1 K w (A, c, dn + 1, 0) := ⟨rc1, wm1, rh1, ct1, g40, g38, g45⟩
    have O1 : LOK K (A, c, dn + 1, 0) := ⟨oA, by show dn + 1 ≤ 300; omega⟩
    have x0 : M1.1 55 0 (200 + 9 * s) = nI (w.1 (10 + s)) := by rw [e55]; exact w0
    have hk9 : w.1 (10 + s) ≤ 9 := (okw.2.2.2 s hs).1
    rw [x0]
    by_cases c7 : w.1 (10 + s) < 7
    · obtain ⟨ha, hk⟩ := arg_of ok okw hs c7
      obtain ⟨M2, e2, r2, c2, f2⟩ := X11_does_sp (M := M1) (r := 200 + 9 * s) ok c7 ha oA (by omega) x0 (fun a b => by rw [e55, show 200 + 9 * s + 1 = 201 + 9 * s by omega, w1]; exact hk a b) (fun _ => by rw [e55, show 200 + 9 * s + 2 = 202 + 9 * s by omega]; exact w2) rc1 rh1 ct1
      have okA := doR_ok (c := c) ok ha oA
      rw [if_pos (show nI (w.1 (10 + s)) < (7 : Int32) from by show _ < nI 7; rw [lt_nI (by omega) (by omega)]; exact c7), if_pos c7, e2, Option.bind_some, show M1.1 50 0 41 = c 1 from ct1.2.1]
      have fin : ∀ x : Int32, LfM (sR M2 50 0 (upd (M2.1 50 0) 41 x)) K w ((doR K (w.1 (10 + s)) (kN w s) (w.2 1 s) A c).2.1, upd (doR K (w.1 (10 + s)) (kN w s) (w.2 1 s) A c).2.2 1 x, dn + 1, 0) := by
        intro x
        have fr := LfM.fr ok okw f2.g L1
        refine ⟨by rw [put55]; exact fr.1, by rw [put55]; exact fr.2, by rw [put55]; exact r2, ?_, ?_, ?_, ?_⟩
        · obtain ⟨c0, c1, c2, c3, c4⟩ := c2
          refine ⟨?_, ?_, ?_, ?_, ?_⟩
          · rw [sR_at, upd_ne _ _ (by decide), c0]; exact (upd_ne (i := 1) (j := 0) (doR K (w.1 (10 + s)) (kN w s) (w.2 1 s) A c).2.2 x (by decide)).symm
          · rw [sR_at, upd_at]; exact (upd_at (doR K (w.1 (10 + s)) (kN w s) (w.2 1 s) A c).2.2 1 x).symm
          · rw [sR_at, upd_ne _ _ (by decide), c2]; exact (upd_ne (i := 1) (j := 2) (doR K (w.1 (10 + s)) (kN w s) (w.2 1 s) A c).2.2 x (by decide)).symm
          · rw [sR_at, upd_ne _ _ (by decide), c3]; exact (upd_ne (i := 1) (j := 3) (doR K (w.1 (10 + s)) (kN w s) (w.2 1 s) A c).2.2 x (by decide)).symm
          · rw [sR_at, upd_ne _ _ (by decide), c4]; exact (upd_ne (i := 1) (j := 4) (doR K (w.1 (10 + s)) (kN w s) (w.2 1 s) A c).2.2 x (by decide)).symm
        · rw [sR_at, upd_ne _ _ (by decide), f2.2.2.2 40 (by decide)]; exact g40
        · rw [sR_at, upd_ne _ _ (by decide), f2.2.2.2 38 (by decide)]; exact g38
        · rw [sR_at, upd_ne _ _ (by decide), f2.2.2.2 45 (by decide)]; exact g45
      cases hb : (doR K (w.1 (10 + s)) (kN w s) (w.2 1 s) A c).1 with
      | true =>
        rw [if_neg (show ¬ nB true = 0 by decide)]
        exact ⟨_, rfl, fin _, ⟨okA, by show dn + 1 ≤ 300; omega⟩, (F1.tr f2.g).tr (GFr.put (by omega))⟩
      | false =>
        rw [if_pos (show nB false = 0 from rfl)]
        exact ⟨_, rfl, fin _, ⟨okA, by show dn + 1 ≤ 300; omega⟩, (F1.tr f2.g).tr (GFr.put (by omega))⟩
    · rw [if_neg (show ¬ nI (w.1 (10 + s)) < (7 : Int32) from by show ¬ _ < nI 7; rw [lt_nI (by omega) (by omega)]; exact c7), if_neg c7]
      rcases (show w.1 (10 + s) = 7 ∨ w.1 (10 + s) = 8 ∨ w.1 (10 + s) = 9 by omega) with q | q | q
      · rw [isSo_sp ok okw hs q oA rc1 wm1 rh1, Option.bind_some, q, if_pos (show nI 7 = (7 : Int32) from rfl), if_pos (show (7 : Nat) = 7 from rfl)]
        cases hb : isSoB K w s A with
        | true =>
          obtain ⟨M2, e2, h2, o2, f2⟩ := hrec M1 _ L1 O1 rfl
          rw [if_neg (show ¬ nB true = 0 by decide), show nI (200 + 9 * s) + (8 : Int32) = nI (208 + 9 * s) from (add_nI _ 8).trans (by congr 1; omega), inb_nI_t (show 208 + 9 * s < 2375 by omega) (by decide), if_pos rfl, nI_clamp (by omega), show M1.1 55 0 (208 + 9 * s) = nI (w.1 (100 + s)) from by rw [e55]; exact w8, show nI s + (1 : Int32) = nI (s + 1) from add_nI s 1, e2]
          exact ⟨M2, rfl, h2, o2, F1.tr f2⟩
        | false =>
          rw [if_pos (show nB false = 0 from rfl), if_neg (show ¬ nI 7 = (8 : Int32) by decide), if_neg (show ¬ (8 : Int32) < nI 7 by decide)]
          exact ⟨M1, rfl, L1, O1, F1⟩
      · obtain ⟨p, p1, p2, ep⟩ := (okw.2.2.2 s hs).2.2.2.2.2.2.2.2.1 (Or.inr q)
        obtain ⟨M2, e2, h2, o2, f2⟩ := l120_loop (d := 0) ok okw hs (by rw [kN_of (by omega) ep]; exact p2) (by rw [kN_of (by omega) ep]; exact ep) hrec (kN w s) 0 FU M1 _ (by omega) (lt_FU (by rw [kN_of (by omega) ep]; omega)) L1 O1
        rw [q, if_neg (show ¬ nI 8 = (7 : Int32) by decide), if_pos (show nI 8 = (8 : Int32) from rfl), if_neg (show ¬ (8 : Nat) = 7 by decide), if_pos (show (8 : Nat) = 8 from rfl)]
        exact ⟨M2, e2, h2, o2, F1.tr f2⟩
      · rw [q, if_neg (show ¬ nI 9 = (7 : Int32) by decide), if_neg (show ¬ nI 9 = (8 : Int32) by decide), if_pos (show (8 : Int32) < nI 9 by decide), if_neg (show ¬ (9 : Nat) = 7 by decide), if_neg (show ¬ (9 : Nat) = 8 by decide)]
        refine ⟨_, rfl, ⟨by rw [put55]; exact rc1, by rw [put55]; exact wm1, by rw [put55]; exact rh1, putCt (Or.inl rfl) ct1, ?_, ?_, ?_⟩, ⟨oA, by show dn + 1 ≤ 300; omega⟩, F1.tr (GFr.put (by omega))⟩
        · rw [sR_at, upd_ne _ _ (by decide)]; exact g40
        · rw [sR_at, upd_at]; rfl
        · rw [sR_at, upd_ne _ _ (by decide)]; exact g45
set_option maxHeartbeats 400000 in
theorem all_m {K : Co} {w : Wk} {b a0 : Nat} {rec : Int32 → Int32 → Mem → Option Mem} {recS : Nat → Nat → Lf → Lf} (ok : OKC K) (okw : OKK K w) (hb : b ≤ w.1 1)
    (hrec : ∀ (a b : Nat) (M : Mem) (L : Lf), a0 < a → a ≤ w.1 1 → b ≤ w.1 1 → LfM M K w L → LOK K L → L.2.2.2 = 0 → ∃ M', rec (nI a) (nI b) M = some M' ∧ LfM M' K w (recS a b L) ∧ LOK K (recS a b L) ∧ GFr M M') : ∀ (k s fu : Nat) (M : Mem) (L : Lf), a0 ≤ s → s ≤ w.1 1 → b ≤ s + k → k < fu → LfM M K w L → LOK K L →
    ∃ M', f_X11_doAll_2 rec (nI b) fu (nI s) M = some M' ∧ LfM M' K w (allS K w recS b k s L) ∧ LOK K (allS K w recS b k s L) ∧ GFr M M'
  | k, s, 0, M, L, _, _, _, h, _, _ => by omega
  | 0, s, fu + 1, M, L, _, hs2, hk, _, h, o => by
    have hN := okw.2.1
    refine ⟨M, ?_, h, o, GFr.rf⟩
    rw [f_X11_doAll_2, if_neg (by rw [lt_nI (by omega) (by omega)]; omega)]
  | k + 1, s, fu + 1, M, L, hs, hs2, hk, hf, h, o => by
    have hN := okw.2.1
    have es : allS K w recS b (k + 1) s L = if s < b ∧ L.2.2.2 = 0 then allS K w recS b k (w.1 (100 + s)) (oneS K w recS s L) else L := rfl
    rw [f_X11_doAll_2, es, h.2.2.2.2.2.1]
    by_cases c : s < b
    · rw [if_pos (by rw [lt_nI (by omega) (by omega)]; exact c)]
      by_cases d : L.2.2.2 = 0
      · have g := okw.2.2.2 s (by omega)
        have g1 := g.2.1
        have g2 := g.2.2.1
        obtain ⟨M1, e1, h1, o1, f1⟩ := one_m ok okw (show s < w.1 1 by omega) (fun M L a b c => hrec (s + 1) (w.1 (100 + s)) M L (by omega) (by omega) g2 a b c) h o d
        obtain ⟨M2, e2, h2, o2, f2⟩ := all_m ok okw hb hrec k (w.1 (100 + s)) fu M1 _ (by omega) g2 (by omega) (by omega) h1 o1
        refine ⟨M2, ?_, by rw [if_pos ⟨c, d⟩]; exact h2, by rw [if_pos ⟨c, d⟩]; exact o2, f1.tr f2⟩
        rw [if_pos d, if_pos rfl, e1, Option.bind_some, show (200 : Int32) + (9 : Int32) * nI s + (8 : Int32) = nI (208 + 9 * s) from by rw [show (9 : Int32) = nI 9 from rfl, mul_nI, show (200 : Int32) = nI 200 from rfl, add_nI, show (8 : Int32) = nI 8 from rfl, add_nI]; congr 1; omega, inb_nI_t (show 208 + 9 * s < 2375 by omega) (by decide), if_pos rfl, nI_clamp (by omega), (h1.2.1.2.2 s (by omega)).2.2.2.2.2]
        exact e2
      · refine ⟨M, ?_, by rw [if_neg (fun z => d z.2)]; exact h, by rw [if_neg (fun z => d z.2)]; exact o, GFr.rf⟩
        rw [if_neg d, if_neg (by decide)]
    · refine ⟨M, ?_, by rw [if_neg (fun z => c z.1)]; exact h, by rw [if_neg (fun z => c z.1)]; exact o, GFr.rf⟩
      rw [if_neg (by rw [lt_nI (by omega) (by omega)]; exact c)]
set_option maxHeartbeats 400000 in
theorem run_m {K : Co} {w : Wk} (ok : OKC K) (okw : OKK K w) : ∀ (d a b : Nat) (M : Mem) (L : Lf), w.1 1 < d + a → a ≤ w.1 1 → b ≤ w.1 1 → LfM M K w L → LOK K L →
    ∃ M', f_X11_doAll d (nI a) (nI b) M = some M' ∧ LfM M' K w (runS K w d a b L) ∧ LOK K (runS K w d a b L) ∧ GFr M M'
  | 0, a, b, M, L, h, h2, _, _, _ => by omega
  | d + 1, a, b, M, L, hd, ha, hb, h, o => by
    have hN := okw.2.1
    rw [f_X11_doAll]
    exact all_m (a0 := a) (recS := runS K w d) ok okw hb (fun a' b' M' L' x1 xa x2 x3 x4 x5 => run_m ok okw d a' b' M' L' (by omega) xa x2 x3 x4) (b - a) a FU M L (Nat.le_refl _) ha (by omega) (lt_FU (by omega)) h o
