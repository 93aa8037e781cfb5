/-! ===== calls on both: pour ===== -/
def pourT (T : Tr) (t u i j lo hi : Nat) : Tr := (T.1, T.2.1, fun a b => if a = u ∧ j + lo ≤ b ∧ b < j + hi then T.2.2 t (i + (b - j)) else T.2.2 a b)
theorem pour_put {T : Tr} {t u i j lo hi lo' hi' p : Nat} (h : ∀ c, (lo' ≤ c ∧ c < hi') ↔ ((lo ≤ c ∧ c < hi) ∨ c = p)) : putT (pourT T t u i j lo hi) u (j + p) (T.2.2 t (i + p)) = pourT T t u i j lo' hi' := by
  show (T.1, T.2.1, fun a b => if a = u ∧ b = j + p then T.2.2 t (i + p) else if a = u ∧ j + lo ≤ b ∧ b < j + hi then T.2.2 t (i + (b - j)) else T.2.2 a b) = (T.1, T.2.1, fun a b => if a = u ∧ j + lo' ≤ b ∧ b < j + hi' then T.2.2 t (i + (b - j)) else T.2.2 a b)
  congr 2
  funext a b
  have hb := h (b - j)
  by_cases c : a = u ∧ b = j + p
  · have e : b - j = p := by omega
    rw [if_pos c, if_pos ⟨c.1, by have := hb.mpr (Or.inr e); omega, by have := hb.mpr (Or.inr e); omega⟩, e]
  · rw [if_neg c]
    by_cases d : a = u ∧ j + lo ≤ b ∧ b < j + hi
    · have := hb.mpr (Or.inl (by omega))
      rw [if_pos d, if_pos ⟨d.1, by omega, by omega⟩]
    · rw [if_neg d, if_neg (fun z => by
        rcases hb.mp (by omega) with w | w
        · exact d ⟨z.1, by omega, by omega⟩
        · exact c ⟨z.1, by omega⟩)]
theorem pour_at {T : Tr} {t u i j lo hi p : Nat} (h : ¬ t = u ∨ ¬ (j + lo ≤ i + p ∧ i + p < j + hi)) : (pourT T t u i j lo hi).2.2 t (i + p) = T.2.2 t (i + p) := by
  show (if t = u ∧ j + lo ≤ i + p ∧ i + p < j + hi then T.2.2 t (i + (i + p - j)) else T.2.2 t (i + p)) = _
  rw [if_neg (fun z => by
    rcases h with h | h
    · exact h z.1
    · exact h z.2)]
theorem p182 {t u i j p : Nat} {x5 x6 x7 : Int32} {M : Mem} {k : Int32 → Mem → Option (Int32 × Mem)} (ht : t < 4) (hu : u < 4) (hi : i + p < 60) (hj : j + p < 60) :
    f_X11_pour_182 k (nI t) (nI i) (nI u) (nI j) x5 x6 x7 (nI p) M = k (x7 + 1) (sL M 53 0 (vp_updL (M.2 53 0) (60 * u + (j + p)) (M.2 53 0 (60 * t + (i + p))))) := by
  unfold f_X11_pour_182
  rw [show (60 : Int32) * nI t + nI i + nI p = nI (60 * t + (i + p)) from by rw [show (60 : Int32) = nI 60 from rfl, mul_nI, add_nI, add_nI, Nat.add_assoc], show (60 : Int32) * nI u + nI j + nI p = nI (60 * u + (j + p)) from by rw [show (60 : Int32) = nI 60 from rfl, mul_nI, add_nI, add_nI, Nat.add_assoc], inb_nI_t (show 60 * t + (i + p) < 240 by omega) (by decide), if_pos rfl, inb_nI_t (show 60 * u + (j + p) < 240 by omega) (by decide), if_pos rfl, nI_clamp (by omega), nI_clamp (by omega)]
theorem pf_loop {t u i j n : Nat} {T : Tr} (ht : t < 4) (hu : u < 4) (hi : i + n ≤ 60) (hj : j + n ≤ 60) (hij : j ≤ i) : ∀ (k m fu : Nat) (M : Mem), m + k = n → k < fu → TrM M (pourT T t u i j 0 m) →
    ∃ M', f_X11_pour_158 (nI t) (nI i) (nI u) (nI j) (nI n) 0 fu (nI m) M = some (1, M') ∧ TrM M' (pourT T t u i j 0 n) ∧ TFm M M'
  | k, m, 0, M, _, h, _ => by omega
  | 0, m, fu + 1, M, hm, _, r => by
    have e : m = n := by omega
    subst e
    refine ⟨M, ?_, r, TFm.rf⟩
    rw [f_X11_pour_158, if_neg (by rw [lt_nI (by omega) (by omega)]; omega)]
  | k + 1, m, fu + 1, M, hm, hk, r => by
    have r1 := r.put (t := u) (j := j + m) (v := T.2.2 t (i + m)) hu (by omega)
    rw [pour_put (lo' := 0) (hi' := m + 1) (fun c => by omega)] at r1
    have e := (r t ht).2.2 (i + m) (by omega)
    rw [pour_at (Or.inr (by omega))] at e
    rw [← e] at r1
    obtain ⟨M', e1, e2, e3⟩ := pf_loop ht hu hi hj hij k (m + 1) fu _ (by omega) (by omega) r1
    refine ⟨M', ?_, e2, TFm.L.tr e3⟩
    rw [f_X11_pour_158, if_pos (by rw [lt_nI (by omega) (by omega)]; omega), if_pos rfl, p182 ht hu (by omega) (by omega), show nI m + (1 : Int32) = nI (m + 1) from add_nI m 1]
    exact e1
theorem pb_loop {t u i j n : Nat} {T : Tr} (ht : t < 4) (hu : u < 4) (hi : i + n ≤ 60) (hj : j + n ≤ 60) (hij : i < j) : ∀ (k m fu : Nat) (M : Mem), m + k = n → k < fu → TrM M (pourT T t u i j (n - m) n) →
    ∃ M', f_X11_pour_158 (nI t) (nI i) (nI u) (nI j) (nI n) 1 fu (nI m) M = some (1, M') ∧ TrM M' (pourT T t u i j 0 n) ∧ TFm M M'
  | k, m, 0, M, _, h, _ => by omega
  | 0, m, fu + 1, M, hm, _, r => by
    have e : m = n := by omega
    subst e
    rw [Nat.sub_self] at r
    refine ⟨M, ?_, r, TFm.rf⟩
    rw [f_X11_pour_158, if_neg (by rw [lt_nI (by omega) (by omega)]; omega)]
  | k + 1, m, fu + 1, M, hm, hk, r => by
    have r1 := r.put (t := u) (j := j + (n - 1 - m)) (v := T.2.2 t (i + (n - 1 - m))) hu (by omega)
    rw [pour_put (lo' := n - (m + 1)) (hi' := n) (fun c => by omega)] at r1
    have e := (r t ht).2.2 (i + (n - 1 - m)) (by omega)
    rw [pour_at (Or.inr (by omega))] at e
    rw [← e] at r1
    obtain ⟨M', e1, e2, e3⟩ := pb_loop ht hu hi hj hij k (m + 1) fu _ (by omega) (by omega) r1
    refine ⟨M', ?_, e2, TFm.L.tr e3⟩
    rw [f_X11_pour_158, if_pos (by rw [lt_nI (by omega) (by omega)]; omega), if_neg (by decide), show nI n - (1 : Int32) - nI m = nI (n - 1 - m) from by rw [show (1 : Int32) = nI 1 from rfl, sub_nI (a := n) (b := 1) (by omega), sub_nI (by omega)], p182 ht hu (by omega) (by omega), show nI m + (1 : Int32) = nI (m + 1) from add_nI m 1]
    exact e1
theorem TrX.pour {M : Mem} {T : Tr} {t u i j n : Nat} (ht : t < 4) (hi : i + n ≤ 60) (r : TrX M T) : TrX (sL M 4 u (va_cpy (M.2 4 t) (M.2 4 u) i j n)) (pourT T t u i j 0 n) := by
  intro a ha
  refine ⟨(r a ha).1, (r a ha).2.1, fun b hb => ?_⟩
  show _ = if a = u ∧ j + 0 ≤ b ∧ b < j + n then T.2.2 t (i + (b - j)) else T.2.2 a b
  by_cases c : a = u
  · subst c
    rw [sL_at]
    show (if j ≤ b ∧ b < j + n then M.2 4 t (i + (b - j)) else M.2 4 a b) = _
    by_cases d : j ≤ b ∧ b < j + n
    · rw [if_pos d, if_pos ⟨rfl, by omega, d.2⟩]; exact (r t ht).2.2 _ (by omega)
    · rw [if_neg d, if_neg (fun z => d ⟨by omega, z.2.2⟩)]; exact (r a ha).2.2 b hb
  · rw [sL_ne _ _ _ _ (fun z => c z.2), if_neg (fun z => c z.1)]; exact (r a ha).2.2 b hb
/-- a stretch that lies within -/
def goodP (x : Int32) (n m : Nat) : Prop := ∃ i, x = nI i ∧ i + n ≤ m
theorem holds_sp {M : Mem} {t m n : Nat} {x : Int32} (ht : t < 4) (hm : m ≤ 60) (hn : n < 2 ^ 31) (h : M.1 5 0 t = nI m) : (goodP x n m ∧ f_X6_holds (nI t) x (nI n) M = some 1) ∨ (¬ goodP x n m ∧ f_X6_holds (nI t) x (nI n) M = some 0) := by
  unfold f_X6_holds
  rw [inb_nI_t ht (by decide), if_pos rfl, nI_clamp (by omega), h]
  rcases arg_cases x with c | ⟨i, hi, rfl⟩
  · right
    refine ⟨fun ⟨i, e, q⟩ => ?_, by rw [if_pos c]⟩
    subst e
    exact nI_pos (by omega) c
  · rw [if_neg (nI_pos hi)]
    have un : goodP (nI i) n m → i + n ≤ m := fun ⟨i', e, q⟩ => by
      rw [eq_nI hi (by omega)] at e
      omega
    by_cases c : m < n
    · right
      exact ⟨fun z => by have := un z; omega, by rw [if_pos (by rw [lt_nI (by omega) hn]; exact c)]⟩
    · rw [if_neg (show ¬ nI m < nI n by rw [lt_nI (by omega) hn]; exact c), if_pos rfl, sub_nI (by omega)]
      by_cases d : m - n < i
      · right
        exact ⟨fun z => by have := un z; omega, by rw [if_pos (by rw [lt_nI (by omega) hi]; exact d)]⟩
      · left
        exact ⟨⟨i, rfl, by omega⟩, by rw [if_neg (by rw [lt_nI (by omega) hi]; exact d)]⟩
theorem sum_gt {i n m : Nat} (hi : i < 2 ^ 31) (hn : n < 2 ^ 31) (hm : m < 2 ^ 31) : (0 < lg_cmp ((nI i).toInt64 + (nI n).toInt64) (nI m).toInt64) = (m < i + n) := by
  apply propext
  rw [lg_cmp_gt, Int64.lt_iff_toInt_lt, Int64.toInt_add, t64, t64, t64, nI_toInt hi, nI_toInt hn, nI_toInt hm]
  have : Int.bmod ((i : Int) + n) (2 ^ 64) = (i : Int) + n := by
    apply Int.bmod_eq_of_le <;> omega
  rw [this]
  omega
theorem cpok_t {i j n : Nat} (hi : i + n ≤ 60) (hj : j + n ≤ 60) : cpok (nI i) (nI j) (nI n) 60 60 = true := by
  unfold cpok
  rw [nI_clamp (by omega), nI_clamp (by omega), nI_clamp (by omega)]
  have a := nI_pos (show i < 2 ^ 31 by omega)
  have b := nI_pos (show j < 2 ^ 31 by omega)
  have c := nI_pos (show n < 2 ^ 31 by omega)
  simp [a, b, c, hi, hj]
theorem missX {s : Sy} {M : Mem} (h : RX s M) {t : Nat} (ht : t < 4) {v : Int32} (hl : (sTr s).1 t = v) : f_X6_isMissing (nI t) M = if v < 0 then some 1 else some 0 := by
  unfold f_X6_isMissing
  rw [inb_nI_t ht (by decide), if_pos rfl, nI_clamp (by omega), (h.T t ht).1, hl]
theorem step_pour {s : Sy} (o : OKS s) (x1 x2 x3 x4 x5 : Int32) : Step s (f_X10_pour x1 x2 x3 x4 x5) (f_X11_pour x1 x2 x3 x4 x5) := by
  rcases arg_in x1 (n := 4) (by decide) with ⟨t, ht, rfl⟩ | hx1
  · have t0 : ¬ nI t < 0 := nI_pos (by omega)
    have t4 : nI t < (4 : Int32) := by
      show nI t < nI 4
      rw [lt_nI (by omega) (by decide)]; exact ht
    rcases arg_in x3 (n := 4) (by decide) with ⟨u, hu, rfl⟩ | hx3
    · have u0 : ¬ nI u < 0 := nI_pos (by omega)
      have u4 : nI u < (4 : Int32) := by
        show nI u < nI 4
        rw [lt_nI (by omega) (by decide)]; exact hu
      have lt' : ∀ M, RM s M → (mR M).1 52 0 (nI t).toNatClampNeg = (sTr s).1 t := fun M h => by rw [nI_clamp (by omega)]; exact ((h.r o).T t ht).1
      have lu' : ∀ M, RM s M → (mR M).1 52 0 (nI u).toNatClampNeg = (sTr s).1 u := fun M h => by rw [nI_clamp (by omega)]; exact ((h.r o).T u hu).1
      have st' : ∀ M, RM s M → (mR M).1 51 0 (nI t).toNatClampNeg = nI ((sTr s).2.1 t) := fun M h => by rw [nI_clamp (by omega)]; exact ((h.r o).T t ht).2.1
      have su' : ∀ M, RM s M → (mR M).1 51 0 (nI u).toNatClampNeg = nI ((sTr s).2.1 u) := fun M h => by rw [nI_clamp (by omega)]; exact ((h.r o).T u hu).2.1
      have sx : ∀ M, RX s M → M.1 6 0 (nI t).toNatClampNeg = nI ((sTr s).2.1 t) := fun M h => by rw [nI_clamp (by omega)]; exact (h.T t ht).2.1
      have sy : ∀ M, RX s M → M.1 6 0 (nI u).toNatClampNeg = nI ((sTr s).2.1 u) := fun M h => by rw [nI_clamp (by omega)]; exact (h.T u hu).2.1
      rcases (o.T t ht).2 with hl | ⟨m, hm, hl⟩
      · refine step_rf o 3 (fun M h => ?_) (fun M h => ?_)
        · unfold f_X10_pour
          rw [isTrayX_t ht, Option.bind_some, if_neg (by decide), isTrayX_t hu, Option.bind_some, if_neg (by decide), missX h ht hl]
          rfl
        · unfold f_X11_pour
          simp only [mR_e]
          rw [if_neg t0, if_pos t4, if_neg u0, if_pos u4, inb_nI_t ht (by decide), if_pos rfl]
          refine (if_pos ?_).trans rfl
          rw [lt' M h, hl]; decide
      · have m0 : ¬ nI m < 0 := nI_pos (by omega)
        rcases (o.T u hu).2 with hl2 | ⟨m2, hm2, hl2⟩
        · refine step_rf o 3 (fun M h => ?_) (fun M h => ?_)
          · unfold f_X10_pour
            rw [isTrayX_t ht, Option.bind_some, if_neg (by decide), isTrayX_t hu, Option.bind_some, if_neg (by decide), missX h ht hl, if_neg m0, Option.bind_some, if_pos rfl, missX h hu hl2]
            rfl
          · unfold f_X11_pour
            simp only [mR_e]
            rw [if_neg t0, if_pos t4, if_neg u0, if_pos u4, inb_nI_t ht (by decide), if_pos rfl, inb_nI_t hu (by decide)]
            refine (if_neg ?_).trans ((if_pos rfl).trans ((if_pos ?_).trans rfl))
            · rw [lt' M h, hl]; exact m0
            · rw [lu' M h, hl2]; decide
        · have m20 : ¬ nI m2 < 0 := nI_pos (by omega)
          have q1 := (o.T t ht).1
          have q2 := (o.T u hu).1
          by_cases cs : nI ((sTr s).2.1 t) = nI ((sTr s).2.1 u)
          · rcases arg_cases x5 with c5 | ⟨n, hn, rfl⟩
            · refine step_rf o 6 (fun M h => ?_) (fun M h => ?_)
              · unfold f_X10_pour
                rw [isTrayX_t ht, Option.bind_some, if_neg (by decide), isTrayX_t hu, Option.bind_some, if_neg (by decide), missX h ht hl, if_neg m0, Option.bind_some, if_pos rfl, missX h hu hl2, if_neg m20, Option.bind_some, if_pos rfl, inb_nI_t ht (by decide), if_pos rfl, inb_nI_t hu (by decide), if_pos rfl, if_pos (by rw [sx M h, sy M h]; exact cs), if_pos c5]
                rfl
              · unfold f_X11_pour
                simp only [mR_e]
                rw [if_neg t0, if_pos t4, if_neg u0, if_pos u4, inb_nI_t ht (by decide), if_pos rfl, inb_nI_t hu (by decide)]
                refine (if_neg ?_).trans ((if_pos rfl).trans ((if_neg ?_).trans ((if_pos rfl).trans ((if_pos rfl).trans ((if_pos ?_).trans ((if_pos c5).trans rfl))))))
                · rw [lt' M h, hl]; exact m0
                · rw [lu' M h, hl2]; exact m20
                · rw [st' M h, su' M h]; exact cs
            · have n0 : ¬ nI n < 0 := nI_pos hn
              by_cases g : goodP x2 n m ∧ goodP x4 n m2
              · obtain ⟨⟨i, rfl, hi⟩, ⟨j, rfl, hj⟩⟩ := g
                have ot : OKS (setTr s (pourT (sTr s) t u i j 0 n)) := o.t o.T
                refine step_of 1 (setSc (setTr s (pourT (sTr s) t u i j 0 n)) 0 0) ot (fun M h => ?_) (fun M h => ?_)
                · have a := (h.t TFx.L (h.T.pour (u := u) (j := j) ht (show i + n ≤ 60 by omega))).st ot 0 XQ.rf
                  refine ⟨_, ?_, a.1, TFx.L.on.tr a.2⟩
                  have e1 : f_X6_holds (nI t) (nI i) (nI n) M = some 1 := by
                    rcases holds_sp (x := nI i) ht hm hn ((h.T t ht).1.trans hl) with z | z
                    · exact z.2
                    · exact absurd ⟨i, rfl, hi⟩ z.1
                  have e2 : f_X6_holds (nI u) (nI j) (nI n) M = some 1 := by
                    rcases holds_sp (x := nI j) hu hm2 hn ((h.T u hu).1.trans hl2) with z | z
                    · exact z.2
                    · exact absurd ⟨j, rfl, hj⟩ z.1
                  unfold f_X10_pour
                  rw [isTrayX_t ht, Option.bind_some, if_neg (by decide), isTrayX_t hu, Option.bind_some, if_neg (by decide), missX h ht hl, if_neg m0, Option.bind_some, if_pos rfl, missX h hu hl2, if_neg m20, Option.bind_some, if_pos rfl, inb_nI_t ht (by decide), if_pos rfl, inb_nI_t hu (by decide), if_pos rfl, if_pos (by rw [sx M h, sy M h]; exact cs), if_neg n0, e1, Option.bind_some, if_neg (by decide), e2, Option.bind_some, if_neg (by decide), if_pos rfl, if_pos rfl, cpok_t (by omega) (by omega), if_pos rfl, nI_clamp (by omega), nI_clamp (by omega), nI_clamp (by omega), nI_clamp (by omega), nI_clamp (by omega)]
                  rfl
                · have h0 := h.s0 o MQm.rf (mR_0 M)
                  have r0 : TrM (mR M) (sTr s) := h0.1.T
                  have en : ∀ T : Tr, ∀ k, pourT T t u i j k k = T := fun T k => by
                    show (T.1, T.2.1, fun a b => if a = u ∧ j + k ≤ b ∧ b < j + k then T.2.2 t (i + (b - j)) else T.2.2 a b) = T
                    have : (fun a b => if a = u ∧ j + k ≤ b ∧ b < j + k then T.2.2 t (i + (b - j)) else T.2.2 a b) = T.2.2 := by
                      funext a b
                      rw [if_neg (by omega)]
                    rw [this]
                  obtain ⟨M1, e1, e2, e3⟩ : ∃ M1, (if nI i < nI j then f_X11_pour_158 (nI t) (nI i) (nI u) (nI j) (nI n) (1 : Int32) FU (0 : Int32) (mR M) else f_X11_pour_158 (nI t) (nI i) (nI u) (nI j) (nI n) (0 : Int32) FU (0 : Int32) (mR M)) = some (1, M1) ∧ TrM M1 (pourT (sTr s) t u i j 0 n) ∧ TFm (mR M) M1 := by
                    by_cases c : i < j
                    · rw [if_pos (by rw [lt_nI (by omega) (by omega)]; exact c)]
                      exact pb_loop ht hu (by omega) (by omega) c n 0 FU (mR M) (by omega) (lt_FU (by omega)) (by rw [Nat.sub_zero, en]; exact r0)
                    · rw [if_neg (by rw [lt_nI (by omega) (by omega)]; exact c)]
                      exact pf_loop ht hu (by omega) (by omega) (by omega) n 0 FU (mR M) (by omega) (lt_FU (by omega)) (by rw [en]; exact r0)
                  refine ⟨M1, ?_, h0.1.t e3 e2, h0.2.tr e3.on⟩
                  unfold f_X11_pour
                  simp only [mR_e]
                  rw [if_neg t0, if_pos t4, if_neg u0, if_pos u4, inb_nI_t ht (by decide), if_pos rfl, inb_nI_t hu (by decide)]
                  refine (if_neg ?_).trans ((if_pos rfl).trans ((if_neg ?_).trans ((if_pos rfl).trans ((if_pos rfl).trans ((if_pos ?_).trans ((if_neg n0).trans ((if_neg ?_).trans ((if_neg ?_).trans ((if_pos rfl).trans ((if_neg ?_).trans ((if_pos rfl).trans ((if_neg ?_).trans e1))))))))))))
                  · rw [lt' M h, hl]; exact m0
                  · rw [lu' M h, hl2]; exact m20
                  · rw [st' M h, su' M h]; exact cs
                  · exact nI_pos (by omega)
                  · exact nI_pos (by omega)
                  · rw [lt' M h, hl, sum_gt (by omega) hn (by omega)]; omega
                  · rw [lu' M h, hl2, sum_gt (by omega) hn (by omega)]; omega
              · refine step_rf o 4 (fun M h => ?_) (fun M h => ?_)
                · have e1 := holds_sp (x := x2) ht hm hn ((h.T t ht).1.trans hl)
                  have e2 := holds_sp (x := x4) hu hm2 hn ((h.T u hu).1.trans hl2)
                  unfold f_X10_pour
                  rw [isTrayX_t ht, Option.bind_some, if_neg (by decide), isTrayX_t hu, Option.bind_some, if_neg (by decide), missX h ht hl, if_neg m0, Option.bind_some, if_pos rfl, missX h hu hl2, if_neg m20, Option.bind_some, if_pos rfl, inb_nI_t ht (by decide), if_pos rfl, inb_nI_t hu (by decide), if_pos rfl, if_pos (by rw [sx M h, sy M h]; exact cs), if_neg n0]
                  rcases e1 with ⟨a1, e1⟩ | ⟨a1, e1⟩
                  · rcases e2 with ⟨a2, e2⟩ | ⟨a2, e2⟩
                    · exact absurd ⟨a1, a2⟩ g
                    · rw [e1, Option.bind_some, if_neg (by decide), e2]; rfl
                  · rw [e1]; rfl
                · unfold f_X11_pour
                  simp only [mR_e]
                  rw [if_neg t0, if_pos t4, if_neg u0, if_pos u4, inb_nI_t ht (by decide), if_pos rfl, inb_nI_t hu (by decide)]
                  refine (if_neg ?_).trans ((if_pos rfl).trans ((if_neg ?_).trans ((if_pos rfl).trans ((if_pos rfl).trans ((if_pos ?_).trans ((if_neg n0).trans ?_))))))
                  · rw [lt' M h, hl]; exact m0
                  · rw [lu' M h, hl2]; exact m20
                  · rw [st' M h, su' M h]; exact cs
                  · rcases arg_cases x2 with c2 | ⟨i, hi, rfl⟩
                    · exact (if_pos c2).trans rfl
                    · rcases arg_cases x4 with c4 | ⟨j, hj, rfl⟩
                      · exact (if_neg (nI_pos hi)).trans ((if_pos c4).trans rfl)
                      · by_cases d : m < i + n
                        · refine (if_neg (nI_pos hi)).trans ((if_neg (nI_pos hj)).trans ((if_pos rfl).trans ((if_pos ?_).trans rfl)))
                          rw [lt' M h, hl, sum_gt hi hn (by omega)]; exact d
                        · by_cases d2 : m2 < j + n
                          · refine (if_neg (nI_pos hi)).trans ((if_neg (nI_pos hj)).trans ((if_pos rfl).trans ((if_neg ?_).trans ((if_pos rfl).trans ((if_pos ?_).trans rfl)))))
                            · rw [lt' M h, hl, sum_gt hi hn (by omega)]; exact d
                            · rw [lu' M h, hl2, sum_gt hj hn (by omega)]; exact d2
                          · exact absurd ⟨⟨i, rfl, by omega⟩, ⟨j, rfl, by omega⟩⟩ g
          · refine step_rf o 11 (fun M h => ?_) (fun M h => ?_)
            · unfold f_X10_pour
              rw [isTrayX_t ht, Option.bind_some, if_neg (by decide), isTrayX_t hu, Option.bind_some, if_neg (by decide), missX h ht hl, if_neg m0, Option.bind_some, if_pos rfl, missX h hu hl2, if_neg m20, Option.bind_some, if_pos rfl, inb_nI_t ht (by decide), if_pos rfl, inb_nI_t hu (by decide), if_pos rfl, if_neg (by rw [sx M h, sy M h]; exact cs)]
              rfl
            · unfold f_X11_pour
              simp only [mR_e]
              rw [if_neg t0, if_pos t4, if_neg u0, if_pos u4, inb_nI_t ht (by decide), if_pos rfl, inb_nI_t hu (by decide)]
              refine (if_neg ?_).trans ((if_pos rfl).trans ((if_neg ?_).trans ((if_pos rfl).trans ((if_pos rfl).trans ((if_neg ?_).trans rfl)))))
              · rw [lt' M h, hl]; exact m0
              · rw [lu' M h, hl2]; exact m20
              · rw [st' M h, su' M h]; exact cs
    · refine step_rf o 1 (fun M h => ?_) (fun M h => ?_)
      · unfold f_X10_pour
        rw [isTrayX_t ht, Option.bind_some, if_neg (by decide), isTrayX_f hx3]
        rfl
      · unfold f_X11_pour
        simp only [mR_e]
        rw [if_neg t0, if_pos t4]
        by_cases c : x3 < 0
        · rw [if_pos c]; rfl
        · rw [if_neg c, if_neg (show ¬ x3 < (4 : Int32) from hx3.resolve_left c)]; rfl
  · refine step_rf o 1 (fun M h => ?_) (fun M h => ?_)
    · unfold f_X10_pour
      rw [isTrayX_f hx1]
      rfl
    · unfold f_X11_pour
      simp only [mR_e]
      by_cases c : x1 < 0
      · rw [if_pos c]; rfl
      · rw [if_neg c, if_neg (show ¬ x1 < (4 : Int32) from hx1.resolve_left c)]; rfl
