/-! ===== who ===== -/
def hP (μ : Mem) (t : Nat) : Nat → Nat
  | 0 => 0
  | n + 1 => if bt (nI (sv μ 1 n)) t = 0 then hP μ t n else hP μ t n ||| 2 ^ sv μ 0 n
theorem hP_lt {μ : Mem} (S : RelS μ) (t : Nat) : ∀ n, n ≤ 40 → hP μ t n < 16
  | 0, _ => (by decide : (0 : Nat) < 16)
  | n + 1, h => by
    have ih := hP_lt S t n (by omega)
    have b0 : sv μ 0 n ≤ 3 := (S.2.1 0 n (by decide) (by omega)).2.2
    rw [hP]
    split
    · exact ih
    · exact (or16 _ ih _ (by omega)).2
theorem hP_sm {μ μ' : Mem} (s : Sm μ μ') (t : Nat) : ∀ n, hP μ' t n = hP μ t n
  | 0 => rfl
  | n + 1 => by rw [hP, hP, hP_sm s t n, sv_sm s (by decide), sv_sm s (by decide)]
theorem had_c {μ : Mem} (h : Ok μ) (S : RelS μ) (t : Nat) : X0_personsWith 37 (nI t) μ = some (nI (hP μ t (sc μ))) := by
  have hc := S.1.2.2
  obtain ⟨a, P, e⟩ := loopF (F := fun k (a : Nat) i => X0_personsWith_L4 37 (nI t) μ k (nI a) (nI i)) (P := fun i a => a = hP μ t i) (n := sc μ) (r := fun a => (nI a, nI (sc μ))) (by omega) (fun k a i hi P => by
    subst P
    have i40 : i < 40 := by omega
    have f1 := (S.2.1 1 i (by decide) i40).1
    have f0 := (S.2.1 0 i (by decide) i40).1
    have b0 : sv μ 0 i ≤ 3 := (S.2.1 0 i (by decide) i40).2.2
    refine ⟨_, rfl, ?_⟩
    show X0_personsWith_L4 37 (nI t) μ (k + 1) (nI (hP μ t i)) (nI i) = X0_personsWith_L4 37 (nI t) μ k (nI (hP μ t (i + 1))) (nI (i + 1))
    rw [X0_personsWith_L4, gi_37 h, S.1.1, Option.bind_some, if_neg (nI_ge hi (by omega)), hP]
    simp only [r_37_1 h, ar_sayings h i40, gi_S h i40, f0, f1, Option.bind_some, nI_add1, has_z, (or16 _ (hP_lt S t i (by omega)) _ (show sv μ 0 i < 4 by omega)).1]
    by_cases q : bt (nI (sv μ 1 i)) t = 0
    · rw [if_pos q, if_pos q]
      rfl
    · rw [if_neg q, if_neg q]
      rfl) (fun k a P => by
    show X0_personsWith_L4 37 (nI t) μ (k + 1) (nI a) (nI (sc μ)) = _
    rw [X0_personsWith_L4, gi_37 h, S.1.1, Option.bind_some, if_pos (nI_le (Nat.le_refl _) (by omega))]) 0 rfl
  subst P
  have e : X0_personsWith_L4 37 (nI t) μ FU 0 0 = _ := e
  unfold X0_personsWith
  rw [e, Option.bind_some]
theorem had_m {μ : Mem} (h : Ok μ) (S : RelS μ) (t : Nat) (x2 : Int32) : X11_who_L31 134 (nI t) x2 μ FU 0 0 = some (nI (hP μ t (sc μ)), nI (sc μ)) := by
  have hc := S.1.2.2
  obtain ⟨a, P, e⟩ := loopF (F := fun k (a : Nat) i => X11_who_L31 134 (nI t) x2 μ k (nI a) (nI i)) (P := fun i a => a = hP μ t i) (n := sc μ) (r := fun a => (nI a, nI (sc μ))) (by omega) (fun k a i hi P => by
    subst P
    have i40 : i < 40 := by omega
    have f1 : mI μ 171 i = _ := (S.2.1 1 i (by decide) i40).2.1
    have f0 : mI μ 170 i = _ := (S.2.1 0 i (by decide) i40).2.1
    have b0 : sv μ 0 i ≤ 3 := (S.2.1 0 i (by decide) i40).2.2
    refine ⟨_, rfl, ?_⟩
    show X11_who_L31 134 (nI t) x2 μ (k + 1) (nI (hP μ t i)) (nI i) = X11_who_L31 134 (nI t) x2 μ k (nI (hP μ t (i + 1))) (nI (i + 1))
    rw [X11_who_L31, gi_134 h, S.1.2.1, Option.bind_some, if_neg (nI_ge hi (by omega)), hP]
    simp only [r_134_47 h, r_134_46 h, ai_171 h i40, ai_170 h i40, f0, f1, Option.bind_some, nI_add1, bt_1]
    by_cases q : bt (nI (sv μ 1 i)) t = 0
    · rw [if_neg (by omega), if_pos q, Option.bind_some, Int32.or_zero]
    · rw [if_pos (by have := bt_le (nI (sv μ 1 i)) t; omega), if_neg q, Option.bind_some, (or16 _ (hP_lt S t i (by omega)) _ (show sv μ 0 i < 4 by omega)).1]) (fun k a P => by
    show X11_who_L31 134 (nI t) x2 μ (k + 1) (nI a) (nI (sc μ)) = _
    rw [X11_who_L31, gi_134 h, S.1.2.1, Option.bind_some, if_pos (nI_le (Nat.le_refl _) (by omega))]) 0 rfl
  subst P
  exact e
def wF (μ : Mem) (can : Int32) (p : Nat) (a : Int32 × Int32) : Int32 × Int32 := if bt can p = 0 then a else if nI (sS μ (odd μ p (nw μ) 0)) ≤ a.2 then a else (nI p, nI (sS μ (odd μ p (nw μ) 0)))
def wA (μ : Mem) (can : Int32) : Nat → Int32 × Int32
  | 0 => (-1, -1)
  | n + 1 => wF μ can n (wA μ can n)
theorem sS_odd_sm {μ μ' : Mem} (s : Sm μ μ') (p t k : Nat) : sS μ' (odd μ' p t k) = sS μ (odd μ p t k) := by rw [sS_sm s, show odd μ' p t k = odd μ p t k from funext (odd_sm s p t k)]
theorem wA_sm {μ μ' : Mem} (s : Sm μ μ') (can : Int32) : ∀ n, wA μ' can n = wA μ can n
  | 0 => rfl
  | n + 1 => by
    rw [wA, wA, wA_sm s can n]
    unfold wF
    rw [nw_sm s, sS_odd_sm s]
theorem wA_ge (μ : Mem) (can : Int32) : ∀ n, -1 ≤ (wA μ can n).2
  | 0 => (by decide : (-1 : Int32) ≤ -1)
  | n + 1 => by
    have ih := wA_ge μ can n
    rw [wA]
    unfold wF
    split
    · exact ih
    · split
      · exact ih
      · show -1 ≤ nI (sS μ (odd μ n (nw μ) 0))
        have b : sS μ (odd μ n (nw μ) 0) ≤ 1000000 := sS_le
        rw [Int32.le_iff_toInt_le, nI_toInt (by omega)]
        have : (-1 : Int32).toInt = -1 := rfl
        omega
theorem who_c {μ : Mem} (h : Ok μ) (W : RelW μ) (can : Int32) : ∃ μ', Sm μ μ' ∧ X10_who_L68 0 can FU (-1) (-1) 0 μ = some ((wA μ can 4).1, (wA μ can 4).2, nI 4, μ') := by
  obtain ⟨a, ⟨P1, P2⟩, e⟩ := loopF (F := fun k (a : (Int32 × Int32) × Mem) i => X10_who_L68 0 can k a.1.1 a.1.2 (nI i) a.2) (P := fun i a => a.1 = wA μ can i ∧ Sm μ a.2) (n := 4) (r := fun a => (a.1.1, a.1.2, nI 4, a.2)) (by decide) (fun k a i hi P => by
    obtain ⟨b, μa⟩ := a
    obtain ⟨rfl, s⟩ : b = wA μ can i ∧ Sm μ μa := P
    have oa := s.1
    have wa := (W.sm s).2.2.2.2.2
    have wn : nw μa = nw μ := nw_sm s
    have hn := wa.2.2
    show ∃ a', _ ∧ X10_who_L68 0 can (k + 1) (wA μ can i).1 (wA μ can i).2 (nI i) μa = _
    rw [X10_who_L68, if_neg (ge4 hi)]
    by_cases q : bt can i = 0
    · refine ⟨(wA μ can (i + 1), μa), ⟨rfl, s⟩, ?_⟩
      rw [if_pos (by rw [has_z]; exact q), Option.bind_some, nI_add1]
      show _ = X10_who_L68 0 can k (wA μ can (i + 1)).1 (wA μ can (i + 1)).2 (nI (i + 1)) μa
      rw [wA]
      unfold wF
      rw [if_pos q]
    · obtain ⟨c, ⟨sc', hc⟩, ec⟩ := look_ok oa (W.sm s) (p := i) (t := nw μa) (k := 0) (by omega) (by omega) (by omega)
      have se := seam_c sc'.1 ((W.sm s).sm sc') (s := 0) (by decide) (hc 0 (Nat.le_refl _))
      rw [sS_sm sc', sS_odd_sm s, wn] at se
      refine ⟨(wA μ can (i + 1), c), ⟨rfl, s.tr sc'⟩, ?_⟩
      rw [if_neg (by rw [has_z]; exact q), r_0_0 oa, Option.bind_some, gi_0 oa, wa.1, Option.bind_some, vo_1 oa, Option.bind_some, show (0 : Int32) = nI 0 from rfl, ec, Option.bind_some, r_0_0 sc'.1, Option.bind_some, vo_1 sc'.1, Option.bind_some, se, Option.bind_some, Option.bind_some, vo_1 sc'.1, Option.bind_some, se, Option.bind_some, nI_add1]
      show _ = X10_who_L68 0 can k (wA μ can (i + 1)).1 (wA μ can (i + 1)).2 (nI (i + 1)) c
      rw [wA]
      unfold wF
      rw [if_neg q]
      by_cases q2 : nI (sS μ (odd μ i (nw μ) 0)) ≤ (wA μ can i).2
      · rw [if_pos q2, if_pos q2, Option.bind_some]
      · rw [if_neg q2, if_neg q2, Option.bind_some]) (fun k a P => by
    show X10_who_L68 0 can (k + 1) a.1.1 a.1.2 (nI 4) a.2 = _
    rw [X10_who_L68, if_pos (by decide)]) ((-1, -1), μ) ⟨rfl, Sm.rf h⟩
  refine ⟨a.2, P2, ?_⟩
  rw [← P1]
  exact e
theorem who_m {μ : Mem} (h : Ok μ) (W : RelW μ) (can : Int32) : ∃ μ', Sm μ μ' ∧ X11_who_L111 134 can FU (-1) (-1) 0 μ = some ((wA μ can 4).1, (wA μ can 4).2, nI 4, μ') := by
  obtain ⟨a, ⟨P1, P2⟩, e⟩ := loopF (F := fun k (a : (Int32 × Int32) × Mem) i => X11_who_L111 134 can k a.1.1 a.1.2 (nI i) a.2) (P := fun i a => a.1 = wA μ can i ∧ Sm μ a.2) (n := 4) (r := fun a => (a.1.1, a.1.2, nI 4, a.2)) (by decide) (fun k a i hi P => by
    obtain ⟨b, μa⟩ := a
    obtain ⟨rfl, s⟩ : b = wA μ can i ∧ Sm μ μa := P
    have oa := s.1
    have wa := (W.sm s).2.2.2.2.2
    have wn : nw μa = nw μ := nw_sm s
    have hn := wa.2.2
    show ∃ a', _ ∧ X11_who_L111 134 can (k + 1) (wA μ can i).1 (wA μ can i).2 (nI i) μa = _
    rw [X11_who_L111, if_neg (ge4 hi)]
    by_cases q : bt can i = 0
    · refine ⟨(wA μ can (i + 1), μa), ⟨rfl, s⟩, ?_⟩
      rw [if_neg (by rw [bt_1]; omega), Option.bind_some, Option.bind_some, Option.bind_some, nI_add1, if_pos (wA_ge μ can i), if_pos (wA_ge μ can i)]
      show _ = X11_who_L111 134 can k (wA μ can (i + 1)).1 (wA μ can (i + 1)).2 (nI (i + 1)) μa
      rw [wA]
      unfold wF
      rw [if_pos q]
    · obtain ⟨c, ⟨sc', hc⟩, ec⟩ := mseam_ok oa (W.sm s) (p := i) (t := nw μa) (k := 0) (by omega) (by omega) (by omega)
      rw [sS_odd_sm s, wn] at ec
      refine ⟨(wA μ can (i + 1), c), ⟨rfl, s.tr sc'⟩, ?_⟩
      rw [if_pos (by rw [bt_1]; have := bt_le can i; omega), gi_134 oa, wa.2.1, wn, Option.bind_some, vo_134 oa, Option.bind_some, show (0 : Int32) = nI 0 from rfl, ec, Option.bind_some, Option.bind_some, Option.bind_some, Option.bind_some, nI_add1]
      show _ = X11_who_L111 134 can k (wA μ can (i + 1)).1 (wA μ can (i + 1)).2 (nI (i + 1)) c
      rw [wA]
      unfold wF
      rw [if_neg q]
      by_cases q2 : nI (sS μ (odd μ i (nw μ) 0)) ≤ (wA μ can i).2
      · rw [if_pos q2, if_pos q2, if_pos q2]
      · rw [if_neg q2, if_neg q2, if_neg q2]) (fun k a P => by
    show X11_who_L111 134 can (k + 1) a.1.1 a.1.2 (nI 4) a.2 = _
    rw [X11_who_L111, if_pos (by decide)]) ((-1, -1), μ) ⟨rfl, Sm.rf h⟩
  refine ⟨a.2, P2, ?_⟩
  rw [← P1]
  exact e
theorem isT_sm {μ μ' : Mem} (o : Ok μ) (s : Sm μ μ') (x : Int32) : X11_isThing 134 x μ' = X11_isThing 134 x μ := by
  unfold X11_isThing
  rw [gi_134 s.1, gi_134 o, s.fld (a := 134) (k := 12) rfl]
theorem p_who (x1 x2 : Int32) : Pair (X10_who 0 x1 x2) (X11_who 134 x1 x2) := by
  intro μ h
  have h0 := h
  obtain ⟨o, W, hC, hT, hS, hX, hL⟩ := h
  have hn := hT.1.2.2
  rcases gT o hT x1 with ⟨g1, k1⟩ | ⟨g1, k1, t, ht, rfl⟩
  · exact pairR h0 (r := -1001) (by unfold X10_who; simp only [r_0_2 o, vo_37 o, Option.bind_some, g1, if_true]) (by unfold X11_who; simp only [vo_134 o, Option.bind_some, k1, if_true])
  have t10 : t < 10 := by omega
  have e2 : X11_in x2.toInt64 0 1 = X10_within x2 0 1 := in_eq x2 0 1
  by_cases g2 : X10_within x2 0 1 = 0
  · exact pairR h0 (r := -1002) (by unfold X10_who; simp only [r_0_2 o, vo_37 o, Option.bind_some, g1, one0, if_false, g2, if_true]) (by unfold X11_who; simp only [vo_134 o, Option.bind_some, k1, one0, if_false, e2, g2, if_true])
  obtain ⟨w, -, hw, rfl⟩ := win2 (a := 0) (b := 1) (by decide) (by decide) g2
  have f0 := (hT.2.1 0 t (by decide) t10).1
  have main : ∀ can : Int32, ((((if nI w = 1 then (gR 10 2 0 μ).bind fun v11 => (vO 0 v11 μ).bind fun g12 => (X0_personsWith v11 (nI t) μ).bind fun v13 => some (nI (tv μ 0 t) &&& (v13 ^^^ (-1))) else some (nI (tv μ 0 t))) : Option Int32)) = some can) → (∀ μ', Sm μ μ' → ((((if nI w = 0 then (gR 11 13 134 μ').bind fun v9 => (aI v9 (nI t) μ').bind fun v10 => some v10 else (gR 11 13 134 μ').bind fun v7 => (aI v7 (nI t) μ').bind fun v8 => some (v8 &&& (nI (hP μ t (sc μ)) ^^^ (-1)))) : Option Int32)) = some can)) → ∃ r μ1 μ2, X10_who 0 (nI t) (nI w) μ = some (r, μ1) ∧ Ok μ1 ∧ X11_who 134 (nI t) (nI w) μ1 = some (r, μ2) ∧ Inv μ2 := by
    intro can c1 c2
    obtain ⟨a, sa, ea⟩ := who_c o W can
    have Ia := h0.sm sa
    obtain ⟨b, sb, eb⟩ := who_m sa.1 (W.sm sa) can
    refine pairS h0 (r := (wA μ can 4).1) (μ1 := a) (μ2 := b) ?_ sa ?_ sb
    · unfold X10_who
      rw [r_0_2 o, Option.bind_some, vo_37 o, Option.bind_some, g1, Option.bind_some, if_neg (by decide), if_neg g2, Option.bind_some, r_37_0 o, Option.bind_some, ar_things o t10, Option.bind_some, gi_T o t10, f0, Option.bind_some]
      rw [r_0_2 o] at c1
      rw [c1, Option.bind_some, ea, Option.bind_some]
    · unfold X11_who
      rw [vo_134 sa.1, Option.bind_some, isT_sm o sa, k1, Option.bind_some, if_neg (by decide), e2, if_neg g2, had_m sa.1 Ia.2.2.2.2.1, Option.bind_some, hP_sm sa, sc_sm sa, c2 a sa, Option.bind_some, eb, Option.bind_some, wA_sm sa]
  have f0m : ∀ μ', Sm μ μ' → aI 145 (nI t) μ' = some (nI (tv μ 0 t)) := fun μ' s => by
    rw [ai_145 s.1 t10, s.row (a := 145) rfl]
    exact congrArg some (hT.2.1 0 t (by decide) t10).2.1
  rcases (show w = 0 ∨ w = 1 by omega) with rfl | rfl
  · refine main (nI (tv μ 0 t)) (if_neg (by decide)) (fun μ' s => ?_)
    rw [if_pos (by rfl), r_134_13 s.1, Option.bind_some, f0m μ' s, Option.bind_some]
  · refine main (nI (tv μ 0 t) &&& (nI (hP μ t (sc μ)) ^^^ (-1))) ?_ (fun μ' s => ?_)
    · rw [if_pos (by rfl), r_0_2 o, Option.bind_some, vo_37 o, Option.bind_some, had_c o hS, Option.bind_some]
    · rw [if_neg (by decide), r_134_13 s.1, Option.bind_some, f0m μ' s, Option.bind_some]
