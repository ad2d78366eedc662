/-! ===== came, saying ===== -/
theorem one0 : ((1 : Int32) = 0) = False := by decide
theorem p_came (x1 x2 : Int32) : Pair (X10_came 0 x1 x2) (X11_came 134 x1 x2) := by
  intro μ h
  have h0 := h
  obtain ⟨o, W, hC, hT, hS, hX, hL⟩ := h
  have hn := hS.1.2.2
  rcases gS o hS x1 with ⟨g1, k1⟩ | ⟨g1, k1, t, ht, rfl⟩
  · exact pairR h0 (r := -1001) (by unfold X10_came; simp only [r_0_2 o, vo_37 o, Option.bind_some, g1, if_true]) (by unfold X11_came; simp only [vo_134 o, Option.bind_some, k1, if_true])
  have e2 : X11_in x2.toInt64 1 3 = X10_within x2 1 3 := in_eq x2 1 3
  by_cases g2 : X10_within x2 1 3 = 0
  · exact pairR h0 (r := -1002) (by unfold X10_came; simp only [r_0_2 o, vo_37 o, Option.bind_some, g1, one0, if_false, g2, if_true]) (by unfold X11_came; simp only [vo_134 o, Option.bind_some, k1, one0, if_false, e2, g2, if_true])
  obtain ⟨y, y1, y3, rfl⟩ := win2 (a := 1) (b := 3) (by decide) (by decide) g2
  have t40 : t < 40 := by omega
  have f4 := (hS.2.1 4 t (by decide) t40).1
  have m4 : mI μ 174 t = nI (sv μ 4 t) := (hS.2.1 4 t (by decide) t40).2.1
  have b4 : sv μ 4 t ≤ 3 := (hS.2.1 4 t (by decide) t40).2.2
  have c4 : (nI (sv μ 4 t) = 0) = (sv μ 4 t = 0) := propext (nI_eq (b := 0) (by omega) (by decide))
  have d4 : (nI (sv μ 4 t) ≤ 0) = (sv μ 4 t = 0) := nI_0le (by omega)
  by_cases q : sv μ 4 t = 0
  · have o1 : Ok (wI μ (50 + t) 4 (nI y)) := o
    have o2 : Ok (wI (wI μ (50 + t) 4 (nI y)) 174 t (nI y)) := o
    refine ⟨0, wI μ (50 + t) 4 (nI y), wI (wI μ (50 + t) 4 (nI y)) 174 t (nI y), ?_, o, ?_, ?_⟩
    · unfold X10_came
      simp only [r_0_2 o, vo_37 o, Option.bind_some, g1, one0, if_false, g2, r_37_1 o, ar_sayings o t40, gi_S o t40, f4, c4, nI_0, q, if_true, pi_S o t40]
    · have k1a : X11_isSaying 134 (nI t) (wI μ (50 + t) 4 (nI y)) = X11_isSaying 134 (nI t) μ := by
        unfold X11_isSaying
        rw [gi_134 o1, gi_134 o, row_ne (by omega)]
      have m4' : mI (wI μ (50 + t) 4 (nI y)) 174 t = 0 := by
        rw [row_ne (by omega), m4, q, nI_0]
      unfold X11_came
      simp only [vo_134 o1, Option.bind_some, k1a, k1, one0, if_false, e2, g2, r_134_50 o1, ai_174 o1 t40, m4', show ((0 : Int32) ≤ 0) = True from by decide, if_true, si_174 o1 t40]
    · refine h0.setS o rfl (fun a k q1 q2 q3 q4 => ?_) (RelS.mk' (n := sc μ) (fun c t' => if c = 4 ∧ t' = t then y else sv μ c t') ?_ ?_ hn (fun c t' hc ht' => ?_) (fun t' ht' => ?_) (fun t' q1 ht' => ?_))
      · rw [fld_ne (by omega), fld_ne (by omega)]
      · rw [row_ne (by omega), row_ne (by omega)]
        exact hS.1.1
      · rw [row_ne (by omega), row_ne (by omega)]
        exact hS.1.2.1
      · obtain ⟨z1, z2, z3⟩ := hS.2.1 c t' hc ht'
        by_cases z : c = 4 ∧ t' = t
        · obtain ⟨rfl, rfl⟩ := z
          simp only [and_self, if_true]
          rw [row_ne (by omega), fld_eq, fld_eq]
          exact ⟨rfl, rfl, y3⟩
        · rw [if_neg z, row_ne (by omega), fld_ne (by omega), fld_ne (by omega), row_ne (by omega)]
          exact ⟨z1, z2, z3⟩
      · rw [if_neg (by omega)]
        unfold nw
        rw [row_ne (by omega), row_ne (by omega)]
        exact hS.2.2.1 t' ht'
      · rw [if_neg (by omega)]
        exact hS.2.2.2 t' q1 ht'
  · refine pairR h0 (r := -1003) ?_ ?_
    · unfold X10_came
      simp only [r_0_2 o, vo_37 o, Option.bind_some, g1, one0, if_false, g2, r_37_1 o, ar_sayings o t40, gi_S o t40, f4, c4, q]
    · unfold X11_came
      simp only [vo_134 o, Option.bind_some, k1, one0, if_false, e2, g2, r_134_50 o, ai_174 o t40, m4, d4, q]
/-- the DEAD ones of the first n -/
def dS (μ : Mem) : Nat → Nat
  | 0 => 0
  | n + 1 => if tv μ 8 n = 0 then dS μ n else dS μ n ||| 2 ^ n
theorem dS_lt (μ : Mem) : ∀ n, dS μ n < 2 ^ n
  | 0 => Nat.zero_lt_one
  | n + 1 => by
    have h := dS_lt μ n
    unfold dS
    split
    · exact Nat.lt_trans h (Nat.pow_lt_pow_right (by decide) (by omega))
    · exact or_put_lt (Nat.lt_trans h (Nat.pow_lt_pow_right (by decide) (by omega))) (by omega)
theorem dS_sm {μ μ' : Mem} (s : Sm μ μ') : ∀ n, dS μ' n = dS μ n
  | 0 => rfl
  | n + 1 => by
    unfold dS
    rw [dS_sm s n, tv_sm s (by decide)]
theorem dead_c {μ : Mem} (h : Ok μ) (T : RelT μ) : X0_deadThings 37 μ = some (nI (dS μ (tn μ))) := by
  have hn := T.1.2.2
  obtain ⟨a, P, e⟩ := loopF (F := fun k (a : Nat) i => X0_deadThings_L4 37 μ k (nI a) (nI i)) (P := fun i a => a = dS μ i) (n := tn μ) (r := fun a => (nI a, nI (tn μ))) (by omega) (fun k a i hi P => by
    subst P
    have i10 : i < 10 := by omega
    have f8 := (T.2.1 8 i (by decide) i10).1
    have b8 : tv μ 8 i ≤ 1 := (T.2.1 8 i (by decide) i10).2.2
    have c8 : nI (tv μ 8 i) = 0 ↔ tv μ 8 i = 0 := nI_eq (b := 0) (by omega) (by decide)
    refine ⟨_, rfl, ?_⟩
    show X0_deadThings_L4 37 μ (k + 1) (nI (dS μ i)) (nI i) = X0_deadThings_L4 37 μ k (nI (dS μ (i + 1))) (nI (i + 1))
    rw [X0_deadThings_L4, gi_37 h, T.1.1, Option.bind_some, if_neg (nI_ge hi (by omega)), r_37_0 h, Option.bind_some, ar_things h i10, Option.bind_some, gi_T h i10, f8, Option.bind_some, Option.bind_some, nI_add1, or_put (by omega)]
    rw [dS]
    by_cases q : tv μ 8 i = 0
    · rw [if_pos (c8.mpr q), if_pos q]
    · rw [if_neg (fun z => q (c8.mp z)), if_neg q]) (fun k a P => by
    show X0_deadThings_L4 37 μ (k + 1) (nI a) (nI (tn μ)) = _
    rw [X0_deadThings_L4, gi_37 h, T.1.1, Option.bind_some, if_pos (nI_le (Nat.le_refl _) (by omega))]) 0 rfl
  subst P
  have e : X0_deadThings_L4 37 μ FU 0 0 = _ := e
  unfold X0_deadThings
  rw [e, Option.bind_some]
theorem dead_m {μ : Mem} (h : Ok μ) (T : RelT μ) (set : Nat) : X11_deadOf 134 (nI set) μ = some (nI (set &&& dS μ (tn μ))) := by
  have hn := T.1.2.2
  obtain ⟨a, P, e⟩ := loopF (F := fun k (a : Nat) i => X11_deadOf_L4 134 (nI set) μ k (nI a) (nI i)) (P := fun i a => a = set &&& dS μ i) (n := tn μ) (r := fun a => (nI a, nI (tn μ))) (by omega) (fun k a i hi P => by
    subst P
    have i10 : i < 10 := by omega
    have f8 : mI μ 153 i = nI (tv μ 8 i) := (T.2.1 8 i (by decide) i10).2.1
    have b8 : tv μ 8 i ≤ 1 := (T.2.1 8 i (by decide) i10).2.2
    have c8 : nI (tv μ 8 i) = 0 ↔ tv μ 8 i = 0 := nI_eq (b := 0) (by omega) (by decide)
    refine ⟨_, rfl, ?_⟩
    show X11_deadOf_L4 134 (nI set) μ (k + 1) (nI (set &&& dS μ i)) (nI i) = X11_deadOf_L4 134 (nI set) μ k (nI (set &&& dS μ (i + 1))) (nI (i + 1))
    rw [X11_deadOf_L4, gi_134 h, T.1.2.1, Option.bind_some, if_neg (nI_ge hi (by omega)), r_134_21 h, Option.bind_some, az_153 h i10, f8, Option.bind_some, Option.bind_some, Option.bind_some, nI_add1, sh31 i (by omega), fa_and]
    rw [dS]
    by_cases q : tv μ 8 i = 0
    · rw [if_pos (c8.mpr q), if_pos q, Int32.or_zero]
    · rw [if_neg (fun z => q (c8.mp z)), if_neg q, fa_or, Nat.and_or_distrib_left]) (fun k a P => by
    show X11_deadOf_L4 134 (nI set) μ (k + 1) (nI a) (nI (tn μ)) = _
    rw [X11_deadOf_L4, gi_134 h, T.1.2.1, Option.bind_some, if_pos (nI_le (Nat.le_refl _) (by omega))]) 0 (show 0 = set &&& 0 from (Nat.and_zero _).symm)
  subst P
  have e : X11_deadOf_L4 134 (nI set) μ FU 0 0 = _ := e
  unfold X11_deadOf
  rw [e, Option.bind_some]
theorem p_saying (x1 x2 : Int32) : PairV (X10_saying 0 x1 x2) (X11_saying 134 x1 x2) := by
  intro μ ⟨o, W, hC, hT, hS, hX, hL⟩
  have hn := hS.1.2.2
  unfold X10_saying X11_saying
  simp only [r_0_2 o, vo_37 o, vo_134 o, Option.bind_some]
  rcases gS o hS x1 with ⟨g1, k1⟩ | ⟨g1, k1, t, ht, rfl⟩
  · rw [g1, k1]
    exact ⟨_, rfl, rfl⟩
  · have t40 : t < 40 := by omega
    have f := fun c hc => (hS.2.1 c t hc t40).1
    have m0 := (hS.2.1 0 t (by decide) t40).2.1
    have m1 := (hS.2.1 1 t (by decide) t40).2.1
    have m2 := (hS.2.1 2 t (by decide) t40).2.1
    have m3 := (hS.2.1 3 t (by decide) t40).2.1
    have m4 := (hS.2.1 4 t (by decide) t40).2.1
    rw [g1, k1]
    simp only [r_37_1 o, ar_sayings o t40, gi_S o t40, r_134_46 o, r_134_47 o, r_134_48 o, r_134_49 o, r_134_50 o, ai_170 o t40, ai_171 o t40, ai_172 o t40, ai_173 o t40, ai_174 o t40, Option.bind_some, f 0 (by decide), f 1 (by decide), f 2 (by decide), f 3 (by decide), f 4 (by decide), m0, m1, m2, m3, m4, dead_c o hT, dead_m o hT, fa_and]
    repeat' split
    all_goals exact ⟨_, rfl, rfl⟩
