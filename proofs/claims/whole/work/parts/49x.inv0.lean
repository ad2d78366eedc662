/-! ===== the invariant holds behind the two constructors ===== -/
theorem R0_out {a : Nat} (h : 175 ≤ a) (k : Nat) : R0 a k = none := by
  obtain ⟨d, rfl⟩ : ∃ d, a = d + 175 := ⟨a - 175, by omega⟩
  rfl
theorem R0_hi (a : Nat) {k : Nat} (h : 64 ≤ k) : R0 a k = none := by
  obtain ⟨d, rfl⟩ : ∃ d, k = d + 64 := ⟨k - 64, by omega⟩
  unfold R0
  split
  all_goals first
    | exact if_neg (by omega)
    | rfl
theorem R0_q : all' (fun a => !quiet (S0 a) || all' (fun k => decide (R0 a k = none)) 64) 175 = true := by decide +kernel
theorem S0_out {a : Nat} (h : 175 ≤ a) : S0 a = (9, 0) := by
  obtain ⟨d, rfl⟩ : ∃ d, a = d + 175 := ⟨a - 175, by omega⟩
  rfl
theorem m9_some : ∃ μ, m9 = some μ := by
  have := ch_N
  cases e : m9 with
  | none =>
    rw [e] at this
    cases this
  | some μ => exact ⟨μ, rfl⟩
theorem frE : FrI mE := ⟨fun _ _ => rfl, fun _ _ _ => rfl⟩
theorem m9_fr {μ : Mem} (h : m9 = some μ) : FrI μ := by
  unfold m9 at h
  obtain ⟨μ1, h1, h⟩ := bindE h
  obtain ⟨μ3, h3, h⟩ := bindE h
  obtain ⟨μ4, h4, h⟩ := bindE h
  exact fr_X11_init h (fr_nO h4 (fr_X10_init h3 (fr_nO h1 frE)))
theorem m9_ok {μ : Mem} (h : m9 = some μ) : Ok μ := by
  have f := m9_fr h
  have cN := ch_N
  have cS := ch_S
  have cR := ch_R
  have cD := ch_D
  rw [h] at cN cS cR cD
  have eN : mN μ = 175 := eq_of_beq cN
  have cS : chS μ = true := cS
  have cR : chR μ = true := cR
  have cD : chD μ = true := cD
  have eS : mS μ = S0 := funext fun a => by
    by_cases z : a < 175
    · exact of_decide_eq_true (all_sp cS a z)
    · rw [f.1 a (by omega), S0_out (by omega)]
  have eR : ∀ a k, dynR a k = false → mR μ a k = R0 a k := fun a k hd => by
    by_cases z : 175 ≤ a
    · rw [f.2 a k (Or.inl (by omega)), R0_out z]
    · by_cases z2 : 64 ≤ k
      · rw [f.2 a k (Or.inr (Or.inl z2)), R0_hi a z2]
      · by_cases z3 : quiet (S0 a) = true
        · rw [f.2 a k (Or.inr (Or.inr (by rw [eS]; exact z3)))]
          have := all_sp R0_q a (by omega)
          rw [z3, Bool.not_true, Bool.false_or] at this
          exact (of_decide_eq_true (all_sp this k (by omega))).symm
        · have := all_sp cR a (by omega)
          rw [Bool.or_eq_true] at this
          rcases this with w | w
          · exact absurd w z3
          · have := all_sp w k (by omega)
            rw [hd, Bool.false_or] at this
            exact of_decide_eq_true this
  unfold chD at cD
  rw [Bool.and_eq_true, Bool.and_eq_true, Bool.and_eq_true, decide_eq_true_eq, decide_eq_true_eq, decide_eq_true_eq] at cD
  obtain ⟨d1, d2, d3, d4⟩ := cD
  have d4 : ∀ p, p < 4 → mR μ 92 p = some (114 + 5 * p) := fun p hp => of_decide_eq_true (all_sp d4 p hp)
  have wA : wtA μ = 28 := by unfold wtA; rw [d1]; rfl
  have wB : wtB μ = 29 := by unfold wtB; rw [d2]; rfl
  have sA : spA μ = 109 := by unfold spA; rw [d3]; rfl
  have lA : ∀ p, p < 4 → lwA μ p = 114 + 5 * p := fun p hp => by unfold lwA; rw [d4 p hp]; rfl
  refine ⟨eN, eS, eR, ⟨by rw [wA]; exact d1, by rw [wB]; exact d2, Or.inl ⟨wA, wB⟩⟩, ⟨fun p hp => ⟨by rw [lA p hp]; exact d4 p hp, ?_⟩, by rw [sA]; exact d3, ?_, fun p q hp hq e => ?_, fun p hp e => ?_⟩⟩
  · rw [lA p hp]
    unfold isLw
    omega
  · rw [sA]
    unfold isLw
    omega
  · rw [lA p hp, lA q hq] at e
    omega
  · rw [lA p hp, sA] at e
    omega
theorem m9_inv {μ : Mem} (h : m9 = some μ) : Inv μ := by
  have o := m9_ok h
  have cD := ch_D
  have c1 := ch_W1
  have c2 := ch_W2
  have c3 := ch_W3
  have c4 := ch_W4
  have c5 := ch_W5
  have c6 := ch_W6
  have d1 := ch_C1
  have d2 := ch_C2
  have t1 := ch_T1
  have t2 := ch_T2
  have s1 := ch_S1
  have s2 := ch_S2
  have x1 := ch_X1
  have x2 := ch_X2
  have l1 := ch_L
  rw [h] at cD c1 c2 c3 c4 c5 c6 d1 d2 t1 t2 s1 s2 x1 x2 l1
  have t1 : mI μ 37 2 = nI (tn μ) ∧ mI μ 134 12 = nI (tn μ) ∧ tn μ ≤ 10 := of_decide_eq_true t1
  have s1 : mI μ 37 3 = nI (sc μ) ∧ mI μ 134 45 = nI (sc μ) ∧ sc μ ≤ 40 := of_decide_eq_true s1
  have x1 : (mI μ 90 0 = nI (tl μ) ∧ mI μ 134 34 = nI (tl μ) ∧ tl μ ≤ 160) ∧ mI μ 90 2 = mI μ 134 35 := of_decide_eq_true x1
  have c6 : mI μ 0 10 = nI (nw μ) ∧ mI μ 134 5 = nI (nw μ) ∧ nw μ ≤ 60 := of_decide_eq_true c6
  have c4 : mI μ 1 5 = ss μ ∧ ss μ = nI 0 := of_decide_eq_true c4
  have t2 : ∀ c t, c < 9 → t < 10 → mI μ (40 + t) c = nI (tv μ c t) ∧ mI μ (145 + c) t = nI (tv μ c t) ∧ tv μ c t = 0 := fun c t hc ht => of_decide_eq_true (all_sp (all_sp t2 c hc) t ht)
  have s2 : ∀ c s, c < 5 → s < 40 → mI μ (50 + s) c = nI (sv μ c s) ∧ mI μ (170 + c) s = nI (sv μ c s) ∧ sv μ c s = 0 := fun c s hc hs => of_decide_eq_true (all_sp (all_sp s2 c hc) s hs)
  have cD : chD μ = true := cD
  unfold chD at cD
  rw [Bool.and_eq_true, Bool.and_eq_true, Bool.and_eq_true] at cD
  have lA : ∀ p, p < 4 → lwA μ p = 114 + 5 * p := fun p hp => by
    have e : mR μ 92 p = some (114 + 5 * p) := of_decide_eq_true (all_sp cD.2.2.2 p hp)
    unfold lwA
    rw [e]
    rfl
  have l1 : ∀ p, p < 4 → mI μ (114 + 5 * p) 0 = nI (lc μ p) ∧ mI μ 156 p = nI (lc μ p) ∧ lc μ p = 0 := fun p hp => of_decide_eq_true (all_sp l1 p hp)
  refine ⟨o, ⟨fun i j hi hj => of_decide_eq_true (all_sp (all_sp c1 i hi) j hj), fun i j hi hj => of_decide_eq_true (all_sp (all_sp c2 i hi) j hj), fun i hi => of_decide_eq_true (all_sp c3 i hi), ⟨c4.1, 0, by omega, c4.2⟩, fun p t hp ht => ?_, c6⟩, ⟨fun w s hw hs => of_decide_eq_true (all_sp (all_sp d1 w hw) s hs), fun w hw => of_decide_eq_true (all_sp d2 w hw)⟩, ⟨t1, fun c t hc ht => ?_, fun t ht => ?_, fun t _ ht => (t2 8 t (by decide) ht).2.2⟩, ⟨s1, fun c s hc hs => ?_, fun s hs => ?_, fun s _ hs => (s2 4 s (by decide) hs).2.2⟩, ⟨x1.1, fun k hk => of_decide_eq_true (all_sp x2 k hk), x1.2⟩, fun p hp => ?_⟩
  · have : mI μ (14 + p) t = sg μ p t ∧ sg μ p t = -1 := of_decide_eq_true (all_sp (all_sp c5 p hp) t ht)
    exact ⟨this.1, Or.inl this.2⟩
  · obtain ⟨w1, w2, w3⟩ := t2 c t hc ht
    exact ⟨w1, w2, by omega⟩
  · have := (t2 7 t (by decide) ht).2.2
    omega
  · obtain ⟨w1, w2, w3⟩ := s2 c s hc hs
    exact ⟨w1, w2, by omega⟩
  · have := (s2 3 s (by decide) hs).2.2
    omega
  · obtain ⟨w1, w2, w3⟩ := l1 p hp
    rw [lA p hp]
    exact ⟨⟨w1, w2, by omega⟩, fun k hk => by omega⟩
theorem law_ok {xs : Nat → Int32} {nx : Nat} (hx : nx ≤ 4096) : ∃ μ9, L_law xs nx mE = some (1, μ9) := by
  obtain ⟨μ, h⟩ := m9_some
  have I := m9_inv h
  obtain ⟨μ9, e⟩ := law18 (xs := xs) hx 513 (99999 - 513) 0 μ (by omega) (by omega) I
  refine ⟨μ9, ?_⟩
  unfold m9 at h
  obtain ⟨μ1, h1, h⟩ := bindE h
  obtain ⟨μ3, h3, h⟩ := bindE h
  obtain ⟨μ4, h4, h⟩ := bindE h
  have n1 : mN μ1 = 1 := by
    obtain ⟨-, rfl⟩ := ifS h1
    rfl
  have n4 : mN μ4 = 135 := by
    obtain ⟨w, rfl⟩ := ifS h4
    show mN μ3 + 1 = 135
    omega
  have h1 : nO 10 (mN mE + 0) mE = some μ1 := h1
  have h3 : X10_init (mN mE + 0) μ1 = some μ3 := h3
  have h4 : nO 11 (mN mE + 134) μ3 = some μ4 := h4
  have h : X11_init (mN mE + 134) μ4 = some μ := h
  have g1 : gN (mN mE + 1) μ1 = some () := if_pos n1
  have g4 : gN (mN mE + 135) μ4 = some () := if_pos n4
  unfold L_law
  rw [h1, Option.bind_some, g1, Option.bind_some, h3, Option.bind_some, h4, Option.bind_some, g4, Option.bind_some, h, Option.bind_some]
  exact e
