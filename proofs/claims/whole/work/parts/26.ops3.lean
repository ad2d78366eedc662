theorem gdm (x : Int32) : (X10_within x (-1) 3 = 0 ∧ X11_in x.toInt64 (-1) 3 = 0) ∨ (¬ X10_within x (-1) 3 = 0 ∧ ¬ X11_in x.toInt64 (-1) 3 = 0 ∧ (x = -1 ∨ ∃ s, s < 4 ∧ x = nI s)) := by
  have e : X11_in x.toInt64 (-1) 3 = X10_within x (-1) 3 := in_eq x (-1) 3
  rw [e]
  by_cases h : X10_within x (-1) 3 = 0
  · exact Or.inl ⟨h, h⟩
  · refine Or.inr ⟨h, h, ?_⟩
    unfold X10_within at h
    split at h
    · exact absurd rfl h
    · split at h
      · exact absurd rfl h
      · rename_i h1 h2
        by_cases q : x < 0
        · left
          have a1 : (-1 : Int) ≤ x.toInt := by
            rw [Int32.lt_iff_toInt_lt] at h1
            have : (-1 : Int32).toInt = -1 := rfl
            omega
          have a2 : x.toInt < 0 := by
            rw [Int32.lt_iff_toInt_lt] at q
            have : (0 : Int32).toInt = 0 := rfl
            omega
          apply Int32.toInt_inj.mp
          have : (-1 : Int32).toInt = -1 := rfl
          omega
        · right
          obtain ⟨s, hs, e⟩ := win (n := 3) (by decide) q h2
          exact ⟨s, by omega, e⟩
theorem p_sign (x1 x2 : Int32) : Pair (X10_sign 0 x1 x2) (X11_sign 134 x1 x2) := by
  intro μ h
  have h0 := h
  obtain ⟨o, ⟨w1, w2, w3, w4, w5, w6⟩, hC, hT, hS, hX, hL⟩ := h
  rcases gd x1 3 (by decide) with ⟨g0, k0⟩ | ⟨g0, k0, p, hp, rfl⟩
  · exact pairR h0 (by unfold X10_sign; rw [if_pos (show X10_isPerson x1 = 0 from g0)]) (by unfold X11_sign; rw [if_pos (show X11_isPerson x1 = 0 from k0)])
  rcases gdm x2 with ⟨g2, k2⟩ | ⟨g2, k2, hx⟩
  · exact pairR h0 (by unfold X10_sign; rw [if_neg (show ¬ X10_isPerson (nI p) = 0 from g0), if_pos g2]) (by unfold X11_sign; rw [if_neg (show ¬ X11_isPerson (nI p) = 0 from k0), if_pos k2])
  have o1 : Ok (wI μ (14 + p) (nw μ) x2) := o
  have hn := w6.2.2
  refine ⟨1, wI μ (14 + p) (nw μ) x2, wI (wI μ (14 + p) (nw μ) (x2)) (138) (61 * p + nw μ) (x2), ?_, o, ?_, ?_⟩
  · unfold X10_sign
    rw [if_neg (show ¬ X10_isPerson (nI p) = 0 from g0), if_neg g2, r_0_0 o, Option.bind_some, r_1_3 o, Option.bind_some, ar_signs o (by omega), Option.bind_some, gI_eq (a := 0) o (by decide) rfl, w6.1, Option.bind_some, exch o (by omega) (s_signs (by omega)) (by omega) (by decide), Option.bind_some]
  · unfold X11_sign
    rw [if_neg (show ¬ X11_isPerson (nI p) = 0 from k0), if_neg k2, r_134_4 o1, Option.bind_some, gI_eq (a := 134) o1 (by decide) rfl, row_ne (by omega), w6.2.1, Option.bind_some, show (61 : Int32) = nI 61 from rfl, pk_mul, nI_add, sI_eq (a := 138) o1 (by decide) rfl (by omega) (by decide), Option.bind_some]
  · skip
    have ln : ∀ a k, ¬ (a = 14 + p ∧ k = nw μ) → ¬ (a = 138 ∧ k = 61 * p + nw μ) → mI (wI (wI μ (14 + p) (nw μ) (x2)) (138) (61 * p + nw μ) (x2)) a k = mI μ a k := fun a k q1 q2 => by rw [fld_ne q2, fld_ne q1]
    have rn : ∀ a, a ≠ 14 + p → a ≠ 138 → mI (wI (wI μ (14 + p) (nw μ) (x2)) (138) (61 * p + nw μ) (x2)) a = mI μ a := fun a q1 q2 => by rw [row_ne q2, row_ne q1]
    refine ⟨o, ⟨w1.cg (fun q hq => rn _ (by omega) (by omega)) (rn _ (by omega) (by omega)), w2.cg (fun q hq => rn _ (by omega) (by omega)) (rn _ (by omega) (by omega)), w3.cg (rn _ (by omega) (by omega)) (rn _ (by omega) (by omega)), w4.cg (ln _ _ (by omega) (by omega)) (ln _ _ (by omega) (by omega)), ?_, w6.cg (ln _ _ (by omega) (by omega)) (ln _ _ (by omega) (by omega))⟩, hC.cg (fun q hq => rn _ (by omega) (by omega)) (rn _ (by omega) (by omega)) (rn _ (by omega) (by omega)) (rn _ (by omega) (by omega)), hT.cg (ln _ _ (by omega) (by omega)) (ln _ _ (by omega) (by omega)) (fun q hq => rn _ (by omega) (by omega)) (fun q hq => rn _ (by omega) (by omega)) (nw_le (ln 134 5 (by omega) (by omega))), hS.cg (ln _ _ (by omega) (by omega)) (ln _ _ (by omega) (by omega)) (fun q hq => rn _ (by omega) (by omega)) (fun q hq => rn _ (by omega) (by omega)) (nw_le (ln 134 5 (by omega) (by omega))), hX.cg (ln _ _ (by omega) (by omega)) (ln _ _ (by omega) (by omega)) (rn _ (by omega) (by omega)) (rn _ (by omega) (by omega)) (ln _ _ (by omega) (by omega)) (ln _ _ (by omega) (by omega)), hL.cg o rfl (fun l c hl hc => rn _ (by unfold isLw at hl; omega) (by unfold isLw at hl; omega)) (fun c hc => rn _ (by omega) (by omega))⟩
    intro p' t hp' ht
    have em : sg (wI (wI μ (14 + p) (nw μ) (x2)) (138) (61 * p + nw μ) (x2)) p' t = if p' = p ∧ t = nw μ then x2 else sg μ p' t := by
      unfold sg
      by_cases q : p' = p ∧ t = nw μ
      · obtain ⟨rfl, rfl⟩ := q
        rw [fld_eq, if_pos ⟨rfl, rfl⟩]
      · rw [fld_ne (fun z => q (by omega)), row_ne (by omega), if_neg q]
    rw [em]
    by_cases q : p' = p ∧ t = nw μ
    · obtain ⟨rfl, rfl⟩ := q
      rw [if_pos ⟨rfl, rfl⟩, row_ne (by omega), fld_eq]
      exact ⟨rfl, hx⟩
    · rw [if_neg q, row_ne (by omega), fld_ne (fun z => q (by omega))]
      exact w5 p' t hp' ht

theorem p_go (x1 : Int32) : Pair (X10_go 0 x1) (X11_go 134 x1) := by
  intro μ h
  have h0 := h
  obtain ⟨o, ⟨w1, w2, w3, w4, w5, w6⟩, hC, hT, hS, hX, hL⟩ := h
  rcases gd x1 20 (by decide) with ⟨g0, k0⟩ | ⟨g0, k0, n, hn, rfl⟩
  · exact pairR h0 (by unfold X10_go; rw [if_pos (show X10_within x1 0 20 = 0 from g0)]) (by unfold X11_go; rw [if_pos (show X11_in (x1).toInt64 0 20 = 0 from k0)])
  have hw := w6.2.2
  by_cases q : nw μ + n ≤ 60
  · have cnd : nI (nw μ) + nI n ≤ 60 := by
      rw [nI_add, show (60 : Int32) = nI 60 from rfl, n_le (by omega) (by decide)]
      exact q
    have o1 : Ok (wI μ 0 10 (nI (nw μ + n))) := o
    have o2 : Ok (wI (wI μ (0) (10) (nI (nw μ + n))) (134) (5) (nI (nw μ + n))) := o
    refine ⟨nI (nw μ + n), wI μ 0 10 (nI (nw μ + n)), wI (wI μ (0) (10) (nI (nw μ + n))) (134) (5) (nI (nw μ + n)), ?_, o, ?_, ?_⟩
    · unfold X10_go
      rw [if_neg (show ¬ X10_within (nI n) 0 20 = 0 from g0), gI_eq (a := 0) o (by decide) rfl, w6.1, Option.bind_some, if_pos cnd, Option.bind_some, nI_add, pI_eq (a := 0) o (by decide) rfl, Option.bind_some, gI_eq (a := 0) o1 (by decide) rfl, Option.bind_some, fld_eq]
    · unfold X11_go
      rw [if_neg (show ¬ X11_in ((nI n)).toInt64 0 20 = 0 from k0), gI_eq (a := 134) o1 (by decide) rfl, row_ne (by omega), w6.2.1, Option.bind_some, if_pos cnd, Option.bind_some, nI_add, pI_eq (a := 134) o1 (by decide) rfl, Option.bind_some, gI_eq (a := 134) o2 (by decide) rfl, Option.bind_some, fld_eq]
    · skip
      have ln : ∀ a k, ¬ (a = 0 ∧ k = 10) → ¬ (a = 134 ∧ k = 5) → mI (wI (wI μ (0) (10) (nI (nw μ + n))) (134) (5) (nI (nw μ + n))) a k = mI μ a k := fun a k q1 q2 => by rw [fld_ne q2, fld_ne q1]
      have rn : ∀ a, a ≠ 0 → a ≠ 134 → mI (wI (wI μ (0) (10) (nI (nw μ + n))) (134) (5) (nI (nw μ + n))) a = mI μ a := fun a q1 q2 => by rw [row_ne q2, row_ne q1]
      have em : nw (wI (wI μ (0) (10) (nI (nw μ + n))) (134) (5) (nI (nw μ + n))) = nw μ + n := by
        show vN (mI (wI (wI μ (0) (10) (nI (nw μ + n))) (134) (5) (nI (nw μ + n))) 134 5) = _
        rw [fld_eq, vN_nI (by omega)]
      refine ⟨o, ⟨w1.cg (fun q hq => rn _ (by omega) (by omega)) (rn _ (by omega) (by omega)), w2.cg (fun q hq => rn _ (by omega) (by omega)) (rn _ (by omega) (by omega)), w3.cg (rn _ (by omega) (by omega)) (rn _ (by omega) (by omega)), w4.cg (ln _ _ (by omega) (by omega)) (ln _ _ (by omega) (by omega)), w5.cg (fun q hq => rn _ (by omega) (by omega)) (rn _ (by omega) (by omega)), ?_⟩, hC.cg (fun q hq => rn _ (by omega) (by omega)) (rn _ (by omega) (by omega)) (rn _ (by omega) (by omega)) (rn _ (by omega) (by omega)), hT.cg (ln _ _ (by omega) (by omega)) (ln _ _ (by omega) (by omega)) (fun q hq => rn _ (by omega) (by omega)) (fun q hq => rn _ (by omega) (by omega)) (by rw [em]; omega), hS.cg (ln _ _ (by omega) (by omega)) (ln _ _ (by omega) (by omega)) (fun q hq => rn _ (by omega) (by omega)) (fun q hq => rn _ (by omega) (by omega)) (by rw [em]; omega), hX.cg (ln _ _ (by omega) (by omega)) (ln _ _ (by omega) (by omega)) (rn _ (by omega) (by omega)) (rn _ (by omega) (by omega)) (ln _ _ (by omega) (by omega)) (ln _ _ (by omega) (by omega)), hL.cg o rfl (fun l c hl hc => rn _ (by unfold isLw at hl; omega) (by unfold isLw at hl; omega)) (fun c hc => rn _ (by omega) (by omega))⟩
      refine ⟨?_, ?_, by rw [em]; exact q⟩
      · rw [em, row_ne (by omega), fld_eq]
      · rw [em, fld_eq]
  · have cnd : ¬ nI (nw μ) + nI n ≤ 60 := by
      rw [nI_add, show (60 : Int32) = nI 60 from rfl, n_le (by omega) (by decide)]
      exact q
    exact pairR h0 (by unfold X10_go; rw [if_neg (show ¬ X10_within (nI n) 0 20 = 0 from g0), gI_eq (a := 0) o (by decide) rfl, w6.1, Option.bind_some, if_neg cnd]) (by unfold X11_go; rw [if_neg (show ¬ X11_in ((nI n)).toInt64 0 20 = 0 from k0), gI_eq (a := 134) o (by decide) rfl, w6.2.1, Option.bind_some, if_neg cnd])
