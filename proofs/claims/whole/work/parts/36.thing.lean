/-! ===== thing, came, saying ===== -/
theorem Ok_wI {μ : Mem} {a k : Nat} {v : Int32} : Ok (wI μ a k v) = Ok μ := rfl
theorem p_thing (x1 x2 x3 x4 x5 x6 x7 : Int32) : Pair (X10_thing 0 x1 x2 x3 x4 x5 x6 x7) (X11_thing 134 x1 x2 x3 x4 x5 x6 x7) := by
  intro μ h
  have h0 := h
  obtain ⟨o, W, hC, hT, hS, hX, hL⟩ := h
  have hn := hT.1.2.2
  have w6 := W.2.2.2.2.2
  have e0 : X11_in x1.toInt64 1 15 = X10_within x1 1 15 := in_eq x1 1 15
  by_cases g0 : X10_within x1 1 15 = 0
  · exact pairR h0 (r := -1001) (by unfold X10_thing; rw [if_pos g0]) (by unfold X11_thing; rw [e0, if_pos g0])
  have e1 : X11_in x2.toInt64 0 3 = X10_within x2 0 3 := in_eq x2 0 3
  by_cases g1 : X10_within x2 0 3 = 0
  · exact pairR h0 (r := -1002) (by unfold X10_thing; rw [if_neg g0, if_pos g1]) (by unfold X11_thing; rw [e0, if_neg g0, e1, if_pos g1])
  have e2 : X11_in x3.toInt64 0 5 = X10_within x3 0 5 := in_eq x3 0 5
  by_cases g2 : X10_within x3 0 5 = 0
  · exact pairR h0 (r := -1002) (by unfold X10_thing; rw [if_neg g0, if_neg g1, if_pos g2]) (by unfold X11_thing; rw [e0, if_neg g0, e1, if_neg g1, e2, if_pos g2])
  have e3 : X11_in x4.toInt64 0 9 = X10_within x4 0 9 := in_eq x4 0 9
  by_cases g3 : X10_within x4 0 9 = 0
  · exact pairR h0 (r := -1002) (by unfold X10_thing; rw [if_neg g0, if_neg g1, if_neg g2, if_pos g3]) (by unfold X11_thing; rw [e0, if_neg g0, e1, if_neg g1, e2, if_neg g2, e3, if_pos g3])
  have e4 : X11_in x5.toInt64 0 999 = X10_within x5 0 999 := in_eq x5 0 999
  by_cases g4 : X10_within x5 0 999 = 0
  · exact pairR h0 (r := -1002) (by unfold X10_thing; rw [if_neg g0, if_neg g1, if_neg g2, if_neg g3, if_pos g4]) (by unfold X11_thing; rw [e0, if_neg g0, e1, if_neg g1, e2, if_neg g2, e3, if_neg g3, e4, if_pos g4])
  have e5 : X11_in x6.toInt64 0 99 = X10_within x6 0 99 := in_eq x6 0 99
  by_cases g5 : X10_within x6 0 99 = 0
  · exact pairR h0 (r := -1002) (by unfold X10_thing; rw [if_neg g0, if_neg g1, if_neg g2, if_neg g3, if_neg g4, if_pos g5]) (by unfold X11_thing; rw [e0, if_neg g0, e1, if_neg g1, e2, if_neg g2, e3, if_neg g3, e4, if_neg g4, e5, if_pos g5])
  have e6 : X11_in x7.toInt64 (nI (nw μ)).toInt64 60 = X10_within x7 (nI (nw μ)) 60 := in_eq x7 (nI (nw μ)) 60
  by_cases g6 : X10_within x7 (nI (nw μ)) 60 = 0
  · exact pairR h0 (r := -1002) (by unfold X10_thing; rw [if_neg g0, if_neg g1, if_neg g2, if_neg g3, if_neg g4, if_neg g5, gi_0 o, w6.1, Option.bind_some, if_pos g6]) (by unfold X11_thing; rw [e0, if_neg g0, e1, if_neg g1, e2, if_neg g2, e3, if_neg g3, e4, if_neg g4, e5, if_neg g5, gi_134 o, w6.2.1, Option.bind_some, e6, if_pos g6])
  obtain ⟨y1, -, b1, rfl⟩ := win2 (a := 1) (b := 15) (by decide) (by decide) g0
  obtain ⟨y2, -, b2, rfl⟩ := win2 (a := 0) (b := 3) (by decide) (by decide) g1
  obtain ⟨y3, -, b3, rfl⟩ := win2 (a := 0) (b := 5) (by decide) (by decide) g2
  obtain ⟨y4, -, b4, rfl⟩ := win2 (a := 0) (b := 9) (by decide) (by decide) g3
  obtain ⟨y5, -, b5, rfl⟩ := win2 (a := 0) (b := 999) (by decide) (by decide) g4
  obtain ⟨y6, -, b6, rfl⟩ := win2 (a := 0) (b := 99) (by decide) (by decide) g5
  obtain ⟨y7, -, b7, rfl⟩ := win2 (a := nw μ) (b := 60) (by have := w6.2.2; omega) (by decide) g6
  by_cases q : tn μ = 10
  · refine pairR h0 (r := -1004) ?_ ?_
    · unfold X10_thing
      rw [if_neg g0, if_neg g1, if_neg g2, if_neg g3, if_neg g4, if_neg g5, gi_0 o, w6.1, Option.bind_some, if_neg g6, r_0_2 o, Option.bind_some, gi_37 o, hT.1.1, Option.bind_some, q, if_neg (by decide)]
    · unfold X11_thing
      rw [e0, if_neg g0, e1, if_neg g1, e2, if_neg g2, e3, if_neg g3, e4, if_neg g4, e5, if_neg g5, gi_134 o, w6.2.1, Option.bind_some, e6, if_neg g6, gi_134 o, hT.1.2.1, Option.bind_some, q, if_pos (by decide)]
  have hn2 : tn μ < 10 := by omega
  have c10 : nI (tn μ) < 10 := (nI_ltI (b := 10) (by omega) (by decide)).mpr hn2
  have d10 : ¬ nI (tn μ) = 10 := fun z => q ((nI_eq (b := 10) (by omega) (by decide)).mp z)
  have ⟨μ1, eμ⟩ : ∃ m, m = wI (wI (wI (wI (wI (wI (wI (wI (wI μ (40 + tn μ) 0 (nI y1)) (40 + tn μ) 1 (nI y2)) (40 + tn μ) 2 (nI y3)) (40 + tn μ) 3 (nI y4)) (40 + tn μ) 4 (nI y5)) (40 + tn μ) 5 (nI y6)) (40 + tn μ) 6 (nI y7)) (40 + tn μ) 7 (nI (nw μ))) 37 2 (nI (tn μ + 1)) := ⟨_, rfl⟩
  have o1 : Ok μ1 := by subst eμ; exact o
  have r134 : mI μ1 134 = mI μ 134 := by
    subst eμ
    rw [row_ne (by omega), row_ne (by omega), row_ne (by omega), row_ne (by omega), row_ne (by omega), row_ne (by omega), row_ne (by omega), row_ne (by omega), row_ne (by omega)]
  have t134 : mI μ1 134 12 = nI (tn μ) := by rw [r134]; exact hT.1.2.1
  have n134 : mI μ1 134 5 = nI (nw μ) := by rw [r134]; exact w6.2.1
  have ⟨μ2, eμ2⟩ : ∃ m, m = wI (wI (wI (wI (wI (wI (wI (wI (wI (wI μ1 145 (tn μ) (nI y1)) 146 (tn μ) (nI y2)) 147 (tn μ) (nI y3)) 148 (tn μ) (nI y4)) 149 (tn μ) (nI y5)) 150 (tn μ) (nI y6)) 151 (tn μ) (nI y7)) 152 (tn μ) (nI (nw μ))) 153 (tn μ) (0)) 134 12 (nI (tn μ + 1)) := ⟨_, rfl⟩
  refine ⟨nI (tn μ), μ1, μ2, ?_, o1, ?_, ?_⟩
  · subst eμ
    unfold X10_thing
    rw [if_neg g0, if_neg g1, if_neg g2, if_neg g3, if_neg g4, if_neg g5, gi_0 o, w6.1, Option.bind_some, if_neg g6, r_0_2 o, Option.bind_some, gi_37 o, hT.1.1, Option.bind_some, if_pos c10, Option.bind_some, r_37_0 o, Option.bind_some, Option.bind_some, gi_37 o, hT.1.1, Option.bind_some, ar_things o hn2, Option.bind_some]
    iterate 7 rw [pi_T (by exact o) hn2, Option.bind_some]
    rw [gi_0 (by exact o)]
    iterate 7 rw [row_ne (by omega)]
    rw [w6.1, Option.bind_some, pi_T (by exact o) hn2, Option.bind_some, r_0_2 (by exact o), Option.bind_some, gi_37 (by exact o)]
    iterate 8 rw [row_ne (b := 37) (by omega)]
    rw [hT.1.1, Option.bind_some, pi_37 (by exact o), Option.bind_some, r_0_2 (by exact o), Option.bind_some, gi_37 (by exact o), nI_add1, fld_eq, Option.bind_some, nI_pred]
  · subst eμ2
    unfold X11_thing
    rw [e0, if_neg g0, e1, if_neg g1, e2, if_neg g2, e3, if_neg g3, e4, if_neg g4, e5, if_neg g5, gi_134 o1, n134, Option.bind_some, e6, if_neg g6, gi_134 o1, t134, Option.bind_some, if_neg d10, r_134_13 o1, Option.bind_some, Option.bind_some, si_145 o1 hn2, Option.bind_some]
    rw [r_134_14 (by exact o1), Option.bind_some, gi_134 (by exact o1)]
    iterate 1 rw [row_ne (b := 134) (by omega)]
    rw [t134, Option.bind_some, si_146 (by exact o1) hn2, Option.bind_some]
    rw [r_134_15 (by exact o1), Option.bind_some, gi_134 (by exact o1)]
    iterate 2 rw [row_ne (b := 134) (by omega)]
    rw [t134, Option.bind_some, si_147 (by exact o1) hn2, Option.bind_some]
    rw [r_134_16 (by exact o1), Option.bind_some, gi_134 (by exact o1)]
    iterate 3 rw [row_ne (b := 134) (by omega)]
    rw [t134, Option.bind_some, si_148 (by exact o1) hn2, Option.bind_some]
    rw [r_134_17 (by exact o1), Option.bind_some, gi_134 (by exact o1)]
    iterate 4 rw [row_ne (b := 134) (by omega)]
    rw [t134, Option.bind_some, si_149 (by exact o1) hn2, Option.bind_some]
    rw [r_134_18 (by exact o1), Option.bind_some, gi_134 (by exact o1)]
    iterate 5 rw [row_ne (b := 134) (by omega)]
    rw [t134, Option.bind_some, si_150 (by exact o1) hn2, Option.bind_some]
    rw [r_134_19 (by exact o1), Option.bind_some, gi_134 (by exact o1)]
    iterate 6 rw [row_ne (b := 134) (by omega)]
    rw [t134, Option.bind_some, si_151 (by exact o1) hn2, Option.bind_some]
    rw [r_134_20 (by exact o1), Option.bind_some, gi_134 (by exact o1)]
    iterate 7 rw [row_ne (b := 134) (by omega)]
    rw [t134, Option.bind_some, gi_134 (by exact o1)]
    iterate 7 rw [row_ne (b := 134) (by omega)]
    rw [n134, Option.bind_some, si_152 (by exact o1) hn2, Option.bind_some]
    rw [r_134_21 (by exact o1), Option.bind_some, gi_134 (by exact o1)]
    iterate 8 rw [row_ne (b := 134) (by omega)]
    rw [t134, Option.bind_some, sz_153 (by exact o1) hn2 (Or.inl rfl), Option.bind_some, gi_134 (by exact o1)]
    iterate 9 rw [row_ne (b := 134) (by omega)]
    rw [t134, Option.bind_some, pi_134 (by exact o1), Option.bind_some, gi_134 (by exact o1), nI_add1, fld_eq, Option.bind_some, nI_pred]
  · have ez : tv μ 8 (tn μ) = 0 := hT.2.2.2 (tn μ) (Nat.le_refl _) hn2
    have z8 : mI μ (40 + tn μ) 8 = nI (tv μ 8 (tn μ)) := (hT.2.1 8 (tn μ) (by decide) hn2).1
    rw [ez] at z8
    have o2 : Ok μ2 := by
      subst eμ2
      simp only [Ok_wI]
      exact o1
    have eR2 : mR μ2 92 = mR μ 92 := by
      subst eμ2
      subst eμ
      simp only [mR_wI]
    refine h0.setT o2 eR2 (fun a k q1 q2 q3 q4 => ?_) (RelT.mk' (n := tn μ + 1) (fun c t' => if t' = tn μ then [y1, y2, y3, y4, y5, y6, y7, nw μ, 0].getD c 0 else tv μ c t') ?_ ?_ hn2 (fun c t' hc ht' => ?_) (fun t' ht' => ?_) (fun t' q1 ht' => ?_))
    · subst eμ2
      subst eμ
      iterate 19 rw [fld_ne (by omega)]
    · subst eμ2
      subst eμ
      iterate 10 rw [row_ne (by omega)]
      rw [fld_eq]
    · subst eμ2
      rw [fld_eq]
    · subst eμ2
      subst eμ
      obtain ⟨z1, z2, z3⟩ := hT.2.1 c t' hc ht'
      by_cases z : t' = tn μ
      · subst z
        rw [if_pos rfl]
        iterate 11 rw [row_ne (b := 40 + tn μ) (by omega)]
        rcases (show c = 0 ∨ c = 1 ∨ c = 2 ∨ c = 3 ∨ c = 4 ∨ c = 5 ∨ c = 6 ∨ c = 7 ∨ c = 8 by omega) with rfl | rfl | rfl | rfl | rfl | rfl | rfl | rfl | rfl
        all_goals simp (disch := omega) only [row_ne, fld_eq, fld_ne, z8]
        · exact ⟨rfl, rfl, b1⟩
        · exact ⟨rfl, rfl, b2⟩
        · exact ⟨rfl, rfl, b3⟩
        · exact ⟨rfl, rfl, b4⟩
        · exact ⟨rfl, rfl, b5⟩
        · exact ⟨rfl, rfl, b6⟩
        · exact ⟨rfl, rfl, b7⟩
        · exact ⟨rfl, rfl, w6.2.2⟩
        · exact ⟨rfl, rfl, Nat.zero_le _⟩
      · rw [if_neg z]
        simp (disch := omega) only [row_ne, fld_ne]
        exact ⟨z1, z2, z3⟩
    · have en : nw μ2 = nw μ := by
        subst eμ2
        unfold nw
        rw [fld_ne (by omega)]
        iterate 9 rw [row_ne (b := 134) (by omega)]
        rw [r134]
      rw [en]
      by_cases z : t' = tn μ
      · rw [if_pos z]
        exact Nat.le_refl _
      · rw [if_neg z]
        exact hT.2.2.1 t' ht'
    · rw [if_neg (by omega)]
      exact hT.2.2.2 t' (by omega) ht'
