theorem val_m {μ : Mem} (h : Ok μ) (W : RelW μ) (T : RelT μ) {p t k : Nat} (hp : p < 4) (ht : t < 10) (hk : k ≤ 8) : ∃ μ', Sm μ μ' ∧ X11_valueOf 134 (nI t) (nI p) (nI k) μ = some (valV μ t k (sS μ (odd μ p (nw μ) k)), μ') := by
  have hn := W.2.2.2.2.2.2.2
  have hw := W.2.2.2.2.2.2.1
  have f := fun c hc => (T.2.1 c t hc ht).2.1
  have b6 : tv μ 6 t ≤ 60 := (T.2.1 6 t (by decide) ht).2.2
  have b8 : tv μ 8 t ≤ 1 := (T.2.1 8 t (by decide) ht).2.2
  have b1 : tv μ 1 t ≤ 3 := (T.2.1 1 t (by decide) ht).2.2
  have c8 : nI (tv μ 8 t) = 0 ↔ tv μ 8 t = 0 := nI_eq (b := 0) (by omega) (by decide)
  have c6 : nI (tv μ 6 t) < nI (nw μ + k) ↔ tv μ 6 t < nw μ + k := nI_ltI (by omega) (by omega)
  have c1 : nI (tv μ 1 t) = 2 ↔ tv μ 1 t = 2 := nI_eq (b := 2) (by omega) (by decide)
  have r4 : aI 149 (nI t) μ = some (nI (tv μ 4 t)) := (aI_eq (a := 149) h (by decide) rfl ht (by decide)).trans (by rw [← f 4 (by decide)])
  have r5 : aI 150 (nI t) μ = some (nI (tv μ 5 t)) := (aI_eq (a := 150) h (by decide) rfl ht (by decide)).trans (by rw [← f 5 (by decide)])
  have r7 : aI 152 (nI t) μ = some (nI (tv μ 7 t)) := (aI_eq (a := 152) h (by decide) rfl ht (by decide)).trans (by rw [← f 7 (by decide)])
  have r8 : aZ 153 (nI t) μ = some (nI (tv μ 8 t)) := (aZ_eq (a := 153) h (by decide) rfl ht (by decide)).trans (by rw [← f 8 (by decide)])
  have r6 : aI 151 (nI t) μ = some (nI (tv μ 6 t)) := (aI_eq (a := 151) h (by decide) rfl ht (by decide)).trans (by rw [← f 6 (by decide)])
  have r1 : aI 146 (nI t) μ = some (nI (tv μ 1 t)) := (aI_eq (a := 146) h (by decide) rfl ht (by decide)).trans (by rw [← f 1 (by decide)])
  obtain ⟨b, ⟨sb, -⟩, eb⟩ := mseam_ok h W hp (t := nw μ) (k := k) (by omega) hk
  unfold X11_valueOf valV
  rw [gI_eq (a := 134) h (by decide) rfl, hw]
  simp only [Option.bind_some, nI_add, r_134_17 h, r4, r_134_18 h, r5, r_134_20 h, r7, r_134_21 h, r8]
  by_cases q8 : tv μ 8 t = 0
  · rw [if_pos (c8.mpr q8), if_pos q8, r_134_19 h, Option.bind_some, r6, Option.bind_some]
    by_cases q6 : nw μ + k ≤ tv μ 6 t
    · rw [if_neg (fun z => by have := c6.mp z; omega), if_pos q6]
      by_cases q : 0 < valD μ t k
      · rw [if_pos q, if_pos (show 0 < nI (tv μ 4 t) - nI (tv μ 5 t) * (nI (nw μ + k) - nI (tv μ 7 t)) from q), r_134_14 h, Option.bind_some, r1, Option.bind_some]
        by_cases q1 : tv μ 1 t = 2
        · refine ⟨b, sb, ?_⟩
          rw [if_pos (c1.mpr q1), if_pos q1, vO_eq (c := 11) (a := 134) h (by decide) rfl, Option.bind_some, eb, Option.bind_some, dvM, Option.bind_some, Option.bind_some]
          rfl
        · refine ⟨μ, Sm.rf h, ?_⟩
          rw [if_neg (fun z => q1 (c1.mp z)), if_neg q1, Option.bind_some]
          rfl
      · refine ⟨μ, Sm.rf h, ?_⟩
        rw [if_neg q, if_neg (show ¬ 0 < nI (tv μ 4 t) - nI (tv μ 5 t) * (nI (nw μ + k) - nI (tv μ 7 t)) from q)]
    · refine ⟨μ, Sm.rf h, ?_⟩
      rw [if_pos (c6.mpr (by omega)), if_neg q6]
  · refine ⟨μ, Sm.rf h, ?_⟩
    rw [if_neg (fun z => q8 (c8.mp z)), if_neg q8]
theorem valV_sm {μ μ' : Mem} (s : Sm μ μ') : valV μ' = valV μ := by
  funext t k z
  unfold valV valD
  rw [tv_sm s (by decide), tv_sm s (by decide), tv_sm s (by decide), tv_sm s (by decide), tv_sm s (by decide), tv_sm s (by decide), nw_sm s]
theorem p_value (x1 x2 x3 : Int32) : Pair (X10_value 0 x1 x2 x3) (X11_value 134 x1 x2 x3) := by
  intro μ h
  have h0 := h
  obtain ⟨o, W, hC, hT, hS, hX, hL⟩ := h
  obtain ⟨w1, w2, w3, w4, w5, w6⟩ := id W
  have hn := w6.2.2
  have ht10 := hT.1.2.2
  rcases gT o hT x1 with ⟨g1, k1⟩ | ⟨g1, k1, t, ht, rfl⟩
  · exact pairR h0 (by unfold X10_value; rw [r_0_2 o, Option.bind_some, vO_eq (c := 0) (a := 37) o (by decide) rfl, Option.bind_some, g1, Option.bind_some, if_pos rfl]) (by unfold X11_value; rw [vO_eq (c := 11) (a := 134) o (by decide) rfl, Option.bind_some, k1, Option.bind_some, if_pos rfl])
  rcases gd x2 3 (by decide) with ⟨g2, k2⟩ | ⟨g2, k2, p, hp, rfl⟩
  · exact pairR h0 (by unfold X10_value; rw [r_0_2 o, Option.bind_some, vO_eq (c := 0) (a := 37) o (by decide) rfl, Option.bind_some, g1, Option.bind_some, if_neg (by decide), if_pos (show X10_isPerson x2 = 0 from g2)]) (by unfold X11_value; rw [vO_eq (c := 11) (a := 134) o (by decide) rfl, Option.bind_some, k1, Option.bind_some, if_neg (by decide), if_pos (show X11_isPerson x2 = 0 from k2)])
  rcases gd x3 8 (by decide) with ⟨g3, k3⟩ | ⟨g3, k3, k, hk, rfl⟩
  · exact pairR h0 (by unfold X10_value; rw [r_0_2 o, Option.bind_some, vO_eq (c := 0) (a := 37) o (by decide) rfl, Option.bind_some, g1, Option.bind_some, if_neg (by decide), if_neg (show ¬ X10_isPerson (nI p) = 0 from g2), if_pos (show X10_isAhead x3 = 0 from g3)]) (by unfold X11_value; rw [vO_eq (c := 11) (a := 134) o (by decide) rfl, Option.bind_some, k1, Option.bind_some, if_neg (by decide), if_neg (show ¬ X11_isPerson (nI p) = 0 from k2), if_pos (show X11_in x3.toInt64 0 8 = 0 from k3), Option.bind_some])
  obtain ⟨a, ⟨sa, ha⟩, ea⟩ := look_ok o W (p := p) (t := nw μ) (k := k) (by omega) (by omega) (by omega)
  have Ia := h0.sm sa
  obtain ⟨b, sb, eb⟩ := val_m sa.1 (W.sm sa) Ia.2.2.2.1 (p := p) (t := t) (k := k) (by omega) (by omega) (by omega)
  have hwa : mI a 0 10 = nI (nw μ) := (sa.fld (a := 0) (k := 10) rfl).trans w6.1
  refine pairS h0 (r := valV μ t k (sS μ (odd μ p (nw μ) k))) (μ1 := a) (μ2 := b) ?_ sa ?_ sb
  · have ev := val_c sa.1 Ia.2.2.2.1 (t := t) (k := k) (s := sS μ (odd μ p (nw μ) k)) (by omega) (by rw [nw_sm sa]; omega)
    rw [nw_sm sa] at ev
    unfold X10_value
    rw [r_0_2 o, Option.bind_some, vO_eq (c := 0) (a := 37) o (by decide) rfl, Option.bind_some, g1, Option.bind_some, if_neg (by decide), if_neg (show ¬ X10_isPerson (nI p) = 0 from g2), if_neg (show ¬ X10_isAhead (nI k) = 0 from g3), r_0_0 o, Option.bind_some, gI_eq (a := 0) o (by decide) rfl, w6.1, Option.bind_some, vO_eq (c := 9) (a := 1) o (by decide) rfl, Option.bind_some, ea, Option.bind_some, r_0_2 sa.1, Option.bind_some, r_37_0 sa.1, Option.bind_some, ar_things sa.1 (by omega), Option.bind_some, gI_eq (a := 0) sa.1 (by decide) rfl, hwa, Option.bind_some, r_0_0 sa.1, Option.bind_some, vO_eq (c := 9) (a := 1) sa.1 (by decide) rfl, Option.bind_some, seam_c sa.1 (W.sm sa) (by omega) (ha k (Nat.le_refl _)), Option.bind_some, vO_eq (c := 6) sa.1 (by omega) (s_things (by omega)), Option.bind_some, nI_add, sS_sm sa, ev, Option.bind_some, valV_sm sa]
  · have k1a : X11_isThing 134 (nI t) a = some 1 := by
      rcases gT sa.1 Ia.2.2.2.1 (nI t) with ⟨z1, z2⟩ | ⟨z1, z2, -⟩
      · unfold X0_hasThing at z1 g1
        rw [gI_eq (a := 37) sa.1 (by decide) rfl, sa.fld (a := 37) (k := 2) rfl] at z1
        rw [gI_eq (a := 37) o (by decide) rfl] at g1
        rw [g1] at z1
        exact absurd (inj1 z1) (by decide)
      · exact z2
    unfold X11_value
    rw [vO_eq (c := 11) (a := 134) sa.1 (by decide) rfl, Option.bind_some, k1a, Option.bind_some, if_neg (by decide), if_neg (show ¬ X11_isPerson (nI p) = 0 from k2), if_neg (show ¬ X11_in (nI k).toInt64 0 8 = 0 from k3), Option.bind_some, eb, Option.bind_some, Option.bind_some, valV_sm sa, sS_sm sa, nw_sm sa, show odd a p (nw μ) k = odd μ p (nw μ) k from funext (odd_sm sa p (nw μ) k)]
