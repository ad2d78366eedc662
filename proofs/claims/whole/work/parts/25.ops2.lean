theorem p_shows (x1 x2 x3 : Int32) : Pair (X10_shows 0 x1 x2 x3) (X11_shows 134 x1 x2 x3) := by
  intro μ h
  have h0 := h
  obtain ⟨o, ⟨w1, w2, w3, w4, w5, w6⟩, hC, hT, hS, hX, hL⟩ := h
  rcases gd x1 3 (by decide) with ⟨g0, k0⟩ | ⟨g0, k0, i, hi, rfl⟩
  · exact pairR h0 (by unfold X10_shows; rw [if_pos (show X10_isState x1 = 0 from g0)]) (by unfold X11_shows; rw [if_pos (show X11_isState x1 = 0 from k0)])
  rcases gd x2 3 (by decide) with ⟨g1, k1⟩ | ⟨g1, k1, j, hj, rfl⟩
  · exact pairR h0 (by unfold X10_shows; rw [if_neg (show ¬ X10_isState (nI i) = 0 from g0), if_pos (show X10_within x2 0 3 = 0 from g1)]) (by unfold X11_shows; rw [if_neg (show ¬ X11_isState (nI i) = 0 from k0), if_pos (show X11_isState x2 = 0 from k1)])
  rcases gd x3 4 (by decide) with ⟨g2, k2⟩ | ⟨g2, k2, v, hv, rfl⟩
  · exact pairR h0 (by unfold X10_shows; rw [if_neg (show ¬ X10_isState (nI i) = 0 from g0), if_neg (show ¬ X10_within (nI j) 0 3 = 0 from g1), if_pos (show X10_isOften x3 = 0 from g2)]) (by unfold X11_shows; rw [if_neg (show ¬ X11_isState (nI i) = 0 from k0), if_neg (show ¬ X11_isState (nI j) = 0 from k1), if_pos (show X11_in (x3).toInt64 0 4 = 0 from k2)])
  have o1 : Ok (wI μ (8 + i) j (nI v)) := o
  have oldM := w2 i j (by omega) (by omega)
  refine ⟨nI (sw μ i j), wI μ (8 + i) j (nI v), wI (wI μ (8 + i) (j) (nI v)) (136) (4 * i + j) (nI v), ?_, o, ?_, ?_⟩
  · unfold X10_shows
    rw [if_neg (show ¬ X10_isState (nI i) = 0 from g0), if_neg (show ¬ X10_within (nI j) 0 3 = 0 from g1), if_neg (show ¬ X10_isOften (nI v) = 0 from g2), r_0_0 o, Option.bind_some, r_1_1 o, Option.bind_some, ar_shown o (by omega), Option.bind_some, exch o (by omega) (s_shown (by omega)) (by omega) (by decide), Option.bind_some, oldM.1]
  · unfold X11_shows
    rw [if_neg (show ¬ X11_isState (nI i) = 0 from k0), if_neg (show ¬ X11_isState (nI j) = 0 from k1), if_neg (show ¬ X11_in ((nI v)).toInt64 0 4 = 0 from k2), r_134_1 o1, Option.bind_some, show (4 : Int32) = nI 4 from rfl, pk_mul, nI_add, aI_eq (a := 136) o1 (by decide) rfl (by omega) (by decide), row_ne (by omega), oldM.2.1, Option.bind_some, Option.bind_some, sI_eq (a := 136) o1 (by decide) rfl (by omega) (by decide), Option.bind_some]
  · skip
    have ln : ∀ a k, ¬ (a = 8 + i ∧ k = j) → ¬ (a = 136 ∧ k = 4 * i + j) → mI (wI (wI μ (8 + i) (j) (nI v)) (136) (4 * i + j) (nI v)) a k = mI μ a k := fun a k q1 q2 => by rw [fld_ne q2, fld_ne q1]
    have rn : ∀ a, a ≠ 8 + i → a ≠ 136 → mI (wI (wI μ (8 + i) (j) (nI v)) (136) (4 * i + j) (nI v)) a = mI μ a := fun a q1 q2 => by rw [row_ne q2, row_ne q1]
    refine ⟨o, ⟨w1.cg (fun q hq => rn _ (by omega) (by omega)) (rn _ (by omega) (by omega)), ?_, w3.cg (rn _ (by omega) (by omega)) (rn _ (by omega) (by omega)), w4.cg (ln _ _ (by omega) (by omega)) (ln _ _ (by omega) (by omega)), w5.cg (fun q hq => rn _ (by omega) (by omega)) (rn _ (by omega) (by omega)), w6.cg (ln _ _ (by omega) (by omega)) (ln _ _ (by omega) (by omega))⟩, hC.cg (fun q hq => rn _ (by omega) (by omega)) (rn _ (by omega) (by omega)) (rn _ (by omega) (by omega)) (rn _ (by omega) (by omega)), hT.cg (ln _ _ (by omega) (by omega)) (ln _ _ (by omega) (by omega)) (fun q hq => rn _ (by omega) (by omega)) (fun q hq => rn _ (by omega) (by omega)) (nw_le (ln 134 5 (by omega) (by omega))), hS.cg (ln _ _ (by omega) (by omega)) (ln _ _ (by omega) (by omega)) (fun q hq => rn _ (by omega) (by omega)) (fun q hq => rn _ (by omega) (by omega)) (nw_le (ln 134 5 (by omega) (by omega))), hX.cg (ln _ _ (by omega) (by omega)) (ln _ _ (by omega) (by omega)) (rn _ (by omega) (by omega)) (rn _ (by omega) (by omega)) (ln _ _ (by omega) (by omega)) (ln _ _ (by omega) (by omega)), hL.cg o rfl (fun l c hl hc => rn _ (by unfold isLw at hl; omega) (by unfold isLw at hl; omega)) (fun c hc => rn _ (by omega) (by omega))⟩
    intro i' j' hi' hj'
    have em : sw (wI (wI μ (8 + i) (j) (nI v)) (136) (4 * i + j) (nI v)) i' j' = if i' = i ∧ j' = j then v else sw μ i' j' := by
      unfold sw
      by_cases q : i' = i ∧ j' = j
      · obtain ⟨rfl, rfl⟩ := q
        rw [fld_eq, if_pos ⟨rfl, rfl⟩, vN_nI (by omega)]
      · rw [fld_ne (fun z => q (by omega)), row_ne (by omega), if_neg q]
    rw [em]
    by_cases q : i' = i ∧ j' = j
    · obtain ⟨rfl, rfl⟩ := q
      rw [if_pos ⟨rfl, rfl⟩, row_ne (by omega), fld_eq, fld_eq]
      exact ⟨rfl, rfl, hv⟩
    · rw [if_neg q, row_ne (by omega), fld_ne (fun z => q (by omega)), fld_ne (fun z => q (by omega)), row_ne (by omega)]
      exact w2 i' j' hi' hj'

theorem p_cost (x1 x2 x3 : Int32) : Pair (X10_cost 0 x1 x2 x3) (X11_cost 134 x1 x2 x3) := by
  intro μ h
  have h0 := h
  obtain ⟨o, ⟨w1, w2, w3, w4, w5, w6⟩, hC, hT, hS, hX, hL⟩ := h
  rcases gd x1 3 (by decide) with ⟨g0, k0⟩ | ⟨g0, k0, i, hi, rfl⟩
  · exact pairR h0 (by unfold X10_cost; rw [if_pos (show X10_isWay x1 = 0 from g0)]) (by unfold X11_cost; rw [if_pos (show X11_isWay x1 = 0 from k0)])
  rcases gd x2 3 (by decide) with ⟨g1, k1⟩ | ⟨g1, k1, j, hj, rfl⟩
  · exact pairR h0 (by unfold X10_cost; rw [if_neg (show ¬ X10_isWay (nI i) = 0 from g0), if_pos (show X10_isState x2 = 0 from g1)]) (by unfold X11_cost; rw [if_neg (show ¬ X11_isWay (nI i) = 0 from k0), if_pos (show X11_isState x2 = 0 from k1)])
  rcases gd x3 999 (by decide) with ⟨g2, k2⟩ | ⟨g2, k2, v, hv, rfl⟩
  · exact pairR h0 (by unfold X10_cost; rw [if_neg (show ¬ X10_isWay (nI i) = 0 from g0), if_neg (show ¬ X10_isState (nI j) = 0 from g1), if_pos (show X10_within x3 0 999 = 0 from g2)]) (by unfold X11_cost; rw [if_neg (show ¬ X11_isWay (nI i) = 0 from k0), if_neg (show ¬ X11_isState (nI j) = 0 from k1), if_pos (show X11_in (x3).toInt64 0 999 = 0 from k2)])
  have o1 : Ok (wI μ (32 + i) j (nI v)) := o
  have oldM := hC.1 i j (by omega) (by omega)
  refine ⟨nI (cs μ i j), wI μ (32 + i) j (nI v), wI (wI μ (32 + i) (j) (nI v)) (154) (4 * i + j) (nI v), ?_, o, ?_, ?_⟩
  · unfold X10_cost
    rw [if_neg (show ¬ X10_isWay (nI i) = 0 from g0), if_neg (show ¬ X10_isState (nI j) = 0 from g1), if_neg (show ¬ X10_within (nI v) 0 999 = 0 from g2), r_0_1 o, Option.bind_some, r_30_0 o, Option.bind_some, ar_costs o (by omega), Option.bind_some, exch o (by omega) (s_costs (by omega)) (by omega) (by decide), Option.bind_some, oldM.1]
  · unfold X11_cost
    rw [if_neg (show ¬ X11_isWay (nI i) = 0 from k0), if_neg (show ¬ X11_isState (nI j) = 0 from k1), if_neg (show ¬ X11_in ((nI v)).toInt64 0 999 = 0 from k2), r_134_22 o1, Option.bind_some, show (4 : Int32) = nI 4 from rfl, pk_mul, nI_add, aI_eq (a := 154) o1 (by decide) rfl (by omega) (by decide), row_ne (by omega), oldM.2.1, Option.bind_some, Option.bind_some, sI_eq (a := 154) o1 (by decide) rfl (by omega) (by decide), Option.bind_some]
  · skip
    have ln : ∀ a k, ¬ (a = 32 + i ∧ k = j) → ¬ (a = 154 ∧ k = 4 * i + j) → mI (wI (wI μ (32 + i) (j) (nI v)) (154) (4 * i + j) (nI v)) a k = mI μ a k := fun a k q1 q2 => by rw [fld_ne q2, fld_ne q1]
    have rn : ∀ a, a ≠ 32 + i → a ≠ 154 → mI (wI (wI μ (32 + i) (j) (nI v)) (154) (4 * i + j) (nI v)) a = mI μ a := fun a q1 q2 => by rw [row_ne q2, row_ne q1]
    refine ⟨o, ⟨w1.cg (fun q hq => rn _ (by omega) (by omega)) (rn _ (by omega) (by omega)), w2.cg (fun q hq => rn _ (by omega) (by omega)) (rn _ (by omega) (by omega)), w3.cg (rn _ (by omega) (by omega)) (rn _ (by omega) (by omega)), w4.cg (ln _ _ (by omega) (by omega)) (ln _ _ (by omega) (by omega)), w5.cg (fun q hq => rn _ (by omega) (by omega)) (rn _ (by omega) (by omega)), w6.cg (ln _ _ (by omega) (by omega)) (ln _ _ (by omega) (by omega))⟩, ?_, hT.cg (ln _ _ (by omega) (by omega)) (ln _ _ (by omega) (by omega)) (fun q hq => rn _ (by omega) (by omega)) (fun q hq => rn _ (by omega) (by omega)) (nw_le (ln 134 5 (by omega) (by omega))), hS.cg (ln _ _ (by omega) (by omega)) (ln _ _ (by omega) (by omega)) (fun q hq => rn _ (by omega) (by omega)) (fun q hq => rn _ (by omega) (by omega)) (nw_le (ln 134 5 (by omega) (by omega))), hX.cg (ln _ _ (by omega) (by omega)) (ln _ _ (by omega) (by omega)) (rn _ (by omega) (by omega)) (rn _ (by omega) (by omega)) (ln _ _ (by omega) (by omega)) (ln _ _ (by omega) (by omega)), hL.cg o rfl (fun l c hl hc => rn _ (by unfold isLw at hl; omega) (by unfold isLw at hl; omega)) (fun c hc => rn _ (by omega) (by omega))⟩
    refine ⟨?_, fun w hw => by
      have e9 : sn (wI (wI μ (32 + i) (j) (nI v)) (154) (4 * i + j) (nI v)) = sn μ := by
        funext w
        unfold sn
        rw [rn 155 (by omega) (by omega)]
      rw [rn 36 (by omega) (by omega), rn 155 (by omega) (by omega), e9]
      exact hC.2 w hw⟩
    intro i' j' hi' hj'
    have em : cs (wI (wI μ (32 + i) (j) (nI v)) (154) (4 * i + j) (nI v)) i' j' = if i' = i ∧ j' = j then v else cs μ i' j' := by
      unfold cs
      by_cases q : i' = i ∧ j' = j
      · obtain ⟨rfl, rfl⟩ := q
        rw [fld_eq, if_pos ⟨rfl, rfl⟩, vN_nI (by omega)]
      · rw [fld_ne (fun z => q (by omega)), row_ne (by omega), if_neg q]
    rw [em]
    by_cases q : i' = i ∧ j' = j
    · obtain ⟨rfl, rfl⟩ := q
      rw [if_pos ⟨rfl, rfl⟩, row_ne (by omega), fld_eq, fld_eq]
      exact ⟨rfl, rfl, hv⟩
    · rw [if_neg q, row_ne (by omega), fld_ne (fun z => q (by omega)), fld_ne (fun z => q (by omega)), row_ne (by omega)]
      exact hC.1 i' j' hi' hj'

theorem p_begins (x1 x2 : Int32) : Pair (X10_begins 0 x1 x2) (X11_begins 134 x1 x2) := by
  intro μ h
  have h0 := h
  obtain ⟨o, ⟨w1, w2, w3, w4, w5, w6⟩, hC, hT, hS, hX, hL⟩ := h
  rcases gd x1 3 (by decide) with ⟨g0, k0⟩ | ⟨g0, k0, i, hi, rfl⟩
  · exact pairR h0 (by unfold X10_begins; rw [if_pos (show X10_isState x1 = 0 from g0)]) (by unfold X11_begins; rw [if_pos (show X11_isState x1 = 0 from k0)])
  rcases gd x2 4 (by decide) with ⟨g1, k1⟩ | ⟨g1, k1, v, hv, rfl⟩
  · exact pairR h0 (by unfold X10_begins; rw [if_neg (show ¬ X10_isState (nI i) = 0 from g0), if_pos (show X10_isOften x2 = 0 from g1)]) (by unfold X11_begins; rw [if_neg (show ¬ X11_isState (nI i) = 0 from k0), if_pos (show X11_in (x2).toInt64 0 4 = 0 from k1)])
  have o1 : Ok (wI μ 12 i (nI v)) := o
  have oldM := w3 i (by omega)
  refine ⟨nI (bg μ i), wI μ 12 i (nI v), wI (wI μ (12) (i) (nI v)) (137) (i) (nI v), ?_, o, ?_, ?_⟩
  · unfold X10_begins
    rw [if_neg (show ¬ X10_isState (nI i) = 0 from g0), if_neg (show ¬ X10_isOften (nI v) = 0 from g1), r_0_0 o, Option.bind_some, r_1_2 o, Option.bind_some, exch (a := 12) o (by decide) rfl (by omega) (by decide), Option.bind_some, oldM.1]
  · unfold X11_begins
    rw [if_neg (show ¬ X11_isState (nI i) = 0 from k0), if_neg (show ¬ X11_in ((nI v)).toInt64 0 4 = 0 from k1), r_134_2 o1, Option.bind_some, aI_eq (a := 137) o1 (by decide) rfl (by omega) (by decide), row_ne (by omega), oldM.2.1, Option.bind_some, Option.bind_some, sI_eq (a := 137) o1 (by decide) rfl (by omega) (by decide), Option.bind_some]
  · skip
    have ln : ∀ a k, ¬ (a = 12 ∧ k = i) → ¬ (a = 137 ∧ k = i) → mI (wI (wI μ (12) (i) (nI v)) (137) (i) (nI v)) a k = mI μ a k := fun a k q1 q2 => by rw [fld_ne q2, fld_ne q1]
    have rn : ∀ a, a ≠ 12 → a ≠ 137 → mI (wI (wI μ (12) (i) (nI v)) (137) (i) (nI v)) a = mI μ a := fun a q1 q2 => by rw [row_ne q2, row_ne q1]
    refine ⟨o, ⟨w1.cg (fun q hq => rn _ (by omega) (by omega)) (rn _ (by omega) (by omega)), w2.cg (fun q hq => rn _ (by omega) (by omega)) (rn _ (by omega) (by omega)), ?_, w4.cg (ln _ _ (by omega) (by omega)) (ln _ _ (by omega) (by omega)), w5.cg (fun q hq => rn _ (by omega) (by omega)) (rn _ (by omega) (by omega)), w6.cg (ln _ _ (by omega) (by omega)) (ln _ _ (by omega) (by omega))⟩, hC.cg (fun q hq => rn _ (by omega) (by omega)) (rn _ (by omega) (by omega)) (rn _ (by omega) (by omega)) (rn _ (by omega) (by omega)), hT.cg (ln _ _ (by omega) (by omega)) (ln _ _ (by omega) (by omega)) (fun q hq => rn _ (by omega) (by omega)) (fun q hq => rn _ (by omega) (by omega)) (nw_le (ln 134 5 (by omega) (by omega))), hS.cg (ln _ _ (by omega) (by omega)) (ln _ _ (by omega) (by omega)) (fun q hq => rn _ (by omega) (by omega)) (fun q hq => rn _ (by omega) (by omega)) (nw_le (ln 134 5 (by omega) (by omega))), hX.cg (ln _ _ (by omega) (by omega)) (ln _ _ (by omega) (by omega)) (rn _ (by omega) (by omega)) (rn _ (by omega) (by omega)) (ln _ _ (by omega) (by omega)) (ln _ _ (by omega) (by omega)), hL.cg o rfl (fun l c hl hc => rn _ (by unfold isLw at hl; omega) (by unfold isLw at hl; omega)) (fun c hc => rn _ (by omega) (by omega))⟩
    intro i' hi'
    have em : bg (wI (wI μ (12) (i) (nI v)) (137) (i) (nI v)) i' = if i' = i then v else bg μ i' := by
      unfold bg
      by_cases q : i' = i
      · subst q
        rw [fld_eq, if_pos rfl, vN_nI (by omega)]
      · rw [fld_ne (fun z => q z.2), row_ne (by omega), if_neg q]
    rw [em]
    by_cases q : i' = i
    · subst q
      rw [if_pos rfl, row_ne (by omega), fld_eq, fld_eq]
      exact ⟨rfl, rfl, hv⟩
    · rw [if_neg q, row_ne (by omega), fld_ne (fun z => q z.2), fld_ne (fun z => q z.2), row_ne (by omega)]
      exact w3 i' hi'

theorem p_seen (x1 x2 : Int32) : Pair (X10_seen 0 x1 x2) (X11_seen 134 x1 x2) := by
  intro μ h
  have h0 := h
  obtain ⟨o, ⟨w1, w2, w3, w4, w5, w6⟩, hC, hT, hS, hX, hL⟩ := h
  rcases gd x1 3 (by decide) with ⟨g0, k0⟩ | ⟨g0, k0, i, hi, rfl⟩
  · exact pairR h0 (by unfold X10_seen; rw [if_pos (show X10_isWay x1 = 0 from g0)]) (by unfold X11_seen; rw [if_pos (show X11_isWay x1 = 0 from k0)])
  rcases gd x2 100 (by decide) with ⟨g1, k1⟩ | ⟨g1, k1, v, hv, rfl⟩
  · exact pairR h0 (by unfold X10_seen; rw [if_neg (show ¬ X10_isWay (nI i) = 0 from g0), if_pos (show X10_within x2 0 100 = 0 from g1)]) (by unfold X11_seen; rw [if_neg (show ¬ X11_isWay (nI i) = 0 from k0), if_pos (show X11_in (x2).toInt64 0 100 = 0 from k1)])
  have o1 : Ok (wI μ 36 i (nI v)) := o
  have oldM := hC.2 i (by omega)
  refine ⟨nI (sn μ i), wI μ 36 i (nI v), wI (wI μ (36) (i) (nI v)) (155) (i) (nI v), ?_, o, ?_, ?_⟩
  · unfold X10_seen
    rw [if_neg (show ¬ X10_isWay (nI i) = 0 from g0), if_neg (show ¬ X10_within (nI v) 0 100 = 0 from g1), r_0_1 o, Option.bind_some, r_30_1 o, Option.bind_some, exch (a := 36) o (by decide) rfl (by omega) (by decide), Option.bind_some, oldM.1]
  · unfold X11_seen
    rw [if_neg (show ¬ X11_isWay (nI i) = 0 from k0), if_neg (show ¬ X11_in ((nI v)).toInt64 0 100 = 0 from k1), r_134_23 o1, Option.bind_some, aI_eq (a := 155) o1 (by decide) rfl (by omega) (by decide), row_ne (by omega), oldM.2.1, Option.bind_some, Option.bind_some, sI_eq (a := 155) o1 (by decide) rfl (by omega) (by decide), Option.bind_some]
  · skip
    have ln : ∀ a k, ¬ (a = 36 ∧ k = i) → ¬ (a = 155 ∧ k = i) → mI (wI (wI μ (36) (i) (nI v)) (155) (i) (nI v)) a k = mI μ a k := fun a k q1 q2 => by rw [fld_ne q2, fld_ne q1]
    have rn : ∀ a, a ≠ 36 → a ≠ 155 → mI (wI (wI μ (36) (i) (nI v)) (155) (i) (nI v)) a = mI μ a := fun a q1 q2 => by rw [row_ne q2, row_ne q1]
    refine ⟨o, ⟨w1.cg (fun q hq => rn _ (by omega) (by omega)) (rn _ (by omega) (by omega)), w2.cg (fun q hq => rn _ (by omega) (by omega)) (rn _ (by omega) (by omega)), w3.cg (rn _ (by omega) (by omega)) (rn _ (by omega) (by omega)), w4.cg (ln _ _ (by omega) (by omega)) (ln _ _ (by omega) (by omega)), w5.cg (fun q hq => rn _ (by omega) (by omega)) (rn _ (by omega) (by omega)), w6.cg (ln _ _ (by omega) (by omega)) (ln _ _ (by omega) (by omega))⟩, ?_, hT.cg (ln _ _ (by omega) (by omega)) (ln _ _ (by omega) (by omega)) (fun q hq => rn _ (by omega) (by omega)) (fun q hq => rn _ (by omega) (by omega)) (nw_le (ln 134 5 (by omega) (by omega))), hS.cg (ln _ _ (by omega) (by omega)) (ln _ _ (by omega) (by omega)) (fun q hq => rn _ (by omega) (by omega)) (fun q hq => rn _ (by omega) (by omega)) (nw_le (ln 134 5 (by omega) (by omega))), hX.cg (ln _ _ (by omega) (by omega)) (ln _ _ (by omega) (by omega)) (rn _ (by omega) (by omega)) (rn _ (by omega) (by omega)) (ln _ _ (by omega) (by omega)) (ln _ _ (by omega) (by omega)), hL.cg o rfl (fun l c hl hc => rn _ (by unfold isLw at hl; omega) (by unfold isLw at hl; omega)) (fun c hc => rn _ (by omega) (by omega))⟩
    refine ⟨fun w s hw hs => by
      have e9 : cs (wI (wI μ (36) (i) (nI v)) (155) (i) (nI v)) = cs μ := by
        funext w s
        unfold cs
        rw [rn 154 (by omega) (by omega)]
      rw [rn (32 + w) (by omega) (by omega), rn 154 (by omega) (by omega), e9]
      exact hC.1 w s hw hs, ?_⟩
    intro i' hi'
    have em : sn (wI (wI μ (36) (i) (nI v)) (155) (i) (nI v)) i' = if i' = i then v else sn μ i' := by
      unfold sn
      by_cases q : i' = i
      · subst q
        rw [fld_eq, if_pos rfl, vN_nI (by omega)]
      · rw [fld_ne (fun z => q z.2), row_ne (by omega), if_neg q]
    rw [em]
    by_cases q : i' = i
    · subst q
      rw [if_pos rfl, row_ne (by omega), fld_eq, fld_eq]
      exact ⟨rfl, rfl, hv⟩
    · rw [if_neg q, row_ne (by omega), fld_ne (fun z => q z.2), fld_ne (fun z => q z.2), row_ne (by omega)]
      exact hC.2 i' hi'

theorem p_seams (x1 : Int32) : Pair (X10_seams 0 x1) (X11_seams 134 x1) := by
  intro μ h
  have h0 := h
  obtain ⟨o, ⟨w1, w2, w3, w4, w5, w6⟩, hC, hT, hS, hX, hL⟩ := h
  rcases gd x1 15 (by decide) with ⟨g0, k0⟩ | ⟨g0, k0, v, hv, rfl⟩
  · exact pairR h0 (by unfold X10_seams; rw [if_pos (show X10_within x1 0 15 = 0 from g0)]) (by unfold X11_seams; rw [if_pos (show X11_in (x1).toInt64 0 15 = 0 from k0)])
  have o1 : Ok (wI μ 1 5 (nI v)) := o
  refine ⟨ss μ, wI μ 1 5 (nI v), wI (wI μ (1) (5) (nI v)) (134) (3) (nI v), ?_, o, ?_, ?_⟩
  · unfold X10_seams
    rw [if_neg (show ¬ X10_within (nI v) 0 15 = 0 from g0), r_0_0 o, Option.bind_some, gI_eq (a := 1) o (by decide) rfl, w4.1, Option.bind_some, Option.bind_some, pI_eq (a := 1) o (by decide) rfl, Option.bind_some]
  · unfold X11_seams
    rw [if_neg (show ¬ X11_in ((nI v)).toInt64 0 15 = 0 from k0), gI_eq (a := 134) o1 (by decide) rfl, row_ne (by omega), Option.bind_some, pI_eq (a := 134) o1 (by decide) rfl, Option.bind_some]
    rfl
  · skip
    have ln : ∀ a k, ¬ (a = 1 ∧ k = 5) → ¬ (a = 134 ∧ k = 3) → mI (wI (wI μ (1) (5) (nI v)) (134) (3) (nI v)) a k = mI μ a k := fun a k q1 q2 => by rw [fld_ne q2, fld_ne q1]
    have rn : ∀ a, a ≠ 1 → a ≠ 134 → mI (wI (wI μ (1) (5) (nI v)) (134) (3) (nI v)) a = mI μ a := fun a q1 q2 => by rw [row_ne q2, row_ne q1]
    refine ⟨o, ⟨w1.cg (fun q hq => rn _ (by omega) (by omega)) (rn _ (by omega) (by omega)), w2.cg (fun q hq => rn _ (by omega) (by omega)) (rn _ (by omega) (by omega)), w3.cg (rn _ (by omega) (by omega)) (rn _ (by omega) (by omega)), ?_, w5.cg (fun q hq => rn _ (by omega) (by omega)) (rn _ (by omega) (by omega)), w6.cg (ln _ _ (by omega) (by omega)) (ln _ _ (by omega) (by omega))⟩, hC.cg (fun q hq => rn _ (by omega) (by omega)) (rn _ (by omega) (by omega)) (rn _ (by omega) (by omega)) (rn _ (by omega) (by omega)), hT.cg (ln _ _ (by omega) (by omega)) (ln _ _ (by omega) (by omega)) (fun q hq => rn _ (by omega) (by omega)) (fun q hq => rn _ (by omega) (by omega)) (nw_le (ln 134 5 (by omega) (by omega))), hS.cg (ln _ _ (by omega) (by omega)) (ln _ _ (by omega) (by omega)) (fun q hq => rn _ (by omega) (by omega)) (fun q hq => rn _ (by omega) (by omega)) (nw_le (ln 134 5 (by omega) (by omega))), hX.cg (ln _ _ (by omega) (by omega)) (ln _ _ (by omega) (by omega)) (rn _ (by omega) (by omega)) (rn _ (by omega) (by omega)) (ln _ _ (by omega) (by omega)) (ln _ _ (by omega) (by omega)), hL.cg o rfl (fun l c hl hc => rn _ (by unfold isLw at hl; omega) (by unfold isLw at hl; omega)) (fun c hc => rn _ (by omega) (by omega))⟩
    have em : ss (wI (wI μ (1) (5) (nI v)) (134) (3) (nI v)) = nI v := fld_eq
    unfold RW4
    rw [em, row_ne (by omega), fld_eq]
    exact ⟨rfl, v, hv, rfl⟩
