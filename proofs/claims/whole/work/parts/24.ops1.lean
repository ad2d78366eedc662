/-! ===== calls, pair by pair: the class, then the reference; the same answer ===== -/
def Pair (fC fM : Mem → Option (Int32 × Mem)) : Prop := ∀ μ, Inv μ → ∃ r μ1 μ2, fC μ = some (r, μ1) ∧ Ok μ1 ∧ fM μ1 = some (r, μ2) ∧ Inv μ2
theorem pairR {fC fM : Mem → Option (Int32 × Mem)} {μ : Mem} (h : Inv μ) {r : Int32} (e1 : fC μ = some (r, μ)) (e2 : fM μ = some (r, μ)) : ∃ r μ1 μ2, fC μ = some (r, μ1) ∧ Ok μ1 ∧ fM μ1 = some (r, μ2) ∧ Inv μ2 := ⟨r, μ, μ, e1, h.1, e2, h⟩
theorem pairS {fC fM : Mem → Option (Int32 × Mem)} {μ μ1 μ2 : Mem} (h : Inv μ) {r : Int32} (e1 : fC μ = some (r, μ1)) (s1 : Sm μ μ1) (e2 : fM μ1 = some (r, μ2)) (s2 : Sm μ1 μ2) : ∃ r μ1 μ2, fC μ = some (r, μ1) ∧ Ok μ1 ∧ fM μ1 = some (r, μ2) ∧ Inv μ2 := ⟨r, μ1, μ2, e1, s1.1, e2, (h.sm s1).sm s2⟩
theorem nw_le {μ μ' : Mem} (e : mI μ' 134 5 = mI μ 134 5) : nw μ ≤ nw μ' := by
  unfold nw
  rw [e]
  exact Nat.le_refl _
theorem p_move (x1 x2 x3 : Int32) : Pair (X10_move 0 x1 x2 x3) (X11_move 134 x1 x2 x3) := by
  intro μ h
  have h0 := h
  obtain ⟨o, ⟨w1, w2, w3, w4, w5, w6⟩, hC, hT, hS, hX, hL⟩ := h
  rcases gd x1 3 (by decide) with ⟨g1, k1⟩ | ⟨g1, k1, i, hi, rfl⟩
  · exact pairR h0 (by unfold X10_move; rw [if_pos (show X10_isState x1 = 0 from g1)]) (by unfold X11_move; rw [if_pos (show X11_isState x1 = 0 from k1)])
  rcases gd x2 3 (by decide) with ⟨g2, k2⟩ | ⟨g2, k2, j, hj, rfl⟩
  · exact pairR h0 (by unfold X10_move; rw [if_neg (show ¬ X10_isState (nI i) = 0 from g1), if_pos (show X10_isState x2 = 0 from g2)]) (by unfold X11_move; rw [if_neg (show ¬ X11_isState (nI i) = 0 from k1), if_pos (show X11_isState x2 = 0 from k2)])
  rcases gd x3 4 (by decide) with ⟨g3, k3⟩ | ⟨g3, k3, v, hv, rfl⟩
  · exact pairR h0 (by unfold X10_move; rw [if_neg (show ¬ X10_isState (nI i) = 0 from g1), if_neg (show ¬ X10_isState (nI j) = 0 from g2), if_pos (show X10_isOften x3 = 0 from g3)]) (by unfold X11_move; rw [if_neg (show ¬ X11_isState (nI i) = 0 from k1), if_neg (show ¬ X11_isState (nI j) = 0 from k2), if_pos (show X11_in x3.toInt64 0 4 = 0 from k3)])
  have o1 : Ok (wI μ (3 + i) j (nI v)) := o
  have oldM := w1 i j (by omega) (by omega)
  refine ⟨nI (mv μ i j), wI μ (3 + i) j (nI v), wI (wI μ (3 + i) j (nI v)) 135 (4 * i + j) (nI v), ?_, o, ?_, ?_⟩
  · unfold X10_move
    rw [if_neg (show ¬ X10_isState (nI i) = 0 from g1), if_neg (show ¬ X10_isState (nI j) = 0 from g2), if_neg (show ¬ X10_isOften (nI v) = 0 from g3), r_0_0 o, Option.bind_some, r_1_0 o, Option.bind_some, ar_next o (by omega), Option.bind_some, exch o (by omega) (s_next (by omega)) (by omega) (by decide), Option.bind_some, oldM.1]
  · unfold X11_move
    rw [if_neg (show ¬ X11_isState (nI i) = 0 from k1), if_neg (show ¬ X11_isState (nI j) = 0 from k2), if_neg (show ¬ X11_in (nI v).toInt64 0 4 = 0 from k3), r_134_0 o1, Option.bind_some, show (4 : Int32) = nI 4 from rfl, pk_mul, nI_add, aI_eq (a := 135) o1 (by decide) rfl (by omega) (by decide), row_ne (by omega), oldM.2.1, Option.bind_some, Option.bind_some, sI_eq (a := 135) o1 (by decide) rfl (by omega) (by decide), Option.bind_some]
  · have rn : ∀ a, a ≠ 3 + i → a ≠ 135 → mI (wI (wI μ (3 + i) j (nI v)) 135 (4 * i + j) (nI v)) a = mI μ a := fun a q1 q2 => by rw [row_ne q2, row_ne q1]
    refine ⟨o, ⟨?_, w2.cg (fun q hq => rn _ (by omega) (by omega)) (rn _ (by omega) (by omega)), w3.cg (rn _ (by omega) (by omega)) (rn _ (by omega) (by omega)), w4.cg (by rw [rn _ (by omega) (by omega)]) (by rw [rn _ (by omega) (by omega)]), w5.cg (fun q hq => rn _ (by omega) (by omega)) (rn _ (by omega) (by omega)), w6.cg (by rw [rn _ (by omega) (by omega)]) (by rw [rn _ (by omega) (by omega)])⟩, hC.cg (fun q hq => rn _ (by omega) (by omega)) (rn _ (by omega) (by omega)) (rn _ (by omega) (by omega)) (rn _ (by omega) (by omega)), hT.cg (by rw [rn _ (by omega) (by omega)]) (by rw [rn _ (by omega) (by omega)]) (fun q hq => rn _ (by omega) (by omega)) (fun q hq => rn _ (by omega) (by omega)) (by unfold nw; rw [rn 134 (by omega) (by omega)]; exact Nat.le_refl _), hS.cg (by rw [rn _ (by omega) (by omega)]) (by rw [rn _ (by omega) (by omega)]) (fun q hq => rn _ (by omega) (by omega)) (fun q hq => rn _ (by omega) (by omega)) (by unfold nw; rw [rn 134 (by omega) (by omega)]; exact Nat.le_refl _), hX.cg (by rw [rn _ (by omega) (by omega)]) (by rw [rn _ (by omega) (by omega)]) (rn _ (by omega) (by omega)) (rn _ (by omega) (by omega)) (by rw [rn _ (by omega) (by omega)]) (by rw [rn _ (by omega) (by omega)]), hL.cg o rfl (fun l c hl hc => rn _ (by unfold isLw at hl; omega) (by unfold isLw at hl; omega)) (fun c hc => rn _ (by omega) (by omega))⟩
    intro i' j' hi' hj'
    have em : mv (wI (wI μ (3 + i) j (nI v)) 135 (4 * i + j) (nI v)) i' j' = if i' = i ∧ j' = j then v else mv μ i' j' := by
      unfold mv
      by_cases q : i' = i ∧ j' = j
      · obtain ⟨rfl, rfl⟩ := q
        rw [fld_eq, if_pos ⟨rfl, rfl⟩, vN_nI (by omega)]
      · rw [fld_ne (fun z => q (by omega)), row_ne (by omega), if_neg q]
    rw [em]
    by_cases q : i' = i ∧ j' = j
    · obtain ⟨rfl, rfl⟩ := q
      rw [if_pos ⟨rfl, rfl⟩, row_ne (by omega), fld_eq, fld_eq]
      exact ⟨rfl, rfl, hv⟩
    · rw [if_neg q, row_ne (by omega), fld_ne (fun z => q (by omega)), fld_ne (fun z => q (by omega)), row_ne (by omega)]
      exact w1 i' j' hi' hj'
