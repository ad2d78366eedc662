/-! ===== LOSS, VALUE ===== -/
def lsS (μ : Mem) (w : Nat) (f : Nat → Nat) : Nat := f 0 * cs μ w 0 / 1000000 + f 1 * cs μ w 1 / 1000000 + f 2 * cs μ w 2 / 1000000 + f 3 * cs μ w 3 / 1000000
theorem lsS_sm {μ μ' : Mem} (h : Sm μ μ') : lsS μ' = lsS μ := by
  funext w f
  unfold lsS
  rw [cs_sm h]
theorem loss_c {μ : Mem} (h : Ok μ) (C : RelC μ) {w r : Nat} (hw : w < 4) (hr : r < 175) (sr : S0 r = (1, 4)) {f : Nat → Nat} (hf : HI μ r 4 f) (fb : ∀ i, i < 4 → f i ≤ 1000000) : X8_lossBy 30 (nI w) r μ = some (nI (lsS μ w f)) := by
  have key := loopA (F := fun k (a : Int32) i => X8_lossBy_L5 30 (nI w) r μ k a (nI i)) (f := fun i a => a + nI (f i * cs μ w i / 1000000)) (n := 4) (fun k a i hi => by
    have b1 := fb i hi
    have b2 := (C.1 w i hw hi).2.2
    have b3 : f i * cs μ w i ≤ 1000000 * 999 := Nat.mul_le_mul b1 b2
    show X8_lossBy_L5 30 (nI w) r μ (k + 1) a (nI i) = _
    rw [X8_lossBy_L5, if_neg (ge4 hi), aI_eq h hr sr hi (by decide), hf i hi, Option.bind_some, r_30_0 h, Option.bind_some, ar_costs h hw, Option.bind_some, aI_eq h (by omega) (s_costs hw) hi (by decide), (C.1 w i hw hi).1, Option.bind_some, nI_l (by omega), nI_l (by omega), lN_mul, show (1000000 : Int64) = lN 1000000 from rfl, dvJ_eq (by omega) (by decide) (by decide), Option.bind_some, lN_i, Option.bind_some, nI_add1]) 4 99996 0 0 rfl
  have e : X8_lossBy_L5 30 (nI w) r μ FU 0 0 = some (nI (lsS μ w f), nI 4) := by
    refine (show X8_lossBy_L5 30 (nI w) r μ FU 0 0 = X8_lossBy_L5 30 (nI w) r μ (99996 + 4) 0 (nI 0) from rfl).trans (key.trans ?_)
    show X8_lossBy_L5 30 (nI w) r μ (99995 + 1) _ (nI 4) = _
    rw [X8_lossBy_L5, if_pos (by decide)]
    simp only [itr, ← nI_0, nI_add, Nat.zero_add]
    rfl
  unfold X8_lossBy
  rw [e, Option.bind_some]
theorem loss_m {μ : Mem} (h : Ok μ) (W : RelW μ) (C : RelC μ) {p t k w : Nat} (hp : p < 4) (ht : t < 61) (hk : k ≤ 8) (hw : w < 4) : ∃ μ', Sm μ μ' ∧ X11_lossOf 134 (nI p) (nI w) (nI t) (nI k) μ = some (nI (lsS μ w (odd μ p t k)), μ') := by
  obtain ⟨a, ⟨sa, ha⟩, ea⟩ := modds_ok h W hp ht hk
  have oa := sa.1
  have key := loopA (F := fun m (b : Int32) i => X11_lossOf_L14 134 (nI w) a m b (nI i)) (f := fun i b => b + nI (odd μ p t k i * cs μ w i / 1000000)) (n := 4) (fun m b i hi => by
    have b1 := odd_le (μ := μ) (p := p) (t := t) (k := k) hi
    have b2 := (C.1 w i hw hi).2.2
    have b3 : odd μ p t k i * cs μ w i ≤ 1000000 * 999 := Nat.mul_le_mul b1 b2
    show X11_lossOf_L14 134 (nI w) a (m + 1) b (nI i) = _
    rw [X11_lossOf_L14, if_neg (ge4 hi), r_134_10 oa, Option.bind_some, aI_eq (a := 143) oa (by decide) rfl hi (by decide), ha i hi, Option.bind_some, r_134_22 oa, Option.bind_some, show (4 : Int32) = nI 4 from rfl, pk_mul, nI_add, aI_eq (a := 154) oa (by decide) rfl (by omega) (by decide), sa.row (a := 154) rfl, (C.1 w i hw hi).2.1, Option.bind_some, pk_mul, show (1000000 : Int32) = nI 1000000 from rfl, dvI_eq (by omega) (by decide) (by decide), Option.bind_some, Option.bind_some, nI_add1]) 4 99996 0 0 rfl
  have e : X11_lossOf_L14 134 (nI w) a FU 0 0 = some (nI (lsS μ w (odd μ p t k)), nI 4) := by
    refine (show X11_lossOf_L14 134 (nI w) a FU 0 0 = X11_lossOf_L14 134 (nI w) a (99996 + 4) 0 (nI 0) from rfl).trans (key.trans ?_)
    show X11_lossOf_L14 134 (nI w) a (99995 + 1) _ (nI 4) = _
    rw [X11_lossOf_L14, if_pos (by decide)]
    simp only [itr, ← nI_0, nI_add, Nat.zero_add]
    rfl
  refine ⟨a, sa, ?_⟩
  unfold X11_lossOf
  rw [vO_eq (c := 11) (a := 134) h (by decide) rfl, Option.bind_some, ea, Option.bind_some, e, Option.bind_some]
theorem p_loss (x1 x2 x3 : Int32) : Pair (X10_loss 0 x1 x2 x3) (X11_loss 134 x1 x2 x3) := by
  intro μ h
  have h0 := h
  obtain ⟨o, W, hC, hT, hS, hX, hL⟩ := h
  obtain ⟨w1, w2, w3, w4, w5, w6⟩ := id W
  rcases gd x1 3 (by decide) with ⟨g0, k0⟩ | ⟨g0, k0, p, hp, rfl⟩
  · exact pairR h0 (by unfold X10_loss; rw [if_pos (show X10_isPerson x1 = 0 from g0)]) (by unfold X11_loss; rw [if_pos (show X11_isPerson x1 = 0 from k0)])
  have hn := w6.2.2
  rcases gd x2 3 (by decide) with ⟨g2, k2⟩ | ⟨g2, k2, w, hw, rfl⟩
  · exact pairR h0 (by unfold X10_loss; rw [if_neg (show ¬ X10_isPerson (nI p) = 0 from g0), if_pos (show X10_isWay x2 = 0 from g2)]) (by unfold X11_loss; rw [if_neg (show ¬ X11_isPerson (nI p) = 0 from k0), if_pos (show X11_isWay x2 = 0 from k2), Option.bind_some])
  rcases gd x3 8 (by decide) with ⟨g3, k3⟩ | ⟨g3, k3, k, hk, rfl⟩
  · exact pairR h0 (by unfold X10_loss; rw [if_neg (show ¬ X10_isPerson (nI p) = 0 from g0), if_neg (show ¬ X10_isWay (nI w) = 0 from g2), if_pos (show X10_isAhead x3 = 0 from g3)]) (by unfold X11_loss; rw [if_neg (show ¬ X11_isPerson (nI p) = 0 from k0), if_neg (show ¬ X11_isWay (nI w) = 0 from k2), if_pos (show X11_in x3.toInt64 0 8 = 0 from k3), Option.bind_some])
  obtain ⟨a, ⟨sa, ha⟩, ea⟩ := look_ok o W (p := p) (t := nw μ) (k := k) (by omega) (by omega) (by omega)
  have Ia := h0.sm sa
  obtain ⟨b, sb, eb⟩ := loss_m sa.1 (W.sm sa) Ia.2.2.1 (p := p) (t := nw μ) (k := k) (w := w) (by omega) (by omega) (by omega) (by omega)
  refine pairS h0 (r := nI (lsS μ w (odd μ p (nw μ) k))) (μ1 := a) (μ2 := b) ?_ sa ?_ sb
  · unfold X10_loss
    rw [if_neg (show ¬ X10_isPerson (nI p) = 0 from g0), if_neg (show ¬ X10_isWay (nI w) = 0 from g2), if_neg (show ¬ X10_isAhead (nI k) = 0 from g3), r_0_0 o, Option.bind_some, gI_eq (a := 0) o (by decide) rfl, w6.1, Option.bind_some, vO_eq (c := 9) (a := 1) o (by decide) rfl, Option.bind_some, ea, Option.bind_some, r_0_1 sa.1, Option.bind_some, r_0_0 sa.1, Option.bind_some, r_1_4 sa.1, Option.bind_some, ar_ahead sa.1 (by omega), Option.bind_some, vO_eq (c := 8) (a := 30) sa.1 (by decide) rfl, Option.bind_some, loss_c sa.1 Ia.2.2.1 (by omega) (by omega) (s_ahead (by omega)) (ha k (Nat.le_refl _)) (fun i hi => odd_le hi), Option.bind_some, lsS_sm sa]
  · have hwa : mI a 134 5 = nI (nw μ) := (sa.fld (a := 134) (k := 5) rfl).trans w6.2.1
    unfold X11_loss
    rw [if_neg (show ¬ X11_isPerson (nI p) = 0 from k0), if_neg (show ¬ X11_isWay (nI w) = 0 from k2), if_neg (show ¬ X11_in (nI k).toInt64 0 8 = 0 from k3), gI_eq (a := 134) sa.1 (by decide) rfl, hwa, Option.bind_some, vO_eq (c := 11) (a := 134) sa.1 (by decide) rfl, Option.bind_some, eb, Option.bind_some, Option.bind_some, lsS_sm sa, show odd a p (nw μ) k = odd μ p (nw μ) k from funext (odd_sm sa p (nw μ) k)]
