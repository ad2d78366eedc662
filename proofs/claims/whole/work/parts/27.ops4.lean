theorem p_fits (x1 x2 : Int32) : Pair (X10_fits 0 x1 x2) (X11_fits 134 x1 x2) := by
  intro μ h
  have h0 := h
  obtain ⟨o, W, hC, hT, hS, hX, hL⟩ := h
  obtain ⟨w1, w2, w3, w4, w5, w6⟩ := id W
  rcases gd x1 3 (by decide) with ⟨g0, k0⟩ | ⟨g0, k0, p, hp, rfl⟩
  · exact pairR h0 (by unfold X10_fits; rw [if_pos (show X10_isPerson x1 = 0 from g0)]) (by unfold X11_fits; rw [if_pos (show X11_isPerson x1 = 0 from k0)])
  have hn := w6.2.2
  rcases gd x2 (nw μ) (by omega) with ⟨g2, k2⟩ | ⟨g2, k2, t, ht, rfl⟩
  · exact pairR h0 (by unfold X10_fits; rw [if_neg (show ¬ X10_isPerson (nI p) = 0 from g0), gI_eq (a := 0) o (by decide) rfl, w6.1, Option.bind_some, if_pos g2]) (by unfold X11_fits; rw [if_neg (show ¬ X11_isPerson (nI p) = 0 from k0), gI_eq (a := 134) o (by decide) rfl, w6.2.1, Option.bind_some, if_pos k2])
  obtain ⟨a, sa, ea⟩ := fits_c o W (p := p) (t := t) (by omega) (by omega)
  have Wa := W.sm sa
  obtain ⟨b, ⟨sb, -, hb⟩, eb⟩ := rows_ok sa.1 Wa (p := p) (t := t) (by omega) (by omega)
  refine pairS h0 (r := nI (allW μ true p t)) (μ1 := a) (μ2 := b) ?_ sa ?_ sb
  · unfold X10_fits
    rw [if_neg (show ¬ X10_isPerson (nI p) = 0 from g0), gI_eq (a := 0) o (by decide) rfl, w6.1, Option.bind_some, if_neg g2, r_0_0 o, Option.bind_some, vO_eq (c := 9) (a := 1) o (by decide) rfl, Option.bind_some, ea, Option.bind_some]
  · have e0 : aI 141 0 b = some (nI (wgt a true p t 0)) := (aI_eq (a := 141) (i := 0) sb.1 (by decide) rfl (by decide) (by decide)).trans (by rw [hb 0 (by decide)])
    have e1 : aI 141 1 b = some (nI (wgt a true p t 1)) := (aI_eq (a := 141) (i := 1) sb.1 (by decide) rfl (by decide) (by decide)).trans (by rw [hb 1 (by decide)])
    have e2 : aI 141 2 b = some (nI (wgt a true p t 2)) := (aI_eq (a := 141) (i := 2) sb.1 (by decide) rfl (by decide) (by decide)).trans (by rw [hb 2 (by decide)])
    have e3 : aI 141 3 b = some (nI (wgt a true p t 3)) := (aI_eq (a := 141) (i := 3) sb.1 (by decide) rfl (by decide) (by decide)).trans (by rw [hb 3 (by decide)])
    have hwa : mI a 134 5 = nI (nw μ) := (sa.fld (a := 134) (k := 5) rfl).trans w6.2.1
    unfold X11_fits
    rw [if_neg (show ¬ X11_isPerson (nI p) = 0 from k0), gI_eq (a := 134) sa.1 (by decide) rfl, hwa, Option.bind_some, if_neg k2, vO_eq (c := 11) (a := 134) sa.1 (by decide) rfl, Option.bind_some, eb, Option.bind_some, r_134_8 sb.1, Option.bind_some, e0, Option.bind_some, Option.bind_some, e1, Option.bind_some, Option.bind_some, e2, Option.bind_some, Option.bind_some, e3, Option.bind_some, nI_add, nI_add, nI_add, wgt_sm sa]
    rfl

theorem p_odds (x1 x2 x3 : Int32) : Pair (X10_odds 0 x1 x2 x3) (X11_odds 134 x1 x2 x3) := by
  intro μ h
  have h0 := h
  obtain ⟨o, W, hC, hT, hS, hX, hL⟩ := h
  obtain ⟨w1, w2, w3, w4, w5, w6⟩ := id W
  rcases gd x1 3 (by decide) with ⟨g0, k0⟩ | ⟨g0, k0, p, hp, rfl⟩
  · exact pairR h0 (by unfold X10_odds; rw [if_pos (show X10_isPerson x1 = 0 from g0)]) (by unfold X11_odds; rw [if_pos (show X11_isPerson x1 = 0 from k0)])
  rcases gd x2 3 (by decide) with ⟨g1, k1⟩ | ⟨g1, k1, i, hi, rfl⟩
  · exact pairR h0 (by unfold X10_odds; rw [if_neg (show ¬ X10_isPerson (nI p) = 0 from g0), if_pos (show X10_isState x2 = 0 from g1)]) (by unfold X11_odds; rw [if_neg (show ¬ X11_isPerson (nI p) = 0 from k0), if_pos (show X11_isState x2 = 0 from k1)])
  rcases gd x3 8 (by decide) with ⟨g2, k2⟩ | ⟨g2, k2, k, hk, rfl⟩
  · exact pairR h0 (by unfold X10_odds; rw [if_neg (show ¬ X10_isPerson (nI p) = 0 from g0), if_neg (show ¬ X10_isState (nI i) = 0 from g1), if_pos (show X10_isAhead x3 = 0 from g2)]) (by unfold X11_odds; rw [if_neg (show ¬ X11_isPerson (nI p) = 0 from k0), if_neg (show ¬ X11_isState (nI i) = 0 from k1), if_pos (show X11_in (x3).toInt64 0 8 = 0 from k2)])
  have hn := w6.2.2
  obtain ⟨a, ⟨sa, ha⟩, ea⟩ := look_ok o W (p := p) (t := nw μ) (k := k) (by omega) (by omega) (by omega)
  obtain ⟨b, ⟨sb, hb⟩, eb⟩ := modds_ok sa.1 (W.sm sa) (p := p) (t := nw μ) (k := k) (by omega) (by omega) (by omega)
  refine pairS h0 (r := nI (odd μ p (nw μ) k i)) (μ1 := a) (μ2 := b) ?_ sa ?_ sb
  · unfold X10_odds
    rw [if_neg (show ¬ X10_isPerson (nI p) = 0 from g0), if_neg (show ¬ X10_isState (nI i) = 0 from g1), if_neg (show ¬ X10_isAhead (nI k) = 0 from g2), r_0_0 o, Option.bind_some, gI_eq (a := 0) o (by decide) rfl, w6.1, Option.bind_some, vO_eq (c := 9) (a := 1) o (by decide) rfl, Option.bind_some, ea, Option.bind_some, r_0_0 sa.1, Option.bind_some, r_1_4 sa.1, Option.bind_some, ar_ahead sa.1 (by omega), Option.bind_some, aI_eq sa.1 (by omega) (s_ahead (by omega)) (by omega) (by decide), ha k (Nat.le_refl _) i (by omega), Option.bind_some]
  · have hwa : mI a 134 5 = nI (nw μ) := (sa.fld (a := 134) (k := 5) rfl).trans w6.2.1
    unfold X11_odds
    rw [if_neg (show ¬ X11_isPerson (nI p) = 0 from k0), if_neg (show ¬ X11_isState (nI i) = 0 from k1), if_neg (show ¬ X11_in ((nI k)).toInt64 0 8 = 0 from k2), gI_eq (a := 134) sa.1 (by decide) rfl, hwa, Option.bind_some, vO_eq (c := 11) (a := 134) sa.1 (by decide) rfl, Option.bind_some, eb, Option.bind_some, r_134_10 sb.1, Option.bind_some, aI_eq (a := 143) sb.1 (by decide) rfl (by omega) (by decide), hb i (by omega), Option.bind_some, odd_sm sa]

theorem p_seam (x1 x2 : Int32) : Pair (X10_seam 0 x1 x2) (X11_seam 134 x1 x2) := by
  intro μ h
  have h0 := h
  obtain ⟨o, W, hC, hT, hS, hX, hL⟩ := h
  obtain ⟨w1, w2, w3, w4, w5, w6⟩ := id W
  rcases gd x1 3 (by decide) with ⟨g0, k0⟩ | ⟨g0, k0, p, hp, rfl⟩
  · exact pairR h0 (by unfold X10_seam; rw [if_pos (show X10_isPerson x1 = 0 from g0)]) (by unfold X11_seam; rw [if_pos (show X11_isPerson x1 = 0 from k0)])
  have hn := w6.2.2
  rcases gd x2 8 (by decide) with ⟨g2, k2⟩ | ⟨g2, k2, k, hk, rfl⟩
  · exact pairR h0 (by unfold X10_seam; rw [if_neg (show ¬ X10_isPerson (nI p) = 0 from g0), if_pos (show X10_isAhead x2 = 0 from g2)]) (by unfold X11_seam; rw [if_neg (show ¬ X11_isPerson (nI p) = 0 from k0), if_pos (show X11_in x2.toInt64 0 8 = 0 from k2), Option.bind_some])
  obtain ⟨a, ⟨sa, ha⟩, ea⟩ := look_ok o W (p := p) (t := nw μ) (k := k) (by omega) (by omega) (by omega)
  obtain ⟨b, ⟨sb, hb⟩, eb⟩ := mseam_ok sa.1 (W.sm sa) (p := p) (t := nw μ) (k := k) (by omega) (by omega) (by omega)
  refine pairS h0 (r := nI (sS μ (odd μ p (nw μ) k))) (μ1 := a) (μ2 := b) ?_ sa ?_ sb
  · unfold X10_seam
    rw [if_neg (show ¬ X10_isPerson (nI p) = 0 from g0), if_neg (show ¬ X10_isAhead (nI k) = 0 from g2), r_0_0 o, Option.bind_some, gI_eq (a := 0) o (by decide) rfl, w6.1, Option.bind_some, vO_eq (c := 9) (a := 1) o (by decide) rfl, Option.bind_some, ea, Option.bind_some, r_0_0 sa.1, Option.bind_some, vO_eq (c := 9) (a := 1) sa.1 (by decide) rfl, Option.bind_some, seam_c sa.1 (W.sm sa) (by omega) (ha k (Nat.le_refl _)), Option.bind_some, sS_sm sa]
  · have hwa : mI a 134 5 = nI (nw μ) := (sa.fld (a := 134) (k := 5) rfl).trans w6.2.1
    unfold X11_seam
    rw [if_neg (show ¬ X11_isPerson (nI p) = 0 from k0), if_neg (show ¬ X11_in (nI k).toInt64 0 8 = 0 from k2), gI_eq (a := 134) sa.1 (by decide) rfl, hwa, Option.bind_some, vO_eq (c := 11) (a := 134) sa.1 (by decide) rfl, Option.bind_some, eb, Option.bind_some, Option.bind_some, sS_sm sa, show odd a p (nw μ) k = odd μ p (nw μ) k from funext (odd_sm sa p (nw μ) k)]

theorem until_both {μ a : Mem} (W : RelW μ) {p : Nat} (hp : p < 4) (sa : Sm μ a) (ha : ∀ s, s ≤ 8 → HI a (19 + s) 4 (odd μ p (nw μ) s)) (x2 : Int32) (m : Nat) : ∀ d k, k + d = 9 → ∃ r, X10_until_L41 0 x2 a (m + 1 + d) (nI k) = some (r, a) ∧ ∀ b, Sm μ b → ∃ c, Sm b c ∧ X11_until_L29 134 (nI p) x2 (m + 1 + d) (nI k) b = some (r, c)
  | 0, k, h => by
    have e : k = 9 := h
    subst e
    refine ⟨-1, ?_, fun b sb => ⟨b, Sm.rf sb.1, ?_⟩⟩
    · show X10_until_L41 0 x2 a (m + 1) (nI 9) = _
      rw [X10_until_L41, if_pos (by decide)]
    · show X11_until_L29 134 (nI p) x2 (m + 1) (nI 9) b = _
      rw [X11_until_L29, if_pos (by decide)]
  | d + 1, k, h => by
    have hw := W.2.2.2.2.2
    obtain ⟨r, ih1, ih2⟩ := until_both W hp sa ha x2 m d (k + 1) (by omega)
    have g8 : ¬ (8 : Int32) < nI k := by
      rw [show (8 : Int32) = nI 8 from rfl, n_lt (by decide) (by omega)]
      omega
    have eC : ∀ f, X10_until_L41 0 x2 a (f + 1) (nI k) = if nI (sS μ (odd μ p (nw μ) k)) < x2 then X10_until_L41 0 x2 a f (nI (k + 1)) else some (nI k, a) := fun f => by
      rw [X10_until_L41, if_neg g8, r_0_0 sa.1, Option.bind_some, vO_eq (c := 9) (a := 1) sa.1 (by decide) rfl, Option.bind_some, seam_c sa.1 (W.sm sa) (by omega) (ha k (by omega)), Option.bind_some, nI_add1, sS_sm sa]
    have eM : ∀ b, Sm μ b → ∃ c, Sm b c ∧ ∀ f, X11_until_L29 134 (nI p) x2 (f + 1) (nI k) b = if nI (sS μ (odd μ p (nw μ) k)) < x2 then X11_until_L29 134 (nI p) x2 f (nI (k + 1)) c else some (nI k, c) := fun b sb => by
      obtain ⟨c, ⟨sc, -⟩, ec⟩ := mseam_ok sb.1 (W.sm sb) hp (t := nw μ) (k := k) (by have := hw.2.2; omega) (by omega)
      refine ⟨c, sc, fun f => ?_⟩
      have hwb : mI b 134 5 = nI (nw μ) := (sb.fld (a := 134) (k := 5) rfl).trans hw.2.1
      rw [X11_until_L29, if_neg g8, gI_eq (a := 134) sb.1 (by decide) rfl, hwb, Option.bind_some, vO_eq (c := 11) (a := 134) sb.1 (by decide) rfl, Option.bind_some, ec, Option.bind_some, nI_add1, sS_sm sb, show odd b p (nw μ) k = odd μ p (nw μ) k from funext (odd_sm sb p (nw μ) k)]
    by_cases q : nI (sS μ (odd μ p (nw μ) k)) < x2
    · refine ⟨r, ?_, fun b sb => ?_⟩
      · show X10_until_L41 0 x2 a (m + 1 + d + 1) (nI k) = _
        rw [eC, if_pos q]
        exact ih1
      · obtain ⟨c, sc, ec⟩ := eM b sb
        obtain ⟨c2, sc2, ec2⟩ := ih2 c (sb.tr sc)
        refine ⟨c2, sc.tr sc2, ?_⟩
        show X11_until_L29 134 (nI p) x2 (m + 1 + d + 1) (nI k) b = _
        rw [ec, if_pos q]
        exact ec2
    · refine ⟨nI k, ?_, fun b sb => ?_⟩
      · show X10_until_L41 0 x2 a (m + 1 + d + 1) (nI k) = _
        rw [eC, if_neg q]
      · obtain ⟨c, sc, ec⟩ := eM b sb
        refine ⟨c, sc, ?_⟩
        show X11_until_L29 134 (nI p) x2 (m + 1 + d + 1) (nI k) b = _
        rw [ec, if_neg q]
theorem p_until (x1 x2 : Int32) : Pair (X10_until 0 x1 x2) (X11_until 134 x1 x2) := by
  intro μ h
  have h0 := h
  obtain ⟨o, W, hC, hT, hS, hX, hL⟩ := h
  obtain ⟨w1, w2, w3, w4, w5, w6⟩ := id W
  rcases gd x1 3 (by decide) with ⟨g0, k0⟩ | ⟨g0, k0, p, hp, rfl⟩
  · exact pairR h0 (by unfold X10_until; rw [if_pos (show X10_isPerson x1 = 0 from g0)]) (by unfold X11_until; rw [if_pos (show X11_isPerson x1 = 0 from k0)])
  have hn := w6.2.2
  rcases gd x2 1000000 (by decide) with ⟨g2, k2⟩ | ⟨g2, k2, -⟩
  · exact pairR h0 (by unfold X10_until; rw [if_neg (show ¬ X10_isPerson (nI p) = 0 from g0), if_pos (show X10_within x2 0 1000000 = 0 from g2)]) (by unfold X11_until; rw [if_neg (show ¬ X11_isPerson (nI p) = 0 from k0), if_pos (show X11_in x2.toInt64 0 1000000 = 0 from k2)])
  obtain ⟨a, ⟨sa, ha⟩, ea⟩ := look_ok o W (p := p) (t := nw μ) (k := 8) (by omega) (by omega) (by omega)
  obtain ⟨r, e1, e2⟩ := until_both W (p := p) (by omega) sa ha x2 99990 9 0 rfl
  obtain ⟨b, sb, e3⟩ := e2 a sa
  refine pairS h0 (r := r) (μ1 := a) (μ2 := b) ?_ sa ?_ sb
  · unfold X10_until
    rw [if_neg (show ¬ X10_isPerson (nI p) = 0 from g0), if_neg (show ¬ X10_within x2 0 1000000 = 0 from g2), r_0_0 o, Option.bind_some, gI_eq (a := 0) o (by decide) rfl, w6.1, Option.bind_some, vO_eq (c := 9) (a := 1) o (by decide) rfl, Option.bind_some, show (8 : Int32) = nI 8 from rfl, ea, Option.bind_some]
    exact e1
  · unfold X11_until
    rw [if_neg (show ¬ X11_isPerson (nI p) = 0 from k0), if_neg (show ¬ X11_in x2.toInt64 0 1000000 = 0 from k2)]
    exact e3
