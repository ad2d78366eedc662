/-! ===== plan ===== -/
section PP
variable {μ : Mem} {p n : Nat}
theorem nd0B : ∀ x, x < 64 → ∀ l, l < 64 → decide (nd x l = 0) = decide (x &&& l = x) := by decide +kernel
theorem nd0 {x l : Nat} (hx : x < 64) (hl : l < 64) : (nd x l = 0) = (x &&& l = x) := by
  have := nd0B x hx l hl
  exact propext (decide_eq_decide.mp this)
theorem walk149 (I : Inv μ) (hp : p < 4) (hn : n ≤ 6) {ν : Mem} {st left pl : Nat} (hst : st < n) (h : FPm μ p n 0 ν) (hl : left < 2 ^ pK μ p) (hpl : pl < 2 ^ st) (hc : chP μ p n st left pl ≠ 0) (x3 x4 : Int32) : ∀ d k x, 1 ≤ x → x + d = chP μ p n st left pl → X11_plan_L149 134 (nI p) x3 x4 (nI left) (nI pl) (nI st) (nI (foP μ p n st left pl 63).2) ν (k + d + 1) (nI x) = some (nI (chP μ p n st left pl)) := by
  obtain ⟨a1, a2, a3⟩ := allK (μ := μ) (p := p)
  have fb := foP_bd I (p := p) hn hst left pl 63
  have sp := fo_sp (elB (cG μ p) (aw μ p) (mo μ p) st pl left) (fun x => cG μ p st x + BP μ p n (n - st - 1) (nd left x) (pl ||| 2 ^ st)) (BP μ p n (n - st - 1) left pl) 63
  obtain ⟨s, pk, g, b⟩ := h
  have g := g st (Nat.zero_le _) hst
  have b := b (st + 1) (Nat.zero_le _) hst
  rcases sp.2.2 with ⟨e, -⟩ | ⟨y1, y2, y3, e, y4, y5⟩
  · exact absurd e hc
  · have y1 : 1 ≤ chP μ p n st left pl := y1
    have y2 : chP μ p n st left pl ≤ 63 := y2
    have y3 : elB (cG μ p) (aw μ p) (mo μ p) st pl left (chP μ p n st left pl) = true := y3
    have e : (foP μ p n st left pl 63).2 = cG μ p st (chP μ p n st left pl) + BP μ p n (n - st - 1) (nd left (chP μ p n st left pl)) (pl ||| 2 ^ st) := e
    have y4 : BP μ p n (n - st - 1) left pl < (foP μ p n st left pl 63).2 := y4
    have y5 : ∀ x, 1 ≤ x → x < chP μ p n st left pl → elB (cG μ p) (aw μ p) (mo μ p) st pl left x = true → cG μ p st x + BP μ p n (n - st - 1) (nd left x) (pl ||| 2 ^ st) < (foP μ p n st left pl 63).2 := y5
    intro d
    induction d with
    | zero =>
      intro k x x1 xd
      have xd : x = chP μ p n st left pl := xd
      have xs : x &&& left = x := by rw [xd]; exact chP_sub _ _ _
      have x64 : x < 64 := by omega
      have ndx := nd_le x left
      have cz : (nI (nd x left) = 0) = (x &&& left = x) := (n_eq (b := 0) (by omega) (by decide)).trans (nd0 x64 (by omega))
      obtain ⟨y, ey, hy⟩ := by_m I hp hn hst s pk g b hl hpl x1 xs
      rw [← xd] at y3 e
      rcases hy with ⟨-, rfl⟩ | ⟨w, -⟩
      · rw [X11_plan_L149, nd_eq (by omega), if_pos (cz.mpr xs), vo_134 s.1, Option.bind_some, ey, Option.bind_some, e, if_pos rfl, xd]
      · rw [y3] at w
        cases w
    | succ d ih =>
      intro k x x1 xd
      have x64 : x < 64 := by omega
      have ndx := nd_le x left
      have cz : (nI (nd x left) = 0) = (x &&& left = x) := (n_eq (b := 0) (by omega) (by decide)).trans (nd0 x64 (by omega))
      have nx := ih k (x + 1) (by omega) (by omega)
      rw [show k + (d + 1) + 1 = k + d + 1 + 1 by omega, X11_plan_L149, nd_eq (by omega)]
      by_cases xs : x &&& left = x
      · obtain ⟨y, ey, hy⟩ := by_m I hp hn hst s pk g b hl hpl x1 xs
        have ne : ¬ y = nI (foP μ p n st left pl 63).2 := fun w => by
          rcases hy with ⟨e1, e2⟩ | ⟨-, nb⟩
          · have h1 := y5 x x1 (by omega) e1
            rw [e2] at w
            have := (n_eq (by omega) (by omega)).mp w
            omega
          · have h1 := NoB_le I hn (show left < 64 by omega) nb (Nat.le_refl _) (by omega)
            rw [w] at h1
            have := (n_le (by omega) (by omega)).mp h1
            omega
        rw [if_pos (cz.mpr xs), vo_134 s.1, Option.bind_some, ey, Option.bind_some, if_neg ne, nI_add1]
        exact nx
      · rw [if_neg (fun w => xs (cz.mp w)), nI_add1]
        exact nx
theorem wk2_lt (μ : Mem) (p n : Nat) : ∀ st, (wk μ p n st).2 < 2 ^ st
  | 0 => by
    show 0 < 2 ^ 0
    decide
  | st + 1 => by
    have ih := wk2_lt μ p n st
    have h1 : 2 ^ st < 2 ^ (st + 1) := Nat.pow_lt_pow_right (by decide) (by omega)
    rw [wk]
    show (if _ then _ else _) < _
    split
    · omega
    · exact Nat.or_lt_two_pow (by omega) h1
theorem walk100 (I : Inv μ) (hp : p < 4) (hn : n ≤ 6) {ν : Mem} (h : FPm μ p n 0 ν) {i : Nat} (hi : i < n) (x4 : Int32) : ∃ x6 x7 x9, X11_plan_L100 134 (nI p) (nI i) x4 ν FU (nI (2 ^ pK μ p - 1)) 0 0 0 = some (x6, x7, nI (chW μ p n i), x9) := by
  obtain ⟨a1, a2, a3⟩ := allK (μ := μ) (p := p)
  obtain ⟨⟨l, q, m⟩, P, e⟩ := loopF (F := fun k (b : Nat × Nat × Nat) j => X11_plan_L100 134 (nI p) (nI i) x4 ν k (nI b.1) (nI b.2.1) (nI b.2.2) (nI j)) (P := fun j b => b.1 = (wk μ p n j).1 ∧ b.2.1 = (wk μ p n j).2 ∧ (j = i + 1 → b.2.2 = chW μ p n i)) (n := i + 1) (r := fun b => (nI b.1, nI b.2.1, nI b.2.2, nI (i + 1))) (by omega) (fun k b j hj P => by
    obtain ⟨l, q, m⟩ := b
    obtain ⟨e1, e2, -⟩ : l = (wk μ p n j).1 ∧ q = (wk μ p n j).2 ∧ (j = i + 1 → m = chW μ p n i) := P
    have hl : l < 2 ^ pK μ p := by rw [e1]; exact wk_lt j
    have hq : q < 2 ^ j := by rw [e2]; exact wk2_lt μ p n j
    have h6 := p2_s (show j ≤ 6 by omega)
    have h7 : 2 ^ (j + 1) = 2 ^ j * 2 := Nat.pow_succ ..
    have h8 := p2_s (show j + 1 ≤ 6 by omega)
    have r0 := h.2.2.2 j (Nat.zero_le _) (by omega) l hl q hq
    have r1 := h.2.2.2 (j + 1) (Nat.zero_le _) (by omega) l hl q (by omega)
    rw [BP_s _ _ (show j < n by omega)] at r0
    rw [show n - (j + 1) = n - j - 1 by omega] at r1
    have fb := foP_bd I (p := p) hn (show j < n by omega) l q 63
    have sp := fo_sp (elB (cG μ p) (aw μ p) (mo μ p) j q l) (fun x => cG μ p j x + BP μ p n (n - j - 1) (nd l x) (q ||| 2 ^ j)) (BP μ p n (n - j - 1) l q) 63
    have sp1 : BP μ p n (n - j - 1) l q ≤ (foP μ p n j l q 63).2 := sp.1
    have cq : (nI (BP μ p n (n - j - 1) l q) = nI (foP μ p n j l q 63).2) = (chP μ p n j l q = 0) := by
      rw [n_eq (by omega) (by omega)]
      rcases sp.2.2 with ⟨c1, c2⟩ | ⟨c1, c2, c3, c4, c5, c6⟩
      · have c1 : chP μ p n j l q = 0 := c1
        have c2 : (foP μ p n j l q 63).2 = BP μ p n (n - j - 1) l q := c2
        exact propext ⟨fun _ => c1, fun _ => c2.symm⟩
      · have c1 : 1 ≤ chP μ p n j l q := c1
        have c5 : BP μ p n (n - j - 1) l q < (foP μ p n j l q 63).2 := c5
        exact propext ⟨fun w => by omega, fun w => by omega⟩
    have cl : chP μ p n j l q ≤ l := sub_le (chP_sub _ _ _)
    refine ⟨((wk μ p n (j + 1)).1, (wk μ p n (j + 1)).2, chP μ p n j l q), ⟨rfl, rfl, fun w => ?_⟩, ?_⟩
    · have : j = i := by omega
      subst this
      show chP μ p n j l q = chW μ p n j
      rw [e1, e2]
      rfl
    · show X11_plan_L100 134 (nI p) (nI i) x4 ν (k + 1) (nI l) (nI q) (nI m) (nI j) = X11_plan_L100 134 (nI p) (nI i) x4 ν k (nI (wk μ p n (j + 1)).1) (nI (wk μ p n (j + 1)).2) (nI (chP μ p n j l q)) (nI (j + 1))
      rw [X11_plan_L100, if_neg (nI_nlt (show j ≤ i by omega) (by omega)), r_134_42 h.1.1, Option.bind_some, place_n, ai_167 h.1.1 (by omega), r0, Option.bind_some, Option.bind_some, nI_add1, place_n, ai_167 h.1.1 (by omega), r1, Option.bind_some]
      simp only [cq]
      by_cases z : chP μ p n j l q = 0
      · rw [if_pos z, Option.bind_some]
        have w1 : (wk μ p n (j + 1)).1 = l := by
          rw [wk, ← e1, ← e2, z]
          exact nd_zero_r (by omega)
        have w2 : (wk μ p n (j + 1)).2 = q := by
          rw [wk, ← e1, ← e2, z]
          rfl
        rw [w1, w2, z]
        rfl
      · rw [if_neg z]
        have w := walk149 I hp hn (show j < n by omega) h hl hq z (nI i) x4 (chP μ p n j l q - 1) (99999 - (chP μ p n j l q - 1)) 1 (Nat.le_refl _) (by omega)
        rw [show 99999 - (chP μ p n j l q - 1) + (chP μ p n j l q - 1) + 1 = FU by unfold FU; omega] at w
        have w : X11_plan_L149 134 (nI p) (nI i) x4 (nI l) (nI q) (nI j) (nI (foP μ p n j l q 63).2) ν FU 1 = some (nI (chP μ p n j l q)) := w
        rw [w, Option.bind_some, Option.bind_some, nd_eq (by omega), sh31 j (by omega), fa_or]
        have w1 : (wk μ p n (j + 1)).1 = nd l (chP μ p n j l q) := by
          rw [wk, ← e1, ← e2]
        have w2 : (wk μ p n (j + 1)).2 = q ||| 2 ^ j := by
          rw [wk, ← e1, ← e2]
          exact if_neg z
        rw [w1, w2]) (fun k b P => by
    show X11_plan_L100 134 (nI p) (nI i) x4 ν (k + 1) (nI b.1) (nI b.2.1) (nI b.2.2) (nI (i + 1)) = _
    rw [X11_plan_L100, if_pos (nI_lt (by omega) (by omega))]) (2 ^ pK μ p - 1, 0, 0) ⟨rfl, rfl, fun w => by omega⟩
  have em : m = chW μ p n i := P.2.2 rfl
  refine ⟨nI l, nI q, nI (i + 1), ?_⟩
  rw [← em]
  exact e
theorem wm1 {x : Int32} (hn1 : 1 ≤ n) (hn : n ≤ 6) (h : ¬ X10_within x (-1) (nI n - 1) = 0) : x = -1 ∨ ∃ i, i < n ∧ x = nI i ∧ ¬ x = -1 := by
  rw [show nI n - 1 = nI (n - 1) from pk_sub (b := 1) hn1] at h
  unfold X10_within at h
  by_cases q : x < -1
  · rw [if_pos q] at h
    exact absurd rfl h
  · rw [if_neg q] at h
    by_cases q2 : nI (n - 1) < x
    · rw [if_pos q2] at h
      exact absurd rfl h
    · by_cases q3 : x < 0
      · left
        apply Int32.toInt_inj.mp
        rw [Int32.lt_iff_toInt_lt] at q q3
        have e1 : (-1 : Int32).toInt = -1 := rfl
        have e2 : (0 : Int32).toInt = 0 := rfl
        omega
      · obtain ⟨i, hi, rfl⟩ := win (show n - 1 < 2 ^ 31 by omega) q3 q2
        refine Or.inr ⟨i, by omega, rfl, fun w => q3 ?_⟩
        rw [w]
        decide
theorem p_plan (x1 x2 x3 x4 : Int32) : Pair (X10_plan 0 x1 x2 x3 x4) (X11_plan 134 x1 x2 x3 x4) := by
  intro μ I
  have o := I.1
  have W := I.2.1
  have hT := I.2.2.2.1.1.2.2
  rcases gd x1 3 (by decide) with ⟨g1, k1⟩ | ⟨g1, k1, p, hp3, rfl⟩
  · exact pairR I (by unfold X10_plan; rw [if_pos (show X10_isPerson x1 = 0 from g1)]) (by unfold X11_plan; rw [if_pos (show X11_isPerson x1 = 0 from k1)])
  have hp : p < 4 := by omega
  have i2 : X11_in x2.toInt64 1 6 = X10_within x2 1 6 := in_eq x2 1 6
  have i3 : X11_in x3.toInt64 (-1) (x2 - 1).toInt64 = X10_within x3 (-1) (x2 - 1) := in_eq x3 (-1) (x2 - 1)
  have i4 : X11_in x4.toInt64 0 1 = X10_within x4 0 1 := in_eq x4 0 1
  have g1 : ¬ X10_isPerson (nI p) = 0 := g1
  have k1 : ¬ X11_isPerson (nI p) = 0 := k1
  by_cases g2 : X10_within x2 1 6 = 0
  · exact pairR I (by unfold X10_plan; rw [if_neg g1, if_pos g2]) (by unfold X11_plan; rw [if_neg k1, if_pos (i2.trans g2)])
  have k2 : ¬ X11_in x2.toInt64 1 6 = 0 := fun w => g2 (i2.symm.trans w)
  by_cases g3 : X10_within x3 (-1) (x2 - 1) = 0
  · exact pairR I (by unfold X10_plan; rw [if_neg g1, if_neg g2, if_pos g3]) (by unfold X11_plan; rw [if_neg k1, if_neg k2, if_pos (i3.trans g3)])
  have k3 : ¬ X11_in x3.toInt64 (-1) (x2 - 1).toInt64 = 0 := fun w => g3 (i3.symm.trans w)
  by_cases g4 : X10_within x4 0 1 = 0
  · exact pairR I (by unfold X10_plan; rw [if_neg g1, if_neg g2, if_neg g3, if_pos g4]) (by unfold X11_plan; rw [if_neg k1, if_neg k2, if_neg k3, if_pos (i4.trans g4)])
  have k4 : ¬ X11_in x4.toInt64 0 1 = 0 := fun w => g4 (i4.symm.trans w)
  obtain ⟨n, hn1, hn6, rfl⟩ := win2 (a := 1) (b := 6) (by decide) (by decide) g2
  obtain ⟨a1, a2, a3⟩ := allK (μ := μ) (p := p)
  have hK := pK_le μ p
  obtain ⟨ν1, ⟨s1, c0, c1⟩, e1⟩ := make_c I hp hn1 hn6
  obtain ⟨ν2, h2, e2⟩ := plans_m I hp hn1 hn6 s1
  have s12 : Sm ν1 ν2 := by
    have s2 := h2.1
    refine ⟨s2.1, fun a k q => (s2.2.1 a k q).trans (s1.2.1 a k q).symm, s2.2.2.1.trans s1.2.2.1.symm, s2.2.2.2.trans s1.2.2.2.symm⟩
  have w10 : mI μ 0 10 = nI (nw μ) := W.2.2.2.2.2.1
  have hall : nI (2 ^ pK μ p) - 1 = nI (2 ^ pK μ p - 1) := pk_sub (b := 1) a2
  -- the two heads
  have hC : ∀ f : Mem → Option (Int32 × Mem), ((gR 10 6 0 μ).bind fun v5 => (gI 10 10 0 μ).bind fun v6 => (gR 10 4 0 μ).bind fun v7 => (aR 4 v7 (nI p) μ).bind fun v8 => (vO 4 v5 μ).bind fun _ => (X4_make v5 (nI p) (nI n) v6 v8 μ).bind f) = f ν1 := fun f => by
    rw [r_0_6 o, Option.bind_some, gi_0 o, w10, Option.bind_some, r_0_4 o, Option.bind_some, ar_laws o hp, Option.bind_some, vo_94 o, Option.bind_some, e1, Option.bind_some]
  have hM : ∀ f : Mem → Int32 → Option (Int32 × Mem), ((vO 11 134 ν1).bind fun _ => (X11_findPlans 134 (nI p) (nI n) ν1).bind fun μ6 => (gI 11 41 134 μ6).bind fun v7 => (some ((1 <<< (v7 &&& 31)) - 1 : Int32)).bind fun v8 => f μ6 v8) = f ν2 (nI (2 ^ pK μ p - 1)) := fun f => by
    rw [vo_134 s1.1, Option.bind_some, e2, Option.bind_some, gi_134 h2.1.1, h2.2.1.1, Option.bind_some, sh31 _ (by omega), hall, Option.bind_some]
  rcases wm1 hn1 hn6 g3 with rfl | ⟨i, hi, rfl, nm⟩
  · refine pairS I (r := nI (BP μ p n n (2 ^ pK μ p - 1) 0)) (μ1 := ν1) (μ2 := ν2) ?_ s1 ?_ s12
    · unfold X10_plan
      rw [if_neg g1, if_neg g2, if_neg g3, if_neg g4]
      refine (hC _).trans ?_
      rw [if_pos rfl, r_0_6 s1.1, Option.bind_some, gi_94 s1.1, c0, Option.bind_some]
    · unfold X11_plan
      rw [if_neg k1, if_neg k2, if_neg k3, if_neg k4]
      refine (hM (fun μ6 v8 => _)).trans ?_
      have r0 := h2.2.2.2 0 (Nat.le_refl _) (Nat.zero_le _) (2 ^ pK μ p - 1) (by omega) 0 (by decide)
      rw [if_pos rfl, r_134_42 h2.1.1, Option.bind_some, show X11_place 0 (nI (2 ^ pK μ p - 1)) 0 = _ from place_n 0 (2 ^ pK μ p - 1) 0, ai_167 h2.1.1 (by omega), r0, Option.bind_some]
      rfl
  · obtain ⟨x6, x7, x9, e3⟩ := walk100 I hp hn6 h2 hi x4
    obtain ⟨c5, c6⟩ := c1 i hi
    have chs : chW μ p n i &&& (wk μ p n i).1 = chW μ p n i := chP_sub _ _ _
    have chK : chW μ p n i < 2 ^ pK μ p := Nat.lt_of_le_of_lt (sub_le chs) (wk_lt i)
    have cz : (nI (chW μ p n i) = 0) = (chW μ p n i = 0) := n_eq (b := 0) (by omega) (by decide)
    have eM : ((if x4 = 0 then (vO 11 134 ν2).bind fun _ => (X11_setOf 134 (nI (chW μ p n i)) ν2).bind fun v16 => some v16 else if nI (chW μ p n i) = 0 then some (-1) else (gR 11 44 134 ν2).bind fun v13 => (aI v13 ((64 * nI i) + nI (chW μ p n i)) ν2).bind fun v14 => some v14 : Option Int32)) = some (if x4 = 0 then nI (rS μ p (chW μ p n i)) else wyV μ p n i) := by
      rw [vo_134 h2.1.1, Option.bind_some, setOf_m hT h2.1.1 h2.2.1 (by omega), Option.bind_some, r_134_44 h2.1.1, Option.bind_some, show (64 : Int32) = nI 64 from rfl, pk_mul, nI_add, ai_169 h2.1.1 (by omega), Option.bind_some]
      simp only [cz]
      by_cases q : x4 = 0
      · rw [if_pos q, if_pos q]
      · rw [if_neg q, if_neg q]
        unfold wyV
        by_cases y : chW μ p n i = 0
        · rw [if_pos y, if_pos y]
        · rw [if_neg y, if_neg y]
          have sp := fo_sp (elB (cG μ p) (aw μ p) (mo μ p) i (wk μ p n i).2 (wk μ p n i).1) (fun x => cG μ p i x + BP μ p n (n - i - 1) (nd (wk μ p n i).1 x) ((wk μ p n i).2 ||| 2 ^ i)) (BP μ p n (n - i - 1) (wk μ p n i).1 (wk μ p n i).2) 63
          have el : elB (cG μ p) (aw μ p) (mo μ p) i (wk μ p n i).2 (wk μ p n i).1 (chW μ p n i) = true := by
            rcases sp.2.2 with ⟨e, -⟩ | ⟨-, -, e, -⟩
            · exact absurd e y
            · exact e
          have cp : 0 < cG μ p i (chW μ p n i) := by
            unfold elB at el
            rw [Bool.and_eq_true, Bool.and_eq_true, decide_eq_true_eq, decide_eq_true_eq] at el
            exact el.2.1
          have ri := h2.2.2.1 i (Nat.zero_le _) hi (chW μ p n i) (by omega) chK
          have cg : (cGW μ p i (chW μ p n i)).1 = cG μ p i (chW μ p n i) := rfl
          rcases ri with ⟨r1, r2, r3, r4⟩ | ⟨w, a, b', hw, r1, r2, ab, b4, r3, r4⟩ | ⟨w, hw, r1, r4, r2, r3⟩
          · omega
          · omega
          · rw [r1, ← r4]
            rfl
    refine pairS I (r := if x4 = 0 then nI (rS μ p (chW μ p n i)) else wyV μ p n i) (μ1 := ν1) (μ2 := ν2) ?_ s1 ?_ s12
    · unfold X10_plan
      rw [if_neg g1, if_neg g2, if_neg g3, if_neg g4]
      refine (hC _).trans ?_
      rw [if_neg nm, r_0_6 s1.1, Option.bind_some, Option.bind_some, r_94_1 s1.1, Option.bind_some, r_94_2 s1.1, Option.bind_some, ai_95 s1.1 (by omega), ai_96 s1.1 (by omega), c5, c6, Option.bind_some, Option.bind_some]
      by_cases q : x4 = 0
      · rw [if_pos q, if_pos q, Option.bind_some]
      · rw [if_neg q, if_neg q, Option.bind_some]
    · unfold X11_plan
      rw [if_neg k1, if_neg k2, if_neg k3, if_neg k4]
      refine (hM (fun μ6 v8 => _)).trans ?_
      rw [if_neg nm, e3, Option.bind_some]
      show Option.bind (if x4 = 0 then _ else _ : Option Int32) _ = _
      rw [eM, Option.bind_some]
end PP
