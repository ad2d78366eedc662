/-! ===== plans, of the reference: what is looked at ===== -/
theorem fr_seam {x1 x2 x3 : Int32} {μ : Mem} {r : Int32 × Mem} (h : X11_seamOdds 134 x1 x2 x3 μ = some r) (o : Ok μ) : FRm μ r.2 := by
  unfold X11_seamOdds at h
  obtain ⟨-, e, h⟩ := bindE h
  obtain ⟨m, e2, h⟩ := bindE h
  obtain ⟨z, e3, h⟩ := bindE h
  cases h
  exact fr_X11_findOdds _ _ _ _ _ e2 o
theorem fr_loss {x1 x2 x3 x4 : Int32} {μ : Mem} {r : Int32 × Mem} (h : X11_lossOf 134 x1 x2 x3 x4 μ = some r) (o : Ok μ) : FRm μ r.2 := by
  unfold X11_lossOf at h
  obtain ⟨-, e, h⟩ := bindE h
  obtain ⟨m, e2, h⟩ := bindE h
  obtain ⟨z, e3, h⟩ := bindE h
  cases h
  exact fr_X11_findOdds _ _ _ _ _ e2 o
theorem val_fr {μ : Mem} (h : Ok μ) (W : RelW μ) (T : RelT μ) {p t k : Nat} (hp : p < 4) (ht : t < 10) (hk : k ≤ 8) : ∃ μ', (Sm μ μ' ∧ FRm μ μ') ∧ X11_valueOf 134 (nI t) (nI p) (nI k) μ = some (valV μ t k (sS μ (odd μ p (nw μ) k)), μ') := by
  have hn := W.2.2.2.2.2.2.2
  have hw := W.2.2.2.2.2.2.1
  have f := fun c hc => (T.2.1 c t hc ht).2.1
  have b6 : tv μ 6 t ≤ 60 := (T.2.1 6 t (by decide) ht).2.2
  have b8 : tv μ 8 t ≤ 1 := (T.2.1 8 t (by decide) ht).2.2
  have b1 : tv μ 1 t ≤ 3 := (T.2.1 1 t (by decide) ht).2.2
  have c8 : nI (tv μ 8 t) = 0 ↔ tv μ 8 t = 0 := nI_eq (b := 0) (by omega) (by decide)
  have c6 : nI (tv μ 6 t) < nI (nw μ + k) ↔ tv μ 6 t < nw μ + k := nI_ltI (by omega) (by omega)
  have c1 : nI (tv μ 1 t) = 2 ↔ tv μ 1 t = 2 := nI_eq (b := 2) (by omega) (by decide)
  have r4 : aI 149 (nI t) μ = some (nI (tv μ 4 t)) := (aI_eq (a := 149) h (by decide) rfl ht (by decide)).trans (by rw [← f 4 (by decide)])
  have r5 : aI 150 (nI t) μ = some (nI (tv μ 5 t)) := (aI_eq (a := 150) h (by decide) rfl ht (by decide)).trans (by rw [← f 5 (by decide)])
  have r7 : aI 152 (nI t) μ = some (nI (tv μ 7 t)) := (aI_eq (a := 152) h (by decide) rfl ht (by decide)).trans (by rw [← f 7 (by decide)])
  have r8 : aZ 153 (nI t) μ = some (nI (tv μ 8 t)) := (aZ_eq (a := 153) h (by decide) rfl ht (by decide)).trans (by rw [← f 8 (by decide)])
  have r6 : aI 151 (nI t) μ = some (nI (tv μ 6 t)) := (aI_eq (a := 151) h (by decide) rfl ht (by decide)).trans (by rw [← f 6 (by decide)])
  have r1 : aI 146 (nI t) μ = some (nI (tv μ 1 t)) := (aI_eq (a := 146) h (by decide) rfl ht (by decide)).trans (by rw [← f 1 (by decide)])
  obtain ⟨b, ⟨sb, -⟩, eb⟩ := mseam_ok h W hp (t := nw μ) (k := k) (by omega) hk
  have fb : FRm μ b := fr_seam eb h
  unfold X11_valueOf valV
  rw [gI_eq (a := 134) h (by decide) rfl, hw]
  simp only [Option.bind_some, nI_add, r_134_17 h, r4, r_134_18 h, r5, r_134_20 h, r7, r_134_21 h, r8]
  by_cases q8 : tv μ 8 t = 0
  · rw [if_pos (c8.mpr q8), if_pos q8, r_134_19 h, Option.bind_some, r6, Option.bind_some]
    by_cases q6 : nw μ + k ≤ tv μ 6 t
    · rw [if_neg (fun z => by have := c6.mp z; omega), if_pos q6]
      by_cases q : 0 < valD μ t k
      · rw [if_pos q, if_pos (show 0 < nI (tv μ 4 t) - nI (tv μ 5 t) * (nI (nw μ + k) - nI (tv μ 7 t)) from q), r_134_14 h, Option.bind_some, r1, Option.bind_some]
        by_cases q1 : tv μ 1 t = 2
        · refine ⟨b, ⟨sb, fb⟩, ?_⟩
          rw [if_pos (c1.mpr q1), if_pos q1, vO_eq (c := 11) (a := 134) h (by decide) rfl, Option.bind_some, eb, Option.bind_some, dvM, Option.bind_some, Option.bind_some]
          rfl
        · refine ⟨μ, ⟨Sm.rf h, FRm.rf h⟩, ?_⟩
          rw [if_neg (fun z => q1 (c1.mp z)), if_neg q1, Option.bind_some]
          rfl
      · refine ⟨μ, ⟨Sm.rf h, FRm.rf h⟩, ?_⟩
        rw [if_neg q, if_neg (show ¬ 0 < nI (tv μ 4 t) - nI (tv μ 5 t) * (nI (nw μ + k) - nI (tv μ 7 t)) from q)]
    · refine ⟨μ, ⟨Sm.rf h, FRm.rf h⟩, ?_⟩
      rw [if_pos (c6.mpr (by omega)), if_neg q6]
  · refine ⟨μ, ⟨Sm.rf h, FRm.rf h⟩, ?_⟩
    rw [if_neg (fun z => q8 (c8.mp z)), if_neg q8]
def PKm (μ : Mem) (p : Nat) (ν : Mem) : Prop := mI ν 134 41 = nI (pK μ p) ∧ ∀ k, k < pK μ p → mI ν 166 k = nI (pA μ p k)
theorem cor41 : cor 134 41 = false := rfl
theorem corM {a : Nat} (h : 166 ≤ a ∧ a ≤ 169) (k : Nat) : cor a k = false := by
  unfold cor
  have h1 : coA a = false := by
    unfold coA
    rw [decide_eq_false_iff_not]
    omega
  have h2 : coF a k = false := by
    rcases (show a = 166 ∨ a = 167 ∨ a = 168 ∨ a = 169 by omega) with rfl | rfl | rfl | rfl <;> rfl
  rw [h1, h2]
  rfl
theorem pickM {μ ν0 : Mem} (I : Inv μ) {p : Nat} (hp : p < 4) (s0 : Sm μ ν0) (z0 : mI ν0 134 41 = nI 0) (x2 : Int32) : ∃ ν x, (Sm μ ν ∧ PKm μ p ν) ∧ X11_findPlans_L7 134 (nI p) x2 FU 0 ν0 = some (x, ν) := by
  obtain ⟨o, W, C, T, S, X, L⟩ := I
  have hn := T.1.2.2
  obtain ⟨b, Q, e⟩ := loopE (F := fun m (ν : Mem) i => X11_findPlans_L7 134 (nI p) x2 m (nI i) ν) (P := fun i ν => Sm μ ν ∧ mI ν 134 41 = nI (pS μ p i).1 ∧ ∀ k, k < (pS μ p i).1 → mI ν 166 k = nI ((pS μ p i).2 k)) (Q := fun b => Sm μ b.2 ∧ PKm μ p b.2) (n := tn μ) (by omega) (fun m ν i hi P => by
    obtain ⟨s, pc, pa⟩ := P
    have oν := s.1
    have Tν := Onl.T s T
    have i10 : i < 10 := by omega
    obtain ⟨q6, q7, q8⟩ := pS_ok μ p i
    have ct : mI ν 134 12 = nI (tn μ) := (s.fld (a := 134) (k := 12) rfl).trans T.1.2.1
    have f0 : mI ν 145 i = nI (tv μ 0 i) := by rw [s.row (a := 145) rfl]; exact (T.2.1 0 i (by decide) i10).2.1
    have b0 : tv μ 0 i ≤ 15 := (T.2.1 0 i (by decide) i10).2.2
    have st := stand_m oν (W.sm s) Tν (Onl.S s S) i10
    rw [stV_sm s] at st
    have sl := stV_le μ i
    have cs0 : (nI (stV μ i) = 0) = (stV μ i = 0) := n_eq (b := 0) (by omega) (by decide)
    show (∃ a', _ ∧ X11_findPlans_L7 134 (nI p) x2 (m + 1) (nI i) ν = _) ∨ ∃ b, _ ∧ X11_findPlans_L7 134 (nI p) x2 (m + 1) (nI i) ν = some b
    rw [X11_findPlans_L7, gi_134 oν, ct, Option.bind_some, if_neg (nI_ge hi (by omega)), gi_134 oν, pc, Option.bind_some]
    have c6 : ((6 : Int32) ≤ nI (pS μ p i).1) = (6 ≤ (pS μ p i).1) := n_le (a := 6) (by decide) (by omega)
    simp only [c6]
    by_cases z6 : 6 ≤ (pS μ p i).1
    · refine Or.inr ⟨(nI i, ν), ⟨s, ?_, ?_⟩, by rw [if_pos z6]⟩
      · rw [pc]
        unfold pK
        rw [show tn μ = i + (tn μ - i) by omega, pS_st (by omega)]
      · intro k hk
        unfold pK at hk
        unfold pA
        rw [show tn μ = i + (tn μ - i) by omega, pS_st (by omega)] at hk ⊢
        exact pa k hk
    · rw [if_neg z6]
      simp only [Option.bind_some, vo_134 oν, st, cs0, r_134_13 oν, ai_145 oν i10, f0, bt_1, bt_t1 (show tv μ 0 i < 2 ^ 31 by omega) (show p < 31 by omega), gi_134 oν, pc, r_134_40 oν, si_166 oν (show (pS μ p i).1 < 6 by omega)]
      by_cases q : stV μ i = 0 ∧ (tv μ 0 i).testBit p = true
      · refine Or.inl ⟨wI (wI ν 166 (pS μ p i).1 (nI i)) 134 41 (nI ((pS μ p i).1 + 1)), ⟨(s.wI (corM (by decide) _)).wI cor41, ?_, fun k hk => ?_⟩, ?_⟩
        · rw [fld_eq, pS, if_pos ⟨by omega, q⟩]
        · rw [pS, if_pos ⟨by omega, q⟩] at hk ⊢
          have hk : k < (pS μ p i).1 + 1 := hk
          show mI _ 166 k = nI (if k = (pS μ p i).1 then i else (pS μ p i).2 k)
          rw [row_ne (by decide)]
          by_cases e : k = (pS μ p i).1
          · rw [if_pos e, e, fld_eq]
          · rw [if_neg e, fld_ne (by omega)]
            exact pa k (by omega)
        · rw [if_pos q.1, if_pos q.2, gi_134 oν.wI, row_ne (by decide), pc, Option.bind_some, nI_add1, pi_134 oν.wI, Option.bind_some, Option.bind_some, nI_add1]
      · refine Or.inl ⟨ν, ⟨s, ?_, ?_⟩, ?_⟩
        · rw [pS, if_neg (fun z => q z.2)]
          exact pc
        · rw [pS, if_neg (fun z => q z.2)]
          exact pa
        · by_cases qb : stV μ i = 0
          · rw [if_pos qb, if_neg (fun z => q ⟨qb, z⟩), Option.bind_some, nI_add1]
          · rw [if_neg qb, Option.bind_some, nI_add1]) (fun m ν P => by
    obtain ⟨s, pc, pa⟩ := P
    have ct : mI ν 134 12 = nI (tn μ) := (s.fld (a := 134) (k := 12) rfl).trans T.1.2.1
    refine ⟨(nI (tn μ), ν), ⟨s, pc, pa⟩, ?_⟩
    show X11_findPlans_L7 134 (nI p) x2 (m + 1) (nI (tn μ)) ν = _
    rw [X11_findPlans_L7, gi_134 s.1, ct, Option.bind_some, if_pos (nI_le (Nat.le_refl _) (by omega))]) ν0 ⟨s0, z0, fun k hk => absurd hk (by rw [pS]; omega)⟩
  exact ⟨b.2, b.1, Q, e⟩
theorem sh0 : ∀ t, t < 31 → nI 0 <<< (nI t &&& 31) = 0 := by decide +kernel
theorem sh1 : ∀ t, t < 31 → nI 1 <<< (nI t &&& 31) = nI (2 ^ t) := by decide +kernel
theorem setOf_m {μ ν : Mem} {p x : Nat} (hT : tn μ ≤ 10) (o : Ok ν) (pk : PKm μ p ν) (hx : x < 64) : X11_setOf 134 (nI x) ν = some (nI (rS μ p x)) := by
  have hK := pK_le μ p
  obtain ⟨a, P, e⟩ := loopF (F := fun m (a : Nat) i => X11_setOf_L4 134 (nI x) ν m (nI a) (nI i)) (P := fun i a => a = rN μ p x i) (n := pK μ p) (r := fun a => (nI a, nI (pK μ p))) (by omega) (fun m a i hi P => by
    subst P
    have ti := pA_lt hi
    refine ⟨_, rfl, ?_⟩
    show X11_setOf_L4 134 (nI x) ν (m + 1) (nI (rN μ p x i)) (nI i) = X11_setOf_L4 134 (nI x) ν m (nI (rN μ p x (i + 1))) (nI (i + 1))
    rw [X11_setOf_L4, gi_134 o, pk.1, Option.bind_some, if_neg (nI_ge hi (by omega)), r_134_40 o, Option.bind_some, ai_166 o (by omega), pk.2 i hi, Option.bind_some, Option.bind_some, nI_add1, bt_eq, rN]
    by_cases q : x.testBit i = true
    · have b1 : bt (nI x) i = 1 := by rw [bt_t1 (by omega) (by omega)]; exact q
      rw [b1, sh1 _ (by omega), fa_or, if_pos q]
    · have b0 : bt (nI x) i = 0 := by
        rw [bt_t (by omega) (by omega)]
        cases z : x.testBit i
        · rfl
        · exact absurd z q
      rw [b0, sh0 _ (by omega), Int32.or_zero, if_neg q]) (fun m a P => by
    show X11_setOf_L4 134 (nI x) ν (m + 1) (nI a) (nI (pK μ p)) = _
    rw [X11_setOf_L4, gi_134 o, pk.1, Option.bind_some, if_pos (nI_le (Nat.le_refl _) (by omega))]) 0 rfl
  subst P
  have e : X11_setOf_L4 134 (nI x) ν FU 0 0 = _ := e
  unfold X11_setOf
  rw [e, Option.bind_some]
  rfl
/-! one MATTER, both ways -/
theorem rN_bit {μ : Mem} {p x : Nat} : ∀ k t, (rN μ p x k).testBit t = true ↔ ∃ i, i < k ∧ x.testBit i = true ∧ pA μ p i = t
  | 0, t => by
    rw [rN, Nat.zero_testBit]
    exact ⟨fun h => absurd h (by decide), fun ⟨i, hi, _⟩ => by omega⟩
  | k + 1, t => by
    have ih := rN_bit (μ := μ) (p := p) (x := x) k t
    rw [rN]
    by_cases q : x.testBit k = true
    · rw [if_pos q, or_put_bit, Bool.or_eq_true, ih, decide_eq_true_eq]
      constructor
      · rintro (⟨i, h1, h2, h3⟩ | h)
        · exact ⟨i, by omega, h2, h3⟩
        · exact ⟨k, by omega, q, h⟩
      · rintro ⟨i, h1, h2, h3⟩
        by_cases e : i = k
        · subst e
          exact Or.inr h3
        · exact Or.inl ⟨i, by omega, h2, h3⟩
    · rw [if_neg q, ih]
      constructor
      · rintro ⟨i, h1, h2, h3⟩
        exact ⟨i, by omega, h2, h3⟩
      · rintro ⟨i, h1, h2, h3⟩
        by_cases e : i = k
        · subst e
          exact absurd h2 q
        · exact ⟨i, by omega, h2, h3⟩
theorem neg1_nI {c : Nat} (h : c ≤ 5) : ¬ nI c = -1 := fun z => by
  have := congrArg Int32.toInt z
  rw [nI_toInt (by omega)] at this
  have e : (-1 : Int32).toInt = -1 := rfl
  omega
theorem mN_sp {μ : Mem} (T : RelT μ) {p x : Nat} : ∀ k, k ≤ pK μ p → ((∀ i, i < k → x.testBit i = false) ∧ mN' μ p x k = -1) ∨ ((∃ i, i < k ∧ x.testBit i = true) ∧ ((∃ c, c ≤ 5 ∧ mN' μ p x k = nI c ∧ ∀ i, i < k → x.testBit i = true → tv μ 2 (pA μ p i) = c) ∨ (mN' μ p x k = -1 ∧ ∃ i j, i < k ∧ j < k ∧ x.testBit i = true ∧ x.testBit j = true ∧ tv μ 2 (pA μ p i) ≠ tv μ 2 (pA μ p j))))
  | 0, _ => Or.inl ⟨fun i hi => by omega, rfl⟩
  | k + 1, hk => by
    have hn := T.1.2.2
    have tk := pA_lt (μ := μ) (p := p) (k := k) (by omega)
    have bm : tv μ 2 (pA μ p k) ≤ 5 := (T.2.1 2 (pA μ p k) (by decide) (by omega)).2.2
    have mz : x % 2 ^ k = 0 ↔ ∀ i, i < k → x.testBit i = false := by
      constructor
      · intro h i hi
        have := congrArg (fun z => z.testBit i) h
        simp only [Nat.testBit_mod_two_pow, decide_eq_true hi, Bool.true_and, Nat.zero_testBit] at this
        exact this
      · intro h
        apply Nat.eq_of_testBit_eq
        intro i
        rw [Nat.testBit_mod_two_pow, Nat.zero_testBit]
        by_cases q : i < k
        · rw [h i q, Bool.and_false]
        · rw [decide_eq_false q, Bool.false_and]
    rw [mN']
    rcases mN_sp T (p := p) (x := x) k (by omega) with ⟨h1, h2⟩ | ⟨⟨i0, hi0, hb0⟩, h2⟩
    · by_cases q : x.testBit k = true
      · right
        rw [if_pos q, if_pos (Or.inl (mz.mpr h1))]
        refine ⟨⟨k, by omega, q⟩, Or.inl ⟨_, bm, rfl, fun i hi hb => ?_⟩⟩
        by_cases e : i = k
        · rw [e]
        · have := h1 i (by omega)
          rw [this] at hb
          cases hb
      · left
        rw [if_neg q]
        refine ⟨fun i hi => ?_, h2⟩
        by_cases e : i = k
        · subst e
          cases z : x.testBit i
          · rfl
          · exact absurd z q
        · exact h1 i (by omega)
    · right
      refine ⟨⟨i0, by omega, hb0⟩, ?_⟩
      have nz : ¬ x % 2 ^ k = 0 := fun w => by
        have := mz.mp w i0 hi0
        rw [this] at hb0
        cases hb0
      by_cases q : x.testBit k = true
      · rw [if_pos q]
        rcases h2 with ⟨c, hc, e1, e2⟩ | ⟨e1, i, j, hi, hj, bi, bj, ne⟩
        · by_cases z : nI c = nI (tv μ 2 (pA μ p k))
          · rw [if_pos (Or.inr (by rw [e1]; exact z))]
            have ec : c = tv μ 2 (pA μ p k) := (n_eq (by omega) (by omega)).mp z
            refine Or.inl ⟨_, bm, rfl, fun i hi hb => ?_⟩
            by_cases e : i = k
            · rw [e]
            · rw [e2 i (by omega) hb, ec]
          · rw [if_neg (fun w => w.elim nz (fun v => z (by rw [← e1]; exact v)))]
            refine Or.inr ⟨rfl, i0, k, by omega, by omega, hb0, q, ?_⟩
            rw [e2 i0 hi0 hb0]
            exact fun w => z (by rw [w])
        · rw [if_neg (fun w => w.elim nz (fun v => by rw [e1] at v; exact neg1_nI bm v.symm))]
          exact Or.inr ⟨rfl, i, j, by omega, by omega, bi, bj, ne⟩
      · rw [if_neg q]
        rcases h2 with ⟨c, hc, e1, e2⟩ | ⟨e1, i, j, hi, hj, bi, bj, ne⟩
        · refine Or.inl ⟨c, hc, e1, fun i hi hb => ?_⟩
          by_cases e : i = k
          · subst e
            exact absurd hb q
          · exact e2 i (by omega) hb
        · exact Or.inr ⟨e1, i, j, by omega, by omega, bi, bj, ne⟩
theorem isM_sp {μ : Mem} (T : RelT μ) {set : Nat} : ∀ n, n ≤ 10 → (isM μ set n = true ∧ (((∀ t, t < n → set.testBit t = false) ∧ lm μ set n = -1) ∨ (∃ c, c ≤ 5 ∧ lm μ set n = nI c ∧ ∀ t, t < n → set.testBit t = true → tv μ 2 t = c))) ∨ (isM μ set n = false ∧ ∃ t u, t < n ∧ u < n ∧ set.testBit t = true ∧ set.testBit u = true ∧ tv μ 2 t ≠ tv μ 2 u)
  | 0, _ => Or.inl ⟨rfl, Or.inl ⟨fun t ht => by omega, rfl⟩⟩
  | n + 1, h => by
    have bm : tv μ 2 n ≤ 5 := (T.2.1 2 n (by decide) (by omega)).2.2
    rw [isM, lm]
    by_cases q : set.testBit n = true
    · rw [if_pos q, if_pos q]
      rcases isM_sp T (set := set) n (by omega) with ⟨h1, ⟨h2, h3⟩ | ⟨c, hc, e1, e2⟩⟩ | ⟨h1, t, u, ht, hu, bt', bu, ne⟩
      · left
        rw [h1, h3]
        refine ⟨rfl, Or.inr ⟨_, bm, rfl, fun t ht hb => ?_⟩⟩
        by_cases e : t = n
        · rw [e]
        · have := h2 t (by omega)
          rw [this] at hb
          cases hb
      · rw [h1, e1, decide_eq_false (neg1_nI hc), Bool.false_or, Bool.true_and]
        by_cases z : nI c = nI (tv μ 2 n)
        · left
          have ec : c = tv μ 2 n := (n_eq (by omega) (by omega)).mp z
          rw [decide_eq_true z]
          refine ⟨rfl, Or.inr ⟨_, bm, rfl, fun t ht hb => ?_⟩⟩
          by_cases e : t = n
          · rw [e]
          · rw [e2 t (by omega) hb, ec]
        · right
          rw [decide_eq_false z]
          refine ⟨rfl, ?_⟩
          by_cases w : ∃ t, t < n ∧ set.testBit t = true
          · obtain ⟨t, ht, hb⟩ := w
            refine ⟨t, n, by omega, by omega, hb, q, ?_⟩
            rw [e2 t ht hb]
            exact fun v => z (by rw [v])
          · exfalso
            have lm1 : ∀ k, k ≤ n → lm μ set k = -1 := fun k => by
              induction k with
              | zero => intro _; rfl
              | succ k ih =>
                intro hk
                rw [lm, if_neg (fun v => w ⟨k, by omega, v⟩)]
                exact ih (by omega)
            rw [lm1 n (Nat.le_refl _)] at e1
            exact neg1_nI hc e1.symm
      · right
        rw [h1, Bool.false_and]
        exact ⟨rfl, t, u, by omega, by omega, bt', bu, ne⟩
    · rw [if_neg q, if_neg q]
      rcases isM_sp T (set := set) n (by omega) with ⟨h1, ⟨h2, h3⟩ | ⟨c, hc, e1, e2⟩⟩ | ⟨h1, t, u, ht, hu, bt', bu, ne⟩
      · left
        refine ⟨h1, Or.inl ⟨fun t ht => ?_, h3⟩⟩
        by_cases e : t = n
        · subst e
          cases z : set.testBit t
          · rfl
          · exact absurd z q
        · exact h2 t (by omega)
      · left
        refine ⟨h1, Or.inr ⟨c, hc, e1, fun t ht hb => ?_⟩⟩
        by_cases e : t = n
        · subst e
          exact absurd hb q
        · exact e2 t (by omega) hb
      · right
        exact ⟨h1, t, u, by omega, by omega, bt', bu, ne⟩
theorem one_eq {μ : Mem} (T : RelT μ) {p x : Nat} (hx0 : x ≠ 0) (hx : x < 2 ^ pK μ p) : (isM μ (rS μ p x) (tn μ) = false) = (mS' μ p x = -1) := by
  have hn := T.1.2.2
  have mem : ∀ t, (rS μ p x).testBit t = true ↔ ∃ i, i < pK μ p ∧ x.testBit i = true ∧ pA μ p i = t := fun t => rN_bit (pK μ p) t
  have some1 : ∃ i, i < pK μ p ∧ x.testBit i = true := by
    by_cases w : ∃ i, i < pK μ p ∧ x.testBit i = true
    · exact w
    · exfalso
      apply hx0
      apply Nat.eq_of_testBit_eq
      intro i
      rw [Nat.zero_testBit]
      by_cases q : i < pK μ p
      · cases z : x.testBit i
        · rfl
        · exact absurd ⟨i, q, z⟩ w
      · rw [show i = pK μ p + (i - pK μ p) by omega, tb_hi hx]
  refine propext ⟨fun h => ?_, fun h => ?_⟩
  · rcases isM_sp T (set := rS μ p x) (tn μ) hn with ⟨h1, -⟩ | ⟨-, t, u, ht, hu, bt', bu, ne⟩
    · rw [h1] at h
      cases h
    · obtain ⟨i, hi, bi, rfl⟩ := (mem t).mp bt'
      obtain ⟨j, hj, bj, rfl⟩ := (mem u).mp bu
      rcases mN_sp T (p := p) (x := x) (pK μ p) (Nat.le_refl _) with ⟨-, e⟩ | ⟨-, ⟨c, hc, e1, e2⟩ | ⟨e, -⟩⟩
      · exact e
      · exact absurd ((e2 i hi bi).trans (e2 j hj bj).symm) ne
      · exact e
  · rcases mN_sp T (p := p) (x := x) (pK μ p) (Nat.le_refl _) with ⟨e, -⟩ | ⟨-, ⟨c, hc, e1, e2⟩ | ⟨-, i, j, hi, hj, bi, bj, ne⟩⟩
    · obtain ⟨i, hi, bi⟩ := some1
      have := e i hi
      rw [this] at bi
      cases bi
    · have h : mN' μ p x (pK μ p) = -1 := h
      rw [e1] at h
      exact absurd h (neg1_nI hc)
    · rcases isM_sp T (set := rS μ p x) (tn μ) hn with ⟨-, ⟨h2, -⟩ | ⟨c, hc, e1, e2⟩⟩ | ⟨h1, -⟩
      · have := h2 (pA μ p i) (pA_lt hi)
        rw [(mem _).mpr ⟨i, hi, bi, rfl⟩] at this
        cases this
      · exact absurd ((e2 _ (pA_lt hi) ((mem _).mpr ⟨i, hi, bi, rfl⟩)).trans (e2 _ (pA_lt hj) ((mem _).mpr ⟨j, hj, bj, rfl⟩)).symm) ne
      · exact h1
