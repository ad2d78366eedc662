/-! ===== the THINGS that a plan looks at ===== -/
def pS (μ : Mem) (p : Nat) : Nat → Nat × (Nat → Nat)
  | 0 => (0, fun _ => 0)
  | t + 1 => if (pS μ p t).1 < 6 ∧ stV μ t = 0 ∧ (tv μ 0 t).testBit p = true then ((pS μ p t).1 + 1, fun k => if k = (pS μ p t).1 then t else (pS μ p t).2 k) else pS μ p t
theorem pS_ok (μ : Mem) (p : Nat) : ∀ t, (pS μ p t).1 ≤ 6 ∧ (∀ k, k < (pS μ p t).1 → (pS μ p t).2 k < t) ∧ ∀ k j, k < j → j < (pS μ p t).1 → (pS μ p t).2 k < (pS μ p t).2 j
  | 0 => ⟨by rw [pS]; omega, fun k hk => by rw [pS] at hk; omega, fun k j _ hj => by rw [pS] at hj; omega⟩
  | t + 1 => by
    obtain ⟨h1, h2, h3⟩ := pS_ok μ p t
    rw [pS]
    by_cases q : (pS μ p t).1 < 6 ∧ stV μ t = 0 ∧ (tv μ 0 t).testBit p = true
    · rw [if_pos q]
      refine ⟨(by omega : (pS μ p t).1 + 1 ≤ 6), fun k hk => ?_, fun k j hkj hj => ?_⟩
      · have hk : k < (pS μ p t).1 + 1 := hk
        show (if k = (pS μ p t).1 then t else (pS μ p t).2 k) < t + 1
        by_cases e : k = (pS μ p t).1
        · rw [if_pos e]
          omega
        · rw [if_neg e]
          have := h2 k (by omega)
          omega
      · have hj : j < (pS μ p t).1 + 1 := hj
        show (if k = (pS μ p t).1 then t else (pS μ p t).2 k) < (if j = (pS μ p t).1 then t else (pS μ p t).2 j)
        rw [if_neg (by omega)]
        by_cases e : j = (pS μ p t).1
        · rw [if_pos e]
          exact h2 k (by omega)
        · rw [if_neg e]
          exact h3 k j hkj (by omega)
    · rw [if_neg q]
      exact ⟨h1, fun k hk => by have := h2 k hk; omega, h3⟩
theorem pS_st {μ : Mem} {p t : Nat} (h : ¬ (pS μ p t).1 < 6) : ∀ d, pS μ p (t + d) = pS μ p t
  | 0 => rfl
  | d + 1 => by rw [show t + (d + 1) = t + d + 1 by omega, pS, pS_st h d, if_neg (fun z => h z.1)]
theorem pS_sm {μ μ' : Mem} (s : Sm μ μ') (p : Nat) : ∀ t, pS μ' p t = pS μ p t
  | 0 => rfl
  | t + 1 => by rw [pS, pS, pS_sm s p t, stV_sm s, tv_sm s (by decide)]
def pK (μ : Mem) (p : Nat) : Nat := (pS μ p (tn μ)).1
def pA (μ : Mem) (p k : Nat) : Nat := (pS μ p (tn μ)).2 k
theorem pK_le (μ : Mem) (p : Nat) : pK μ p ≤ 6 := (pS_ok μ p (tn μ)).1
theorem pA_lt {μ : Mem} {p k : Nat} (hk : k < pK μ p) : pA μ p k < tn μ := (pS_ok μ p (tn μ)).2.1 k hk
def PK (μ : Mem) (p : Nat) (ν : Mem) : Prop := mI ν 94 16 = nI (pK μ p) ∧ ∀ k, k < pK μ p → mI ν 98 k = nI (pA μ p k)
/-- only these cells of the plan are written -/
def Fp (μ ν : Mem) : Prop := Sm μ ν ∧ (∀ k, k ≠ 16 → mI ν 94 k = mI μ 94 k)
theorem cor94 (k : Nat) : cor 94 k = false := rfl
theorem corP {a : Nat} (h : 95 ≤ a ∧ a ≤ 106) (k : Nat) : cor a k = false := by
  unfold cor
  have h1 : coA a = false := by
    unfold coA
    rw [decide_eq_false_iff_not]
    omega
  have h2 : coF a k = false := by
    rcases (show a = 95 ∨ a = 96 ∨ a = 97 ∨ a = 98 ∨ a = 99 ∨ a = 100 ∨ a = 101 ∨ a = 102 ∨ a = 103 ∨ a = 104 ∨ a = 105 ∨ a = 106 by omega) with rfl | rfl | rfl | rfl | rfl | rfl | rfl | rfl | rfl | rfl | rfl | rfl <;> rfl
  rw [h1, h2]
  rfl
theorem pick7 {μ ν0 : Mem} (I : Inv μ) {p : Nat} (hp : p < 4) (s0 : Sm μ ν0) (z0 : mI ν0 94 16 = nI 0) : ∃ ν x, (Fp ν0 ν ∧ PK μ p ν) ∧ X4_pick_L7 94 (nI p) (nI (nw μ)) FU 0 ν0 = some (x, ν) := by
  obtain ⟨o, W, C, T, S, X, L⟩ := I
  have hn := T.1.2.2
  obtain ⟨b, Q, e⟩ := loopE (F := fun m (ν : Mem) i => X4_pick_L7 94 (nI p) (nI (nw μ)) m (nI i) ν) (P := fun i ν => Fp ν0 ν ∧ mI ν 94 16 = nI (pS μ p i).1 ∧ ∀ k, k < (pS μ p i).1 → mI ν 98 k = nI ((pS μ p i).2 k)) (Q := fun b => Fp ν0 b.2 ∧ PK μ p b.2) (n := tn μ) (by omega) (fun m ν i hi P => by
    obtain ⟨⟨s1, f1⟩, pc, pa⟩ := P
    have s := s0.tr s1
    have oν := s.1
    have Tν := Onl.T s T
    have i10 : i < 10 := by omega
    obtain ⟨q6, q7, q8⟩ := pS_ok μ p i
    have ct : mI ν 37 2 = nI (tn μ) := (s.fld (a := 37) (k := 2) rfl).trans T.1.1
    have f0 := (Tν.2.1 0 i (by decide) i10).1
    rw [tv_sm s (by decide)] at f0
    have b0 : tv μ 0 i ≤ 15 := (T.2.1 0 i (by decide) i10).2.2
    have st := stand_c oν (W.sm s) Tν (Onl.S s S) i10
    rw [nw_sm s, stV_sm s] at st
    have sl := stV_le μ i
    have cs0 : (nI (stV μ i) = 0) = (stV μ i = 0) := n_eq (b := 0) (by omega) (by decide)
    show (∃ a', _ ∧ X4_pick_L7 94 (nI p) (nI (nw μ)) (m + 1) (nI i) ν = _) ∨ ∃ b, _ ∧ X4_pick_L7 94 (nI p) (nI (nw μ)) (m + 1) (nI i) ν = some b
    rw [X4_pick_L7, r_94_5 oν, Option.bind_some, gi_37 oν, ct, Option.bind_some, if_neg (nI_ge hi (by omega)), gi_94 oν, pc, Option.bind_some]
    have c6 : ((6 : Int32) ≤ nI (pS μ p i).1) = (6 ≤ (pS μ p i).1) := n_le (a := 6) (by decide) (by omega)
    simp only [c6]
    by_cases z6 : 6 ≤ (pS μ p i).1
    · refine Or.inr ⟨(nI i, ν), ⟨⟨s1, f1⟩, ?_, ?_⟩, by rw [if_pos z6]⟩
      · rw [pc]
        unfold pK
        rw [show tn μ = i + (tn μ - i) by omega, pS_st (by omega)]
      · intro k hk
        unfold pK at hk
        unfold pA
        rw [show tn μ = i + (tn μ - i) by omega, pS_st (by omega)] at hk ⊢
        exact pa k hk
    · rw [if_neg z6]
      simp only [Option.bind_some, r_37_0 oν, ar_things oν i10, gi_T oν i10, f0, vo_37 oν, st, cs0, has_t (show tv μ 0 i < 2 ^ 31 by omega) (show p < 31 by omega), gi_94 oν, pc, r_94_7 oν, si_98 oν (show (pS μ p i).1 < 6 by omega)]
      by_cases q : stV μ i = 0 ∧ (tv μ 0 i).testBit p = true
      · have qb : ¬ (tv μ 0 i).testBit p = false := by rw [q.2]; decide
        refine Or.inl ⟨wI (wI ν 98 (pS μ p i).1 (nI i)) 94 16 (nI ((pS μ p i).1 + 1)), ⟨⟨(s1.wI (corP (by decide) _)).wI (cor94 _), fun k hk => ?_⟩, ?_, fun k hk => ?_⟩, ?_⟩
        · rw [fld_ne (by omega), row_ne (by decide)]
          exact f1 k hk
        · rw [fld_eq, pS, if_pos ⟨by omega, q⟩]
        · rw [pS, if_pos ⟨by omega, q⟩] at hk ⊢
          have hk : k < (pS μ p i).1 + 1 := hk
          show mI _ 98 k = nI (if k = (pS μ p i).1 then i else (pS μ p i).2 k)
          rw [row_ne (by decide)]
          by_cases e : k = (pS μ p i).1
          · rw [if_pos e, e, fld_eq]
          · rw [if_neg e, fld_ne (by omega)]
            exact pa k (by omega)
        · rw [if_neg qb, if_pos q.1, gi_94 oν.wI, row_ne (by decide), pc, Option.bind_some, nI_add1, pi_94 oν.wI, Option.bind_some, Option.bind_some, nI_add1]
      · refine Or.inl ⟨ν, ⟨⟨s1, f1⟩, ?_, ?_⟩, ?_⟩
        · rw [pS, if_neg (fun z => q z.2)]
          exact pc
        · rw [pS, if_neg (fun z => q z.2)]
          exact pa
        · by_cases qb : (tv μ 0 i).testBit p = false
          · rw [if_pos qb, Option.bind_some, nI_add1]
          · have qt : (tv μ 0 i).testBit p = true := by
              cases z : (tv μ 0 i).testBit p
              · exact absurd z qb
              · rfl
            rw [if_neg qb, if_neg (fun z => q ⟨z, qt⟩), Option.bind_some, nI_add1]) (fun m ν P => by
    obtain ⟨⟨s1, f1⟩, pc, pa⟩ := P
    have s := s0.tr s1
    have ct : mI ν 37 2 = nI (tn μ) := (s.fld (a := 37) (k := 2) rfl).trans T.1.1
    refine ⟨(nI (tn μ), ν), ⟨⟨s1, f1⟩, pc, pa⟩, ?_⟩
    show X4_pick_L7 94 (nI p) (nI (nw μ)) (m + 1) (nI (tn μ)) ν = _
    rw [X4_pick_L7, r_94_5 s.1, Option.bind_some, gi_37 s.1, ct, Option.bind_some, if_pos (nI_le (Nat.le_refl _) (by omega))]) ν0 ⟨⟨Sm.rf s0.1, fun _ _ => rfl⟩, z0, fun k hk => absurd hk (by rw [pS]; omega)⟩
  exact ⟨b.2, b.1, Q, e⟩
/-! sets of them -/
def rN (μ : Mem) (p x : Nat) : Nat → Nat
  | 0 => 0
  | k + 1 => if x.testBit k = true then rN μ p x k ||| 2 ^ pA μ p k else rN μ p x k
def mN' (μ : Mem) (p x : Nat) : Nat → Int32
  | 0 => -1
  | k + 1 => if x.testBit k = true then (if x % 2 ^ k = 0 ∨ mN' μ p x k = nI (tv μ 2 (pA μ p k)) then nI (tv μ 2 (pA μ p k)) else -1) else mN' μ p x k
def rS (μ : Mem) (p x : Nat) : Nat := rN μ p x (pK μ p)
def mS' (μ : Mem) (p x : Nat) : Int32 := mN' μ p x (pK μ p)
theorem tb_or {r j i : Nat} (hr : r < 2 ^ j) (hi : i < j) : (r ||| 2 ^ j).testBit i = r.testBit i := by rw [or_put_bit, decide_eq_false (by omega), Bool.or_false]
theorem tb_self {r j : Nat} : (r ||| 2 ^ j).testBit j = true := by rw [or_put_bit, decide_eq_true rfl, Bool.or_true]
theorem tb_hi {r j : Nat} (hr : r < 2 ^ j) (d : Nat) : r.testBit (j + d) = false := Nat.testBit_lt_two_pow (Nat.lt_of_lt_of_le hr (Nat.pow_le_pow_right (by decide) (by omega)))
theorem mod_or {r j : Nat} (hr : r < 2 ^ j) : (r ||| 2 ^ j) % 2 ^ j = r := by
  apply Nat.eq_of_testBit_eq
  intro i
  rw [Nat.testBit_mod_two_pow]
  by_cases q : i < j
  · rw [decide_eq_true q, Bool.true_and, tb_or hr q]
  · rw [decide_eq_false q, Bool.false_and, show i = j + (i - j) by omega, tb_hi hr]
theorem rN_hi {μ : Mem} {p x j : Nat} (hx : x < 2 ^ j) : ∀ d, rN μ p x (j + d) = rN μ p x j
  | 0 => rfl
  | d + 1 => by rw [show j + (d + 1) = j + d + 1 by omega, rN, if_neg (by rw [tb_hi hx]; decide), rN_hi hx d]
theorem mN_hi {μ : Mem} {p x j : Nat} (hx : x < 2 ^ j) : ∀ d, mN' μ p x (j + d) = mN' μ p x j
  | 0 => rfl
  | d + 1 => by rw [show j + (d + 1) = j + d + 1 by omega, mN', if_neg (by rw [tb_hi hx]; decide), mN_hi hx d]
theorem rN_or {μ : Mem} {p r j : Nat} (hr : r < 2 ^ j) : ∀ k, k ≤ j → rN μ p (r ||| 2 ^ j) k = rN μ p r k
  | 0, _ => rfl
  | k + 1, hk => by rw [rN, rN, tb_or hr (by omega), rN_or hr k (by omega)]
theorem mN_or {μ : Mem} {p r j : Nat} (hr : r < 2 ^ j) : ∀ k, k ≤ j → mN' μ p (r ||| 2 ^ j) k = mN' μ p r k
  | 0, _ => rfl
  | k + 1, hk => by
    have e : (r ||| 2 ^ j) % 2 ^ k = r % 2 ^ k := by
      apply Nat.eq_of_testBit_eq
      intro i
      rw [Nat.testBit_mod_two_pow, Nat.testBit_mod_two_pow]
      by_cases q : i < k
      · rw [tb_or hr (by omega)]
      · rw [decide_eq_false q, Bool.false_and, Bool.false_and]
    rw [mN', mN', tb_or hr (by omega), mN_or hr k (by omega), e]
theorem rN_lt {μ : Mem} {p : Nat} (x : Nat) : ∀ k, k ≤ pK μ p → rN μ p x k < 2 ^ tn μ
  | 0, _ => Nat.two_pow_pos _
  | k + 1, hk => by
    have ih := rN_lt (μ := μ) (p := p) x k (by omega)
    rw [rN]
    split
    · exact or_put_lt ih (pA_lt (by omega))
    · exact ih
theorem rS_lt (μ : Mem) (p x : Nat) : rS μ p x < 2 ^ tn μ := rN_lt x _ (Nat.le_refl _)
theorem or_rng {r j K : Nat} (hr : r < 2 ^ j) (hj : j < K) (hK : K ≤ 6) : r ||| 2 ^ j < 2 ^ K ∧ r ||| 2 ^ j < 64 ∧ r ||| 2 ^ j = r + 2 ^ j := by
  have h1 : 2 ^ (j + 1) ≤ 2 ^ K := Nat.pow_le_pow_right (by decide) (by omega)
  have h2 : 2 ^ K ≤ 2 ^ 6 := Nat.pow_le_pow_right (by decide) hK
  have h3 : r ||| 2 ^ j < 2 ^ (j + 1) := or_put_lt (Nat.lt_trans hr (Nat.pow_lt_pow_right (by decide) (by omega))) (by omega)
  have h4 : r ||| 2 ^ j = 2 ^ j + r := by
    rw [Nat.or_comm]
    have := Nat.two_pow_add_eq_or_of_lt hr 1
    rw [Nat.mul_one] at this
    exact this.symm
  exact ⟨by omega, by omega, by omega⟩
def PR (μ : Mem) (p j : Nat) (ν : Mem) : Prop := ∀ x, x < 2 ^ j → mI ν 99 x = nI (rN μ p x j) ∧ (x ≠ 0 → mI ν 100 x = mN' μ p x j)
theorem pick123 {μ ν0 : Mem} (I : Inv μ) {p j : Nat} (hj : j < pK μ p) (s0 : Sm μ ν0) (k0' : PK μ p ν0) (r0 : PR μ p j ν0) : ∃ ν x, (Sm μ ν ∧ mI ν 94 = mI ν0 94 ∧ PK μ p ν ∧ PR μ p (j + 1) ν) ∧ X4_pick_L123 94 (nI j) (nI (tv μ 2 (pA μ p j))) FU 0 ν0 = some (x, ν) := by
  obtain ⟨o, W, C, T, S, X, L⟩ := I
  have hn := T.1.2.2
  have hK := pK_le μ p
  have p6 : 2 ^ j ≤ 2 ^ 5 := Nat.pow_le_pow_right (by decide) (by omega)
  have tj := pA_lt hj
  have bm : tv μ 2 (pA μ p j) ≤ 5 := (T.2.1 2 (pA μ p j) (by decide) (by omega)).2.2
  obtain ⟨ν, ⟨s, f94, pk, lo, hi⟩, e⟩ := loopF (F := fun m (ν : Mem) i => X4_pick_L123 94 (nI j) (nI (tv μ 2 (pA μ p j))) m (nI i) ν) (P := fun i ν => Sm μ ν ∧ mI ν 94 = mI ν0 94 ∧ PK μ p ν ∧ (∀ x, x < 2 ^ j → mI ν 99 x = mI ν0 99 x ∧ mI ν 100 x = mI ν0 100 x) ∧ ∀ r, r < i → mI ν 99 (r ||| 2 ^ j) = nI (rN μ p (r ||| 2 ^ j) (j + 1)) ∧ mI ν 100 (r ||| 2 ^ j) = mN' μ p (r ||| 2 ^ j) (j + 1)) (n := 2 ^ j) (r := fun ν => (nI (2 ^ j), ν)) (by omega) (fun m ν i hi P => by
    obtain ⟨s, f94, pk, lo, hiR⟩ := P
    obtain ⟨b1, b2, b3⟩ := or_rng hi hj hK
    have oν := s.1
    have r1 := r0 i hi
    have e99 : mI ν 99 i = nI (rN μ p i j) := (lo i hi).1.trans r1.1
    have e98 : mI ν 98 j = nI (pA μ p j) := pk.2 j hj
    have on2 : Ok (wI ν 99 (i ||| 2 ^ j) (nI (rN μ p i j ||| 2 ^ pA μ p j))) := oν
    have vr : rN μ p (i ||| 2 ^ j) (j + 1) = rN μ p i j ||| 2 ^ pA μ p j := by rw [rN, if_pos tb_self, rN_or hi j (Nat.le_refl _)]
    have vm : mN' μ p (i ||| 2 ^ j) (j + 1) = if i = 0 ∨ mN' μ p i j = nI (tv μ 2 (pA μ p j)) then nI (tv μ 2 (pA μ p j)) else -1 := by rw [mN', if_pos tb_self, mN_or hi j (Nat.le_refl _), mod_or hi]
    refine ⟨wI (wI ν 99 (i ||| 2 ^ j) (nI (rN μ p (i ||| 2 ^ j) (j + 1)))) 100 (i ||| 2 ^ j) (mN' μ p (i ||| 2 ^ j) (j + 1)), ⟨(s.wI (corP (by decide) _)).wI (corP (by decide) _), ?_, ⟨?_, fun k hk => ?_⟩, fun x hx => ?_, fun r hr => ?_⟩, ?_⟩
    · rw [row_ne (by decide), row_ne (by decide)]
      exact f94
    · rw [row_ne (by decide), row_ne (by decide)]
      exact pk.1
    · rw [row_ne (by decide), row_ne (by decide)]
      exact pk.2 k hk
    · have h2 := lo x hx
      rw [row_ne (a := 100) (b := 99) (by decide), fld_ne (by omega), fld_ne (by omega), row_ne (a := 99) (b := 100) (by decide)]
      exact h2
    · by_cases z : r = i
      · subst z
        rw [row_ne (a := 100) (b := 99) (by decide), fld_eq, fld_eq]
        exact ⟨rfl, rfl⟩
      · have h2 := hiR r (by omega)
        obtain ⟨-, -, c3⟩ := or_rng (show r < 2 ^ j by omega) hj hK
        rw [row_ne (a := 100) (b := 99) (by decide), fld_ne (by omega), fld_ne (by omega), row_ne (a := 99) (b := 100) (by decide)]
        exact h2
    · show X4_pick_L123 94 (nI j) (nI (tv μ 2 (pA μ p j))) (m + 1) (nI i) ν = _
      rw [X4_pick_L123, sh31 j (by omega), if_neg (nI_ge hi (by omega)), fa_or, Option.bind_some, r_94_8 oν, Option.bind_some, Option.bind_some, ai_99 oν (by omega), e99, Option.bind_some, r_94_7 oν, Option.bind_some, ai_98 oν (by omega), e98, Option.bind_some, or_put (by omega), si_99 oν b2, Option.bind_some, r_94_9 on2, Option.bind_some]
      have ez : ((if nI i = 0 then some (nI (tv μ 2 (pA μ p j))) else (some 100).bind fun v11 => (aI v11 (nI i) (wI ν 99 (i ||| 2 ^ j) (nI (rN μ p i j ||| 2 ^ pA μ p j)))).bind fun v12 => if v12 = nI (tv μ 2 (pA μ p j)) then some (nI (tv μ 2 (pA μ p j))) else some (-1) : Option Int32)) = some (mN' μ p (i ||| 2 ^ j) (j + 1)) := by
        have ci : (nI i = 0) = (i = 0) := n_eq (b := 0) (by omega) (by decide)
        simp only [ci]
        rw [vm]
        by_cases y : i = 0
        · rw [if_pos y, if_pos (Or.inl y)]
        · rw [if_neg y, Option.bind_some, ai_100 on2 (by omega), row_ne (by decide), (lo i hi).2, r1.2 y, Option.bind_some]
          by_cases y2 : mN' μ p i j = nI (tv μ 2 (pA μ p j))
          · rw [if_pos y2, if_pos (Or.inr y2)]
          · rw [if_neg y2, if_neg (fun z => z.elim y y2)]
      rw [ez, Option.bind_some, si_100 on2 b2, Option.bind_some, nI_add1, vr]) (fun m ν P => by
    show X4_pick_L123 94 (nI j) (nI (tv μ 2 (pA μ p j))) (m + 1) (nI (2 ^ j)) ν = _
    rw [X4_pick_L123, sh31 j (by omega), if_pos (nI_le (Nat.le_refl _) (by omega))]) ν0 ⟨s0, rfl, k0', fun _ _ => ⟨rfl, rfl⟩, fun r hr => by omega⟩
  refine ⟨ν, nI (2 ^ j), ⟨s, f94, pk, fun x hx => ?_⟩, e⟩
  by_cases z : x < 2 ^ j
  · have h1 := lo x z
    have h2 := r0 x z
    rw [h1.1, h1.2, show j + 1 = j + 1 from rfl, rN_hi z 1, mN_hi z 1]
    exact h2
  · obtain ⟨r, hr, rfl⟩ : ∃ r, r < 2 ^ j ∧ x = r ||| 2 ^ j := by
      have hx2 : x < 2 ^ j * 2 := by rw [← Nat.pow_succ]; exact hx
      refine ⟨x - 2 ^ j, by omega, ?_⟩
      have := (or_rng (show x - 2 ^ j < 2 ^ j by omega) hj hK).2.2
      omega
    exact ⟨(hi r hr).1, fun _ => (hi r hr).2⟩
theorem pick_c {μ ν0 : Mem} (I : Inv μ) {p : Nat} (hp : p < 4) (s0 : Sm μ ν0) : ∃ ν, (Sm μ ν ∧ (∀ k, k ≠ 16 → mI ν 94 k = mI ν0 94 k) ∧ PK μ p ν ∧ PR μ p (pK μ p) ν) ∧ X4_pick 94 (nI p) (nI (nw μ)) ν0 = some ν := by
  have I0 := I
  obtain ⟨o, W, C, T, S, X, L⟩ := I
  have hn := T.1.2.2
  have hK := pK_le μ p
  obtain ⟨ν1, x1, ⟨⟨s1, f1⟩, k1⟩, e1⟩ := pick7 I0 hp (ν0 := wI ν0 94 16 0) (s0.wI (cor94 _)) fld_eq
  have s1' := (s0.wI (cor94 16) (v := 0)).tr s1
  have h2 : Sm μ (wI ν1 99 0 0) := s1'.wI (corP (by decide) _)
  have k2 : PK μ p (wI ν1 99 0 0) := ⟨by rw [row_ne (by decide)]; exact k1.1, fun k hk => by rw [row_ne (by decide)]; exact k1.2 k hk⟩
  have r2 : PR μ p 0 (wI ν1 99 0 0) := fun x hx => by
    have : x = 0 := by
      have : x < 1 := hx
      omega
    subst this
    exact ⟨fld_eq, fun z => absurd rfl z⟩
  obtain ⟨ν, ⟨s, f94, pk, pr⟩, e⟩ := loopF (F := fun m (ν : Mem) i => X4_pick_L93 94 m (nI i) ν) (P := fun i ν => Sm μ ν ∧ mI ν 94 = mI ν1 94 ∧ PK μ p ν ∧ PR μ p i ν) (n := pK μ p) (r := fun ν => (nI (pK μ p), ν)) (by omega) (fun m ν i hi P => by
    obtain ⟨s, f94, pk, pr⟩ := P
    have oν := s.1
    have Tν := Onl.T s T
    have ti := pA_lt hi
    have f2 := (Tν.2.1 2 (pA μ p i) (by decide) (by omega)).1
    rw [tv_sm s (by decide)] at f2
    obtain ⟨ν', x', ⟨s', g94, pk', pr'⟩, e'⟩ := pick123 I0 hi s pk pr
    refine ⟨ν', ⟨s', g94.trans f94, pk', pr'⟩, ?_⟩
    show X4_pick_L93 94 (m + 1) (nI i) ν = _
    rw [X4_pick_L93, gi_94 oν, pk.1, Option.bind_some, if_neg (nI_ge hi (by omega)), r_94_5 oν, Option.bind_some, r_37_0 oν, Option.bind_some, r_94_7 oν, Option.bind_some, ai_98 oν (by omega), pk.2 i hi, Option.bind_some, ar_things oν (by omega), Option.bind_some, gi_T oν (by omega), f2, Option.bind_some, e', Option.bind_some, nI_add1]) (fun m ν P => by
    show X4_pick_L93 94 (m + 1) (nI (pK μ p)) ν = _
    rw [X4_pick_L93, gi_94 P.1.1, P.2.2.1.1, Option.bind_some, if_pos (nI_le (Nat.le_refl _) (by omega))]) (wI ν1 99 0 0) ⟨h2, row_ne (by decide), k2, r2⟩
  have e : X4_pick_L93 94 FU 0 (wI ν1 99 0 0) = _ := e
  refine ⟨ν, ⟨s, fun k hk => ?_, pk, pr⟩, ?_⟩
  · rw [f94, f1 k hk, fld_ne (by omega)]
  · unfold X4_pick
    rw [pi_94 s0.1, Option.bind_some, e1, Option.bind_some, r_94_8 s1'.1, Option.bind_some]
    rw [show sI 99 0 0 ν1 = some (wI ν1 99 0 0) from si_99 (i := 0) s1'.1 (by decide), Option.bind_some, e, Option.bind_some]
