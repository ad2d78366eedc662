/-! ===== say ===== -/
/-- the MATTER of the latest THING of a SET among the first n, or NONE; all of one MATTER; all for a PERSON -/
def lm (μ : Mem) (set : Nat) : Nat → Int32
  | 0 => -1
  | t + 1 => if set.testBit t = true then nI (tv μ 2 t) else lm μ set t
def isM (μ : Mem) (set : Nat) : Nat → Bool
  | 0 => true
  | t + 1 => if set.testBit t = true then isM μ set t && (decide (lm μ set t = -1) || decide (lm μ set t = nI (tv μ 2 t))) else isM μ set t
def frB (μ : Mem) (p set : Nat) : Nat → Bool
  | 0 => true
  | t + 1 => frB μ p set t && (!set.testBit t || (tv μ 0 t).testBit p)
def cbs (μ : Mem) (p set : Nat) : Nat → Bool
  | 0 => true
  | t + 1 => if set.testBit t = true then cbs μ p set t && (decide (tv μ 8 t = 0) && ((tv μ 0 t).testBit p && (decide (lm μ set t = -1) || decide (lm μ set t = nI (tv μ 2 t))))) else cbs μ p set t
theorem cbs_mono {μ : Mem} {p set k : Nat} (h : cbs μ p set k = false) : ∀ d, cbs μ p set (k + d) = false
  | 0 => h
  | d + 1 => by
    rw [show k + (d + 1) = k + d + 1 by omega, cbs, cbs_mono h d]
    split <;> rfl
theorem cbs_eq (μ : Mem) (p set : Nat) : ∀ n, cbs μ p set n = (decide (set &&& dS μ n = 0) && (frB μ p set n && isM μ set n))
  | 0 => by rw [cbs, dS, frB, isM, Nat.and_zero]; rfl
  | n + 1 => by
    have bz : ∀ x : Nat, x = 0 ↔ ∀ i, x.testBit i = false := fun x => ⟨fun h i => by rw [h, Nat.zero_testBit], fun h => Nat.eq_of_testBit_eq (fun i => by rw [h i, Nat.zero_testBit])⟩
    have e2 : set &&& 2 ^ n = 0 ↔ set.testBit n = false := by
      rw [bz]
      constructor
      · intro h
        have := h n
        rw [Nat.testBit_and, Nat.testBit_two_pow_self, Bool.and_true] at this
        exact this
      · intro h i
        rw [Nat.testBit_and, Nat.testBit_two_pow]
        by_cases q : n = i
        · subst q
          rw [h, Bool.false_and]
        · rw [decide_eq_false q, Bool.and_false]
    have e1 : decide (set &&& dS μ (n + 1) = 0) = (decide (set &&& dS μ n = 0) && (!set.testBit n || decide (tv μ 8 n = 0))) := by
      rw [dS]
      by_cases q : tv μ 8 n = 0
      · rw [if_pos q, decide_eq_true q, Bool.or_true, Bool.and_true]
      · have e3 : set &&& (dS μ n ||| 2 ^ n) = 0 ↔ set &&& dS μ n = 0 ∧ set.testBit n = false := by
          rw [Nat.and_or_distrib_left, ← e2]
          constructor
          · intro h
            have hb : ∀ i, ((set &&& dS μ n).testBit i || (set &&& 2 ^ n).testBit i) = false := fun i => by rw [← Nat.testBit_or, h, Nat.zero_testBit]
            exact ⟨(bz _).mpr (fun i => (Bool.or_eq_false_iff.mp (hb i)).1), (bz _).mpr (fun i => (Bool.or_eq_false_iff.mp (hb i)).2)⟩
          · intro ⟨h1, h2⟩
            rw [h1, h2]
            rfl
        rw [if_neg q, decide_eq_false q, Bool.or_false]
        by_cases q1 : set &&& dS μ n = 0
        · rw [decide_eq_true q1, Bool.true_and]
          cases q2 : set.testBit n
          · exact decide_eq_true (e3.mpr ⟨q1, q2⟩)
          · exact decide_eq_false (fun z => by have := (e3.mp z).2; rw [q2] at this; cases this)
        · rw [decide_eq_false q1, Bool.false_and]
          exact decide_eq_false (fun z => q1 (e3.mp z).1)
    rw [cbs, e1, frB, isM, cbs_eq μ p set n]
    cases set.testBit n
    · simp
    · simp only [if_true, Bool.not_true, Bool.false_or]
      cases decide (set &&& dS μ n = 0) <;> cases frB μ p set n <;> cases isM μ set n <;> cases decide (tv μ 8 n = 0) <;> cases (tv μ 0 n).testBit p <;> rfl
section SAY
variable {μ : Mem} {p set : Nat}
theorem lm_sm {μ' : Mem} (s : Sm μ μ') (set : Nat) : ∀ n, lm μ' set n = lm μ set n
  | 0 => rfl
  | n + 1 => by rw [lm, lm, lm_sm s set n, tv_sm s (by decide)]
theorem isM_sm {μ' : Mem} (s : Sm μ μ') (set : Nat) : ∀ n, isM μ' set n = isM μ set n
  | 0 => rfl
  | n + 1 => by rw [isM, isM, isM_sm s set n, lm_sm s, tv_sm s (by decide)]
theorem frB_sm {μ' : Mem} (s : Sm μ μ') (p set : Nat) : ∀ n, frB μ' p set n = frB μ p set n
  | 0 => rfl
  | n + 1 => by rw [frB, frB, frB_sm s p set n, tv_sm s (by decide)]
theorem canS_c (o : Ok μ) (T : RelT μ) (hp : p < 4) (hs : set < 2 ^ 10) : X0_canBeSaid 37 (nI set) (nI p) μ = some (b01 (cbs μ p set (tn μ))) := by
  have hn := T.1.2.2
  obtain ⟨b, Q, e⟩ := loopE (F := fun k (a : Int32) i => X0_canBeSaid_L5 37 (nI set) (nI p) μ k a (nI i)) (P := fun i a => a = lm μ set i ∧ cbs μ p set i = true) (Q := fun b => b = b01 (cbs μ p set (tn μ))) (n := tn μ) (by omega) (fun k a i hi P => by
    obtain ⟨rfl, hc⟩ := P
    have i10 : i < 10 := by omega
    have f8 := (T.2.1 8 i (by decide) i10).1
    have f0 := (T.2.1 0 i (by decide) i10).1
    have f2 := (T.2.1 2 i (by decide) i10).1
    have b8 : tv μ 8 i ≤ 1 := (T.2.1 8 i (by decide) i10).2.2
    have b0 : tv μ 0 i ≤ 15 := (T.2.1 0 i (by decide) i10).2.2
    have c8 : (nI (tv μ 8 i) = 0) = (tv μ 8 i = 0) := n_eq (b := 0) (by omega) (by decide)
    have fin : cbs μ p set (i + 1) = false → cbs μ p set (tn μ) = false := fun h => by
      have := cbs_mono h (tn μ - (i + 1))
      rwa [show i + 1 + (tn μ - (i + 1)) = tn μ by omega] at this
    show (∃ a', _ ∧ X0_canBeSaid_L5 37 (nI set) (nI p) μ (k + 1) (lm μ set i) (nI i) = X0_canBeSaid_L5 37 (nI set) (nI p) μ k a' (nI (i + 1))) ∨ ∃ b, _ ∧ X0_canBeSaid_L5 37 (nI set) (nI p) μ (k + 1) (lm μ set i) (nI i) = some b
    rw [X0_canBeSaid_L5, gi_37 o, T.1.1, Option.bind_some, if_neg (nI_ge hi (by omega))]
    simp only [r_37_0 o, ar_things o i10, gi_T o i10, f8, f0, f2, Option.bind_some, c8, has_t (show set < 2 ^ 31 by omega) (show i < 31 by omega), has_t (show tv μ 0 i < 2 ^ 31 by omega) (show p < 31 by omega), nI_add1]
    by_cases qs : set.testBit i = true
    · have qs' : ¬ set.testBit i = false := by rw [qs]; decide
      rw [if_neg qs']
      by_cases q8 : tv μ 8 i = 0
      · rw [if_pos q8]
        cases qp : (tv μ 0 i).testBit p
        · refine Or.inr ⟨0, ?_, by rw [if_pos rfl]⟩
          rw [fin (by rw [cbs, if_pos qs, qp, Bool.false_and, Bool.and_false, Bool.and_false])]
          rfl
        · rw [if_neg (by decide)]
          have go : (decide (lm μ set i = -1) || decide (lm μ set i = nI (tv μ 2 i))) = true → nI (tv μ 2 i) = lm μ set (i + 1) ∧ cbs μ p set (i + 1) = true := fun h => by
            rw [lm, cbs, if_pos qs, if_pos qs, hc, qp, h, decide_eq_true q8]
            exact ⟨rfl, rfl⟩
          by_cases q1 : lm μ set i = -1
          · refine Or.inl ⟨nI (tv μ 2 i), go (by rw [decide_eq_true q1, Bool.true_or]), by rw [if_pos q1]⟩
          · rw [if_neg q1]
            by_cases q2 : lm μ set i = nI (tv μ 2 i)
            · refine Or.inl ⟨nI (tv μ 2 i), go (by rw [decide_eq_true q2, Bool.or_true]), by rw [if_pos q2]⟩
            · refine Or.inr ⟨0, ?_, by rw [if_neg q2]⟩
              rw [fin (by rw [cbs, if_pos qs, decide_eq_false q1, decide_eq_false q2, Bool.or_false, Bool.and_false, Bool.and_false, Bool.and_false])]
              rfl
      · refine Or.inr ⟨0, ?_, by rw [if_neg q8]⟩
        rw [fin (by rw [cbs, if_pos qs, decide_eq_false q8, Bool.false_and, Bool.and_false])]
        rfl
    · have qs' : set.testBit i = false := by
        cases z : set.testBit i
        · rfl
        · exact absurd z qs
      refine Or.inl ⟨lm μ set i, ⟨?_, ?_⟩, by rw [if_pos qs']⟩
      · rw [lm, if_neg qs]
      · rw [cbs, if_neg qs]
        exact hc) (fun k a P => by
    obtain ⟨rfl, hc⟩ := P
    refine ⟨1, ?_, ?_⟩
    · rw [hc]
      rfl
    · show X0_canBeSaid_L5 37 (nI set) (nI p) μ (k + 1) (lm μ set (tn μ)) (nI (tn μ)) = _
      rw [X0_canBeSaid_L5, gi_37 o, T.1.1, Option.bind_some, if_pos (nI_le (Nat.le_refl _) (by omega))]) (-1) ⟨rfl, rfl⟩
  subst Q
  exact e
theorem areF_m (o : Ok μ) (T : RelT μ) (hp : p < 4) (hs : set < 2 ^ 10) : X11_areFor 134 (nI p) (nI set) μ = some (b01 (frB μ p set (tn μ))) := by
  have hn := T.1.2.2
  obtain ⟨a, P, e⟩ := loopF (F := fun k (a : Bool) i => X11_areFor_L5 134 (nI p) (nI set) μ k (b01 a) (nI i)) (P := fun i a => a = frB μ p set i) (n := tn μ) (r := fun a => (b01 a, nI (tn μ))) (by omega) (fun k a i hi P => by
    subst P
    have i10 : i < 10 := by omega
    have f0 : mI μ 145 i = _ := (T.2.1 0 i (by decide) i10).2.1
    have b0 : tv μ 0 i ≤ 15 := (T.2.1 0 i (by decide) i10).2.2
    refine ⟨_, rfl, ?_⟩
    show X11_areFor_L5 134 (nI p) (nI set) μ (k + 1) (b01 (frB μ p set i)) (nI i) = X11_areFor_L5 134 (nI p) (nI set) μ k (b01 (frB μ p set (i + 1))) (nI (i + 1))
    rw [X11_areFor_L5, gi_134 o, T.1.2.1, Option.bind_some, if_neg (nI_ge hi (by omega)), frB]
    simp only [r_134_13 o, ai_145 o i10, f0, Option.bind_some, b01_z, bt_z, bt_1, bt_t (show set < 2 ^ 31 by omega) (show i < 31 by omega), bt_t1 (show tv μ 0 i < 2 ^ 31 by omega) (show p < 31 by omega), nI_add1]
    cases frB μ p set i
    · rw [if_pos rfl]
      rfl
    · rw [if_neg (by decide)]
      cases set.testBit i
      · rw [if_pos rfl]
        rfl
      · rw [if_neg (by decide)]
        cases (tv μ 0 i).testBit p
        · rw [if_neg (by decide)]
          rfl
        · rw [if_pos rfl]
          rfl) (fun k a P => by
    show X11_areFor_L5 134 (nI p) (nI set) μ (k + 1) (b01 a) (nI (tn μ)) = _
    rw [X11_areFor_L5, gi_134 o, T.1.2.1, Option.bind_some, if_pos (nI_le (Nat.le_refl _) (by omega))]) true rfl
  subst P
  have e : X11_areFor_L5 134 (nI p) (nI set) μ FU 1 0 = _ := e
  unfold X11_areFor
  rw [e, Option.bind_some, zz_b, Option.bind_some]
theorem lm_lt (T : RelT μ) (set : Nat) : ∀ n, n ≤ 10 → (lm μ set n < 0) = (lm μ set n = -1)
  | 0, _ => by rw [lm]; decide
  | n + 1, h => by
    have b2 : tv μ 2 n ≤ 5 := (T.2.1 2 n (by decide) (by omega)).2.2
    rw [lm]
    split
    · rw [nI_lt0 (by omega)]
      refine propext ⟨False.elim, fun z => ?_⟩
      have := congrArg Int32.toInt z
      rw [nI_toInt (by omega)] at this
      have : (-1 : Int32).toInt = -1 := rfl
      omega
    · exact lm_lt T set n (by omega)
theorem oneM_m (o : Ok μ) (T : RelT μ) (hs : set < 2 ^ 10) : X11_isOneMatter 134 (nI set) μ = some (b01 (isM μ set (tn μ))) := by
  have hn := T.1.2.2
  obtain ⟨a, P, e⟩ := loopF (F := fun k (a : Int32 × Bool) i => X11_isOneMatter_L7 134 (nI set) μ k a.1 (b01 a.2) (nI i)) (P := fun i a => a = (lm μ set i, isM μ set i)) (n := tn μ) (r := fun a => (a.1, b01 a.2, nI (tn μ))) (by omega) (fun k a i hi P => by
    subst P
    have i10 : i < 10 := by omega
    have f2 : mI μ 147 i = _ := (T.2.1 2 i (by decide) i10).2.1
    refine ⟨_, rfl, ?_⟩
    show X11_isOneMatter_L7 134 (nI set) μ (k + 1) (lm μ set i) (b01 (isM μ set i)) (nI i) = X11_isOneMatter_L7 134 (nI set) μ k (lm μ set (i + 1)) (b01 (isM μ set (i + 1))) (nI (i + 1))
    rw [X11_isOneMatter_L7, gi_134 o, T.1.2.1, Option.bind_some, if_neg (nI_ge hi (by omega)), lm, isM]
    simp only [r_134_15 o, ai_147 o i10, f2, Option.bind_some, b01_z, bt_1, bt_t1 (show set < 2 ^ 31 by omega) (show i < 31 by omega), nI_add1, lm_lt T set i (by omega)]
    by_cases qs : set.testBit i = true
    · rw [if_pos qs, if_pos qs, if_pos qs]
      cases isM μ set i
      · rw [if_pos rfl]
        rfl
      · rw [if_neg (by decide)]
        by_cases q1 : lm μ set i = -1
        · rw [if_pos q1, decide_eq_true q1]
          rfl
        · rw [if_neg q1, decide_eq_false q1, Bool.false_or, Bool.true_and]
          by_cases q2 : lm μ set i = nI (tv μ 2 i)
          · rw [if_pos q2.symm, decide_eq_true q2]
            rfl
          · rw [if_neg (fun z => q2 z.symm), decide_eq_false q2]
            rfl
    · rw [if_neg qs, if_neg qs, if_neg qs]
      rfl) (fun k a P => by
    show X11_isOneMatter_L7 134 (nI set) μ (k + 1) a.1 (b01 a.2) (nI (tn μ)) = _
    rw [X11_isOneMatter_L7, gi_134 o, T.1.2.1, Option.bind_some, if_pos (nI_le (Nat.le_refl _) (by omega))]) (-1, true) rfl
  subst P
  have e : X11_isOneMatter_L7 134 (nI set) μ FU (-1) 1 0 = _ := e
  unfold X11_isOneMatter
  rw [e, Option.bind_some, zz_b, Option.bind_some]
end SAY
