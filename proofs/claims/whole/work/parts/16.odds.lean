/-! ===== the odds ===== -/
theorem fac_1 {x : Nat} : fac true x ≤ 1 := by
  unfold fac
  split
  · exact Nat.le_refl _
  · rename_i h
    have : ¬ 0 < x := fun q => h ⟨rfl, q⟩
    omega
theorem psi_le {μ : Mem} (R : RelW μ) {c : Bool} {i p t : Nat} (hi : i < 4) (hp : p < 4) (ht : t < 61) : psi μ c i (sg μ p t) ≤ 4 := by
  unfold psi
  rcases (R.2.2.2.2.1 p t hp ht).2 with e | ⟨s, hs, e⟩
  · rw [e, if_pos (by decide)]
    decide
  · rw [e, if_neg (nI_pos (by omega)), vN_nI (by omega)]
    exact fac_le (R.2.1 i s hi hs).2.2
theorem psi_1 {μ : Mem} {i : Nat} {s : Int32} : psi μ true i s ≤ 1 := by
  unfold psi
  split
  · exact Nat.le_refl _
  · exact fac_1
theorem wN_le {μ : Mem} (R : RelW μ) {c : Bool} {p st : Nat} (hp : p < 4) : ∀ d i, i < 4 → st + d < 61 → wN μ c p st d i ≤ 16 * 64 ^ d
  | 0, i, hi, hs => by
    unfold wN
    exact Nat.le_trans (Nat.mul_le_mul (fac_le (R.2.2.1 i hi).2.2) (psi_le R hi hp (by omega))) (by decide : 4 * 4 ≤ 16 * 64 ^ 0)
  | d + 1, j, hj, hs => by
    unfold wN
    have h0 := Nat.mul_le_mul (wN_le R (c := c) (st := st) hp d 0 (by decide) (by omega)) (fac_le (c := c) (R.1 0 j (by decide) hj).2.2)
    have h1 := Nat.mul_le_mul (wN_le R (c := c) (st := st) hp d 1 (by decide) (by omega)) (fac_le (c := c) (R.1 1 j (by decide) hj).2.2)
    have h2 := Nat.mul_le_mul (wN_le R (c := c) (st := st) hp d 2 (by decide) (by omega)) (fac_le (c := c) (R.1 2 j (by decide) hj).2.2)
    have h3 := Nat.mul_le_mul (wN_le R (c := c) (st := st) hp d 3 (by decide) (by omega)) (fac_le (c := c) (R.1 3 j (by decide) hj).2.2)
    have h4 := psi_le R (c := c) hj hp (t := st + d + 1) (by omega)
    rw [Nat.pow_succ]
    generalize 64 ^ d = q at h0 h1 h2 h3 ⊢
    refine Nat.le_trans (Nat.mul_le_mul (Nat.add_le_add (Nat.add_le_add (Nat.add_le_add h0 h1) h2) h3) h4) ?_
    omega
theorem wN_cle {μ : Mem} {p st : Nat} : ∀ d i, wN μ true p st d i ≤ 4 ^ d
  | 0, i => by
    unfold wN
    exact Nat.mul_le_mul fac_1 psi_1
  | d + 1, j => by
    unfold wN
    have h0 := Nat.mul_le_mul (wN_cle (μ := μ) (p := p) (st := st) d 0) (fac_1 (x := mv μ 0 j))
    have h1 := Nat.mul_le_mul (wN_cle (μ := μ) (p := p) (st := st) d 1) (fac_1 (x := mv μ 1 j))
    have h2 := Nat.mul_le_mul (wN_cle (μ := μ) (p := p) (st := st) d 2) (fac_1 (x := mv μ 2 j))
    have h3 := Nat.mul_le_mul (wN_cle (μ := μ) (p := p) (st := st) d 3) (fac_1 (x := mv μ 3 j))
    have h4 := psi_1 (μ := μ) (i := j) (s := sg μ p (st + d + 1))
    rw [Nat.pow_succ]
    generalize 4 ^ d = q at h0 h1 h2 h3 ⊢
    refine Nat.le_trans (Nat.mul_le_mul (Nat.add_le_add (Nat.add_le_add (Nat.add_le_add h0 h1) h2) h3) h4) ?_
    omega
theorem wgt_le {μ : Mem} (R : RelW μ) {c : Bool} {p t i : Nat} (hp : p < 4) (ht : t < 61) (hi : i < 4) : wgt μ c p t i ≤ 16 * 64 ^ 6 := by
  refine Nat.le_trans (wN_le R hp _ i hi (by omega)) (Nat.mul_le_mul_left _ (Nat.pow_le_pow_right (by decide) (by omega)))
theorem wgt_cle {μ : Mem} {p t i : Nat} : wgt μ true p t i ≤ 4 ^ 6 := Nat.le_trans (wN_cle _ i) (Nat.pow_le_pow_right (by decide) (by omega))
def allW (μ : Mem) (c : Bool) (p t : Nat) : Nat := wgt μ c p t 0 + wgt μ c p t 1 + wgt μ c p t 2 + wgt μ c p t 3
theorem allW_sm {μ μ' : Mem} (h : Sm μ μ') : allW μ' = allW μ := by
  funext c p t
  unfold allW
  rw [wgt_sm h]
theorem allW_eq {μ : Mem} (h : Ok μ) {f : Nat → Nat} (hf : HJ μ (wtA μ) 4 f) : X9_allWeights 1 μ = some (lN (f 0 + f 1 + f 2 + f 3)) := by
  have w := wt_s h
  have e : ∀ i, i < 4 → aJ (wtA μ) (nI i) μ = some (lN (f i)) := fun i hi => (aJ_eq h w.2.2.1 w.1 hi (by decide)).trans (by rw [hf i hi])
  unfold X9_allWeights
  rw [show (0 : Int32) = nI 0 from rfl, show (1 : Int32) = nI 1 from rfl, show (2 : Int32) = nI 2 from rfl, show (3 : Int32) = nI 3 from rfl]
  simp only [r_w6 h, Option.bind_some, e 0 (by decide), e 1 (by decide), e 2 (by decide), e 3 (by decide), lN_add]
theorem fits_c {μ : Mem} (h : Ok μ) (R : RelW μ) {p t : Nat} (hp : p < 4) (ht : t < 61) : ∃ μ', Sm μ μ' ∧ X9_fittingRows 1 (nI p) (nI t) μ = some (nI (allW μ true p t), μ') := by
  obtain ⟨a, ⟨sa, hj⟩, e⟩ := weigh_ok h R hp ht true
  refine ⟨a, sa, ?_⟩
  unfold X9_fittingRows
  rw [show (1 : Int32) = cI true from rfl]
  simp only [vO_eq (c := 9) (a := 1) h (by decide) rfl, vO_eq (c := 9) (a := 1) sa.1 (by decide) rfl, Option.bind_some, e, allW_eq sa.1 hj, lN_i]
  rfl
/-- ODDS ahead by k TICKS at a TICK -/
def tot (μ : Mem) (i : Nat) : Nat := mv μ i 0 + mv μ i 1 + mv μ i 2 + mv μ i 3
def mvS (μ : Mem) (od : Nat → Nat) (i j : Nat) : Nat := if tot μ i = 0 then 0 else od i * mv μ i j / tot μ i
def odd (μ : Mem) (p t : Nat) : Nat → Nat → Nat
  | 0, i => if allW μ false p t = 0 then 0 else wgt μ false p t i * 1000000 / allW μ false p t
  | k + 1, j => mvS μ (odd μ p t k) 0 j + mvS μ (odd μ p t k) 1 j + mvS μ (odd μ p t k) 2 j + mvS μ (odd μ p t k) 3 j
theorem odd_sm {μ μ' : Mem} (h : Sm μ μ') (p t : Nat) : ∀ k i, odd μ' p t k i = odd μ p t k i
  | 0, i => by
    unfold odd
    rw [allW_sm h, wgt_sm h]
  | k + 1, j => by
    have e : odd μ' p t k = odd μ p t k := funext (odd_sm h p t k)
    have e2 : tot μ' = tot μ := funext fun i => by unfold tot; rw [mv_sm h]
    unfold odd mvS
    rw [e, e2, mv_sm h]
def sum4 (f : Nat → Nat) : Nat := f 0 + f 1 + f 2 + f 3
theorem mvS_sum (μ : Mem) (od : Nat → Nat) (i : Nat) : mvS μ od i 0 + mvS μ od i 1 + mvS μ od i 2 + mvS μ od i 3 ≤ od i := by
  unfold mvS
  by_cases h : tot μ i = 0
  · simp [h]
  · simp only [if_neg h]
    have h1 := Nat.div_mul_le_self (od i * mv μ i 0) (tot μ i)
    have h2 := Nat.div_mul_le_self (od i * mv μ i 1) (tot μ i)
    have h3 := Nat.div_mul_le_self (od i * mv μ i 2) (tot μ i)
    have h4 := Nat.div_mul_le_self (od i * mv μ i 3) (tot μ i)
    have h5 : (od i * mv μ i 0 / tot μ i + od i * mv μ i 1 / tot μ i + od i * mv μ i 2 / tot μ i + od i * mv μ i 3 / tot μ i) * tot μ i ≤ od i * tot μ i := by
      have e : od i * tot μ i = od i * mv μ i 0 + od i * mv μ i 1 + od i * mv μ i 2 + od i * mv μ i 3 := by
        unfold tot
        rw [Nat.mul_add, Nat.mul_add, Nat.mul_add]
      rw [e, Nat.add_mul, Nat.add_mul, Nat.add_mul]
      omega
    exact Nat.le_of_mul_le_mul_right h5 (Nat.pos_of_ne_zero h)
theorem odd_sum {μ : Mem} (p t : Nat) : ∀ k, sum4 (odd μ p t k) ≤ 1000000
  | 0 => by
    unfold sum4 odd
    by_cases h : allW μ false p t = 0
    · simp [h]
    · simp only [if_neg h]
      have h1 := Nat.div_mul_le_self (wgt μ false p t 0 * 1000000) (allW μ false p t)
      have h2 := Nat.div_mul_le_self (wgt μ false p t 1 * 1000000) (allW μ false p t)
      have h3 := Nat.div_mul_le_self (wgt μ false p t 2 * 1000000) (allW μ false p t)
      have h4 := Nat.div_mul_le_self (wgt μ false p t 3 * 1000000) (allW μ false p t)
      refine Nat.le_of_mul_le_mul_right (c := allW μ false p t) ?_ (Nat.pos_of_ne_zero h)
      rw [Nat.add_mul, Nat.add_mul, Nat.add_mul]
      have e : allW μ false p t = wgt μ false p t 0 + wgt μ false p t 1 + wgt μ false p t 2 + wgt μ false p t 3 := rfl
      generalize allW μ false p t = A at *
      omega
  | k + 1 => by
    have ih := odd_sum p t (μ := μ) k
    have h0 := mvS_sum μ (odd μ p t k) 0
    have h1 := mvS_sum μ (odd μ p t k) 1
    have h2 := mvS_sum μ (odd μ p t k) 2
    have h3 := mvS_sum μ (odd μ p t k) 3
    show (mvS μ (odd μ p t k) 0 0 + mvS μ (odd μ p t k) 1 0 + mvS μ (odd μ p t k) 2 0 + mvS μ (odd μ p t k) 3 0) + (mvS μ (odd μ p t k) 0 1 + mvS μ (odd μ p t k) 1 1 + mvS μ (odd μ p t k) 2 1 + mvS μ (odd μ p t k) 3 1) + (mvS μ (odd μ p t k) 0 2 + mvS μ (odd μ p t k) 1 2 + mvS μ (odd μ p t k) 2 2 + mvS μ (odd μ p t k) 3 2) + (mvS μ (odd μ p t k) 0 3 + mvS μ (odd μ p t k) 1 3 + mvS μ (odd μ p t k) 2 3 + mvS μ (odd μ p t k) 3 3) ≤ 1000000
    unfold sum4 at ih
    omega
theorem odd_le {μ : Mem} {p t k i : Nat} (hi : i < 4) : odd μ p t k i ≤ 1000000 := by
  have h := odd_sum (μ := μ) p t k
  unfold sum4 at h
  rcases (show i = 0 ∨ i = 1 ∨ i = 2 ∨ i = 3 by omega) with rfl | rfl | rfl | rfl <;> omega
