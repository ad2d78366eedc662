/-! ===== WORK: what both programs hold of it, and the odds in whole numbers ===== -/
def vN (x : Int32) : Nat := x.toNatClampNeg
theorem vN_nI {n : Nat} (h : n < 2 ^ 31) : vN (nI n) = n := nI_clamp h
def mv (μ : Mem) (i j : Nat) : Nat := vN (mI μ 135 (4 * i + j))
def sw (μ : Mem) (i s : Nat) : Nat := vN (mI μ 136 (4 * i + s))
def bg (μ : Mem) (i : Nat) : Nat := vN (mI μ 137 i)
def sg (μ : Mem) (p t : Nat) : Int32 := mI μ 138 (61 * p + t)
def nw (μ : Mem) : Nat := vN (mI μ 134 5)
def ss (μ : Mem) : Int32 := mI μ 134 3
def RW1 (μ : Mem) : Prop := ∀ i j, i < 4 → j < 4 → mI μ (3 + i) j = nI (mv μ i j) ∧ mI μ 135 (4 * i + j) = nI (mv μ i j) ∧ mv μ i j ≤ 4
def RW2 (μ : Mem) : Prop := ∀ i j, i < 4 → j < 4 → mI μ (8 + i) j = nI (sw μ i j) ∧ mI μ 136 (4 * i + j) = nI (sw μ i j) ∧ sw μ i j ≤ 4
def RW3 (μ : Mem) : Prop := ∀ i, i < 4 → mI μ 12 i = nI (bg μ i) ∧ mI μ 137 i = nI (bg μ i) ∧ bg μ i ≤ 4
def RW4 (μ : Mem) : Prop := mI μ 1 5 = ss μ ∧ ∃ n, n ≤ 15 ∧ ss μ = nI n
def RW5 (μ : Mem) : Prop := ∀ p t, p < 4 → t < 61 → mI μ (14 + p) t = sg μ p t ∧ (sg μ p t = -1 ∨ ∃ s, s < 4 ∧ sg μ p t = nI s)
def RW6 (μ : Mem) : Prop := mI μ 0 10 = nI (nw μ) ∧ mI μ 134 5 = nI (nw μ) ∧ nw μ ≤ 60
def RelW (μ : Mem) : Prop := RW1 μ ∧ RW2 μ ∧ RW3 μ ∧ RW4 μ ∧ RW5 μ ∧ RW6 μ
theorem Sm.row {μ μ' : Mem} {a : Nat} (h : Sm μ μ') (ha : coA a = true) : mI μ' a = mI μ a := funext fun k => h.2.1 a k (by unfold cor; rw [ha]; rfl)
theorem Sm.fld {μ μ' : Mem} {a k : Nat} (h : Sm μ μ') (ha : coF a k = true) : mI μ' a k = mI μ a k := h.2.1 a k (by unfold cor; rw [ha]; exact Bool.or_true _)
theorem mv_sm {μ μ' : Mem} (h : Sm μ μ') : mv μ' = mv μ := by
  funext i j
  unfold mv
  rw [h.row rfl]
theorem sw_sm {μ μ' : Mem} (h : Sm μ μ') : sw μ' = sw μ := by
  funext i j
  unfold sw
  rw [h.row rfl]
theorem bg_sm {μ μ' : Mem} (h : Sm μ μ') : bg μ' = bg μ := by
  funext i
  unfold bg
  rw [h.row rfl]
theorem sg_sm {μ μ' : Mem} (h : Sm μ μ') : sg μ' = sg μ := by
  funext i j
  unfold sg
  rw [h.row rfl]
theorem nw_sm {μ μ' : Mem} (h : Sm μ μ') : nw μ' = nw μ := by
  unfold nw
  rw [h.fld rfl]
theorem ss_sm {μ μ' : Mem} (h : Sm μ μ') : ss μ' = ss μ := by
  unfold ss
  rw [h.fld rfl]
theorem coA_4 {b i : Nat} (hb : b = 3 ∨ b = 8 ∨ b = 14 ∨ b = 32) (hi : i < 4) : coA (b + i) = true := by
  unfold coA
  rw [decide_eq_true_eq]
  omega
theorem RelW.sm {μ μ' : Mem} (h : RelW μ) (s : Sm μ μ') : RelW μ' := by
  obtain ⟨h1, h2, h3, h4, h5, h6⟩ := h
  refine ⟨fun i j hi hj => ?_, fun i j hi hj => ?_, fun i hi => ?_, ?_, fun p t hp ht => ?_, ?_⟩
  · rw [s.row (coA_4 (by omega) hi), s.row (a := 135) rfl, mv_sm s]
    exact h1 i j hi hj
  · rw [s.row (coA_4 (by omega) hi), s.row (a := 136) rfl, sw_sm s]
    exact h2 i j hi hj
  · rw [s.row (a := 12) rfl, s.row (a := 137) rfl, bg_sm s]
    exact h3 i hi
  · unfold RW4
    rw [s.fld (a := 1) (k := 5) rfl, ss_sm s]
    exact h4
  · rw [s.row (coA_4 (by omega) hp), sg_sm s]
    exact h5 p t hp ht
  · unfold RW6
    rw [s.fld (a := 0) (k := 10) rfl, s.fld (a := 134) (k := 5) rfl, nw_sm s]
    exact h6
/-- how often, or (counting) whether at all -/
def fac (c : Bool) (x : Nat) : Nat := if c = true ∧ 0 < x then 1 else x
def psi (μ : Mem) (c : Bool) (i : Nat) (s : Int32) : Nat := if s < 0 then 1 else fac c (sw μ i (vN s))
def wN (μ : Mem) (c : Bool) (p st : Nat) : Nat → Nat → Nat
  | 0, i => fac c (bg μ i) * psi μ c i (sg μ p st)
  | d + 1, j => (wN μ c p st d 0 * fac c (mv μ 0 j) + wN μ c p st d 1 * fac c (mv μ 1 j) + wN μ c p st d 2 * fac c (mv μ 2 j) + wN μ c p st d 3 * fac c (mv μ 3 j)) * psi μ c j (sg μ p (st + d + 1))
def wgt (μ : Mem) (c : Bool) (p t i : Nat) : Nat := wN μ c p (t - 6) (t - (t - 6)) i
theorem psi_sm {μ μ' : Mem} (h : Sm μ μ') : psi μ' = psi μ := by
  funext c i s
  unfold psi
  rw [sw_sm h]
theorem wN_sm {μ μ' : Mem} (h : Sm μ μ') (c : Bool) (p st : Nat) : ∀ d i, wN μ' c p st d i = wN μ c p st d i
  | 0, i => by
    unfold wN
    rw [bg_sm h, psi_sm h, sg_sm h]
  | d + 1, j => by
    unfold wN
    rw [wN_sm h c p st d 0, wN_sm h c p st d 1, wN_sm h c p st d 2, wN_sm h c p st d 3, mv_sm h, psi_sm h, sg_sm h]
theorem wgt_sm {μ μ' : Mem} (h : Sm μ μ') : wgt μ' = wgt μ := by
  funext c p t i
  exact wN_sm h c p _ _ i
def cI (c : Bool) : Int32 := if c = true then 1 else 0
theorem factor_eq {m : Nat} {c : Bool} (hm : m < 2 ^ 31) : X9_factor (nI m) (cI c) = lN (fac c m) := by
  unfold X9_factor fac cI
  cases c
  · simp [nI_l hm]
  · by_cases h : 0 < m
    · rw [if_neg (by decide), if_neg (fun q => by rw [← nI_0, n_le hm (by decide)] at q; omega), if_pos ⟨rfl, h⟩]
      rfl
    · have : m = 0 := by omega
      subst this
      rfl
theorem fac_le {c : Bool} {x n : Nat} (h : x ≤ n) : fac c x ≤ n := by
  unfold fac
  split
  · omega
  · exact h
theorem signF {μ : Mem} {c : Bool} {i : Nat} {s : Int32} (h : Ok μ) (R : RW2 μ) (hi : i < 4) (hs : s = -1 ∨ ∃ k, k < 4 ∧ s = nI k) : X9_signFactor 1 (nI i) s (cI c) μ = some (lN (psi μ c i s)) := by
  unfold X9_signFactor psi
  rcases hs with rfl | ⟨k, hk, rfl⟩
  · rw [if_pos (by decide), if_pos (by decide)]
    rfl
  · have h0 : ¬ nI k < 0 := nI_pos (by omega)
    rw [if_neg h0, if_pos (by rw [show (4 : Int32) = nI 4 from rfl, n_lt (by omega) (by decide)]; exact hk), if_neg h0, r_1_1 h, Option.bind_some, ar_shown h hi, Option.bind_some, aI_eq h (by omega) (s_shown hi) hk (by decide), Option.bind_some, Option.bind_some, (R i k hi hk).1, vN_nI (by omega), factor_eq (by have := (R i k hi hk).2.2; omega)]
