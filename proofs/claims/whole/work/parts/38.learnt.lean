/-! ===== LEARNT ===== -/
def cnO (μ : Mem) (w : Nat) : Nat → Nat
  | 0 => 0
  | n + 1 => if sv μ 2 n = w ∧ ¬ sv μ 4 n = 0 then cnO μ w n + 1 else cnO μ w n
def cnL (μ : Mem) (w : Nat) : Nat → Nat
  | 0 => 0
  | n + 1 => if sv μ 2 n = w ∧ sv μ 4 n = 1 then cnL μ w n + 1 else cnL μ w n
theorem cnO_le (μ : Mem) (w : Nat) : ∀ n, cnO μ w n ≤ n
  | 0 => Nat.le_refl _
  | n + 1 => by
    have := cnO_le μ w n
    rw [cnO]
    split <;> omega
theorem cnL_le (μ : Mem) (w : Nat) : ∀ n, cnL μ w n ≤ cnO μ w n
  | 0 => Nat.le_refl _
  | n + 1 => by
    have := cnL_le μ w n
    rw [cnO, cnL]
    by_cases q : sv μ 2 n = w ∧ sv μ 4 n = 1
    · rw [if_pos q, if_pos ⟨q.1, by omega⟩]
      omega
    · rw [if_neg q]
      split <;> omega
theorem outc_c {μ : Mem} (h : Ok μ) (S : RelS μ) {w : Nat} (hw : w < 4) : X0_outcomesBy 37 (nI w) μ = some (nI (cnO μ w (sc μ))) := by
  have hc := S.1.2.2
  obtain ⟨a, P, e⟩ := loopF (F := fun k (a : Nat) i => X0_outcomesBy_L4 37 (nI w) μ k (nI a) (nI i)) (P := fun i a => a = cnO μ w i) (n := sc μ) (r := fun a => (nI a, nI (sc μ))) (by omega) (fun k a i hi P => by
    subst P
    have i40 : i < 40 := by omega
    have f2 := (S.2.1 2 i (by decide) i40).1
    have f4 := (S.2.1 4 i (by decide) i40).1
    have b2 : sv μ 2 i ≤ 3 := (S.2.1 2 i (by decide) i40).2.2
    have b4 : sv μ 4 i ≤ 3 := (S.2.1 4 i (by decide) i40).2.2
    have c2 : (nI (sv μ 2 i) = nI w) = (sv μ 2 i = w) := n_eq (by omega) (by omega)
    have c4 : (nI (sv μ 4 i) = 0) = (sv μ 4 i = 0) := n_eq (b := 0) (by omega) (by decide)
    refine ⟨_, rfl, ?_⟩
    show X0_outcomesBy_L4 37 (nI w) μ (k + 1) (nI (cnO μ w i)) (nI i) = X0_outcomesBy_L4 37 (nI w) μ k (nI (cnO μ w (i + 1))) (nI (i + 1))
    rw [X0_outcomesBy_L4, gi_37 h, S.1.1, Option.bind_some, if_neg (nI_ge hi (by omega)), cnO]
    simp only [r_37_1 h, ar_sayings h i40, gi_S h i40, f2, f4, Option.bind_some, c2, c4, nI_add1]
    by_cases q : sv μ 2 i = w
    · by_cases q4 : sv μ 4 i = 0
      · rw [if_pos q, if_pos q4, if_neg (fun z => z.2 q4)]
        rfl
      · rw [if_pos q, if_neg q4, if_pos ⟨q, q4⟩]
        rfl
    · rw [if_neg q, if_neg (fun z => q z.1)]
      rfl) (fun k a P => by
    show X0_outcomesBy_L4 37 (nI w) μ (k + 1) (nI a) (nI (sc μ)) = _
    rw [X0_outcomesBy_L4, gi_37 h, S.1.1, Option.bind_some, if_pos (nI_le (Nat.le_refl _) (by omega))]) 0 rfl
  subst P
  have e : X0_outcomesBy_L4 37 (nI w) μ FU 0 0 = _ := e
  unfold X0_outcomesBy
  rw [e, Option.bind_some]
theorem look_c {μ : Mem} (h : Ok μ) (S : RelS μ) {w : Nat} (hw : w < 4) : X0_lookedAtBy 37 (nI w) μ = some (nI (cnL μ w (sc μ))) := by
  have hc := S.1.2.2
  obtain ⟨a, P, e⟩ := loopF (F := fun k (a : Nat) i => X0_lookedAtBy_L4 37 (nI w) μ k (nI a) (nI i)) (P := fun i a => a = cnL μ w i) (n := sc μ) (r := fun a => (nI a, nI (sc μ))) (by omega) (fun k a i hi P => by
    subst P
    have i40 : i < 40 := by omega
    have f2 := (S.2.1 2 i (by decide) i40).1
    have f4 := (S.2.1 4 i (by decide) i40).1
    have b2 : sv μ 2 i ≤ 3 := (S.2.1 2 i (by decide) i40).2.2
    have b4 : sv μ 4 i ≤ 3 := (S.2.1 4 i (by decide) i40).2.2
    have c2 : (nI (sv μ 2 i) = nI w) = (sv μ 2 i = w) := n_eq (by omega) (by omega)
    have c4 : (nI (sv μ 4 i) = 1) = (sv μ 4 i = 1) := n_eq (b := 1) (by omega) (by decide)
    refine ⟨_, rfl, ?_⟩
    show X0_lookedAtBy_L4 37 (nI w) μ (k + 1) (nI (cnL μ w i)) (nI i) = X0_lookedAtBy_L4 37 (nI w) μ k (nI (cnL μ w (i + 1))) (nI (i + 1))
    rw [X0_lookedAtBy_L4, gi_37 h, S.1.1, Option.bind_some, if_neg (nI_ge hi (by omega)), cnL]
    simp only [r_37_1 h, ar_sayings h i40, gi_S h i40, f2, f4, Option.bind_some, c2, c4, nI_add1]
    by_cases q : sv μ 2 i = w
    · by_cases q4 : sv μ 4 i = 1
      · rw [if_pos q, if_pos q4, if_pos ⟨q, q4⟩]
        rfl
      · rw [if_pos q, if_neg q4, if_neg (fun z => q4 z.2)]
        rfl
    · rw [if_neg q, if_neg (fun z => q z.1)]
      rfl) (fun k a P => by
    show X0_lookedAtBy_L4 37 (nI w) μ (k + 1) (nI a) (nI (sc μ)) = _
    rw [X0_lookedAtBy_L4, gi_37 h, S.1.1, Option.bind_some, if_pos (nI_le (Nat.le_refl _) (by omega))]) 0 rfl
  subst P
  have e : X0_lookedAtBy_L4 37 (nI w) μ FU 0 0 = _ := e
  unfold X0_lookedAtBy
  rw [e, Option.bind_some]
theorem cameO_m {μ : Mem} (h : Ok μ) (S : RelS μ) {w : Nat} (hw : w < 4) : X11_cameOf 134 (nI w) 0 μ = some (nI (cnO μ w (sc μ))) := by
  have hc := S.1.2.2
  obtain ⟨a, P, e⟩ := loopF (F := fun k (a : Nat) i => X11_cameOf_L5 134 (nI w) 0 μ k (nI a) (nI i)) (P := fun i a => a = cnO μ w i) (n := sc μ) (r := fun a => (nI a, nI (sc μ))) (by omega) (fun k a i hi P => by
    subst P
    have i40 : i < 40 := by omega
    have f2 : mI μ 172 i = _ := (S.2.1 2 i (by decide) i40).2.1
    have f4 : mI μ 174 i = _ := (S.2.1 4 i (by decide) i40).2.1
    have b2 : sv μ 2 i ≤ 3 := (S.2.1 2 i (by decide) i40).2.2
    have b4 : sv μ 4 i ≤ 3 := (S.2.1 4 i (by decide) i40).2.2
    have c2 : (nI (sv μ 2 i) = nI w) = (sv μ 2 i = w) := n_eq (by omega) (by omega)
    have c4 : (nI (sv μ 4 i) ≤ 0) = (sv μ 4 i = 0) := nI_0le (by omega)
    refine ⟨_, rfl, ?_⟩
    show X11_cameOf_L5 134 (nI w) 0 μ (k + 1) (nI (cnO μ w i)) (nI i) = X11_cameOf_L5 134 (nI w) 0 μ k (nI (cnO μ w (i + 1))) (nI (i + 1))
    rw [X11_cameOf_L5, gi_134 h, S.1.2.1, Option.bind_some, if_neg (nI_ge hi (by omega)), cnO]
    simp only [r_134_48 h, r_134_50 h, ai_172 h i40, ai_174 h i40, f2, f4, Option.bind_some, c2, c4, nI_add1, if_true]
    by_cases q : sv μ 2 i = w
    · by_cases q4 : sv μ 4 i = 0
      · rw [if_pos q, if_pos q4, if_neg (fun z => z.2 q4), Option.bind_some, Int32.add_zero]
      · rw [if_pos q, if_neg q4, if_pos ⟨q, q4⟩, Option.bind_some, nI_add1]
    · rw [if_neg q, if_neg (fun z => q z.1), Option.bind_some, Int32.add_zero]) (fun k a P => by
    show X11_cameOf_L5 134 (nI w) 0 μ (k + 1) (nI a) (nI (sc μ)) = _
    rw [X11_cameOf_L5, gi_134 h, S.1.2.1, Option.bind_some, if_pos (nI_le (Nat.le_refl _) (by omega))]) 0 rfl
  subst P
  have e : X11_cameOf_L5 134 (nI w) 0 μ FU 0 0 = _ := e
  unfold X11_cameOf
  rw [e, Option.bind_some]
theorem cameL_m {μ : Mem} (h : Ok μ) (S : RelS μ) {w : Nat} (hw : w < 4) : X11_cameOf 134 (nI w) 1 μ = some (nI (cnL μ w (sc μ))) := by
  have hc := S.1.2.2
  obtain ⟨a, P, e⟩ := loopF (F := fun k (a : Nat) i => X11_cameOf_L5 134 (nI w) 1 μ k (nI a) (nI i)) (P := fun i a => a = cnL μ w i) (n := sc μ) (r := fun a => (nI a, nI (sc μ))) (by omega) (fun k a i hi P => by
    subst P
    have i40 : i < 40 := by omega
    have f2 : mI μ 172 i = _ := (S.2.1 2 i (by decide) i40).2.1
    have f4 : mI μ 174 i = _ := (S.2.1 4 i (by decide) i40).2.1
    have b2 : sv μ 2 i ≤ 3 := (S.2.1 2 i (by decide) i40).2.2
    have b4 : sv μ 4 i ≤ 3 := (S.2.1 4 i (by decide) i40).2.2
    have c2 : (nI (sv μ 2 i) = nI w) = (sv μ 2 i = w) := n_eq (by omega) (by omega)
    have c4 : (nI (sv μ 4 i) = 1) = (sv μ 4 i = 1) := n_eq (b := 1) (by omega) (by decide)
    refine ⟨_, rfl, ?_⟩
    show X11_cameOf_L5 134 (nI w) 1 μ (k + 1) (nI (cnL μ w i)) (nI i) = X11_cameOf_L5 134 (nI w) 1 μ k (nI (cnL μ w (i + 1))) (nI (i + 1))
    rw [X11_cameOf_L5, gi_134 h, S.1.2.1, Option.bind_some, if_neg (nI_ge hi (by omega)), cnL]
    simp only [r_134_48 h, r_134_50 h, ai_172 h i40, ai_174 h i40, f2, f4, Option.bind_some, c2, c4, nI_add1, one0, if_false]
    by_cases q : sv μ 2 i = w
    · by_cases q4 : sv μ 4 i = 1
      · rw [if_pos q, if_pos q4, if_pos ⟨q, q4⟩, Option.bind_some, nI_add1]
      · rw [if_pos q, if_neg q4, if_neg (fun z => q4 z.2), Option.bind_some, Int32.add_zero]
    · rw [if_neg q, if_neg (fun z => q z.1), Option.bind_some, Int32.add_zero]) (fun k a P => by
    show X11_cameOf_L5 134 (nI w) 1 μ (k + 1) (nI a) (nI (sc μ)) = _
    rw [X11_cameOf_L5, gi_134 h, S.1.2.1, Option.bind_some, if_pos (nI_le (Nat.le_refl _) (by omega))]) 0 rfl
  subst P
  have e : X11_cameOf_L5 134 (nI w) 1 μ FU 0 0 = _ := e
  unfold X11_cameOf
  rw [e, Option.bind_some]
/-! how many ways to choose -/
def fC (n k : Nat) : Nat → Nat
  | 0 => 1
  | i + 1 => fC n k i * (n - k + (i + 1)) / (i + 1)
def fM (n : Nat) : Nat → Nat
  | 0 => 1
  | j + 1 => fM n j * (n - (j + 1) + 1) / (j + 1)
theorem fCM : ∀ n, n < 31 → ∀ k, k < 31 → k ≤ n → fC n k k = fM n k ∧ 0 < fM n k ∧ fM n k < 2 ^ 28 := by decide +kernel
theorem fCb : ∀ n, n < 31 → ∀ k, k < 31 → k ≤ n → ∀ i, i < 31 → i ≤ k → fC n k i < 2 ^ 28 := by decide +kernel
theorem ch_c {n k : Nat} (hn : n < 31) (hk : k ≤ n) (μ : Mem) : X10_choose (nI n) (nI k) μ = some (lN (fM n k)) := by
  obtain ⟨a, P, e⟩ := loopG (F := fun m (a : Nat) i => X10_choose_L16 (nI n) (nI k) μ m (lN a) (nI i)) (P := fun i a => a = fC n k (i - 1)) (i0 := 1) (n := k + 1) (r := fun a => (lN a, nI (k + 1))) (by omega) (by omega) (fun m a i h1 hi P => by
    subst P
    obtain ⟨j, rfl⟩ : ∃ j, i = j + 1 := ⟨i - 1, by omega⟩
    have b := fCb n hn k (by omega) hk j (by omega) (by omega)
    refine ⟨_, rfl, ?_⟩
    show X10_choose_L16 (nI n) (nI k) μ (m + 1) (lN (fC n k j)) (nI (j + 1)) = X10_choose_L16 (nI n) (nI k) μ m (lN (fC n k (j + 1))) (nI (j + 1 + 1))
    have b2 : fC n k j * (n - k + (j + 1)) ≤ 2 ^ 28 * 31 := Nat.mul_le_mul (by omega) (by omega)
    rw [X10_choose_L16, if_neg (nI_nlt (by omega) (by omega)), pk_sub hk, nI_add, nI_l (by omega), nI_l (by omega), lN_mul, dvJ_eq (by omega) (by omega) (by omega), Option.bind_some, nI_add1, fC]) (fun m a P => by
    show X10_choose_L16 (nI n) (nI k) μ (m + 1) (lN a) (nI (k + 1)) = _
    rw [X10_choose_L16, if_pos (nI_lt (by omega) (by omega))]) 1 rfl
  subst P
  have e : X10_choose_L16 (nI n) (nI k) μ FU 1 1 = _ := e
  unfold X10_choose
  rw [if_neg (nI_pos (by omega)), if_pos (nI_le hk (by omega)), e, Option.bind_some, show k + 1 - 1 = k from rfl, (fCM n hn k (by omega) hk).1]
theorem ch_m {n k : Nat} (hn : n < 31) (hk : k ≤ n) (μ : Mem) : X11_choose (nI n) (nI k) μ = some (lN (fM n k)) := by
  obtain ⟨a, P, e⟩ := loopG (F := fun m (a : Nat) i => X11_choose_L5 (nI n) (nI k) μ m (lN a) (nI i)) (P := fun i a => a = fM n (i - 1)) (i0 := 1) (n := k + 1) (r := fun a => (lN a, nI (k + 1))) (by omega) (by omega) (fun m a i h1 hi P => by
    subst P
    obtain ⟨j, rfl⟩ : ∃ j, i = j + 1 := ⟨i - 1, by omega⟩
    have b := (fCM n hn j (by omega) (by omega)).2.2
    refine ⟨_, rfl, ?_⟩
    show X11_choose_L5 (nI n) (nI k) μ (m + 1) (lN (fM n j)) (nI (j + 1)) = X11_choose_L5 (nI n) (nI k) μ m (lN (fM n (j + 1))) (nI (j + 1 + 1))
    have b2 : fM n j * (n - (j + 1) + 1) ≤ 2 ^ 28 * 31 := Nat.mul_le_mul (by omega) (by omega)
    rw [X11_choose_L5, if_neg (nI_nlt (by omega) (by omega)), pk_sub (by omega), nI_add1, nI_l (by omega), nI_l (by omega), lN_mul, dvJ_eq (by omega) (by omega) (by omega), Option.bind_some, nI_add1, fM]) (fun m a P => by
    show X11_choose_L5 (nI n) (nI k) μ (m + 1) (lN a) (nI (k + 1)) = _
    rw [X11_choose_L5, if_pos (nI_lt (by omega) (by omega))]) 1 rfl
  subst P
  have e : X11_choose_L5 (nI n) (nI k) μ FU 1 1 = _ := e
  unfold X11_choose
  rw [e, Option.bind_some, if_neg (nI_nlt hk (by omega)), if_pos (nI_pos' (by omega)), Option.bind_some]
  rfl
theorem ch_c0 {k : Int32} (n : Int32) (hk : k < 0) (μ : Mem) : X10_choose n k μ = some (lN 0) := by
  unfold X10_choose
  rw [if_pos hk]
  rfl
theorem ch_m0 {k : Int32} {n : Nat} (hn : n < 31) (hk : k < 0) (μ : Mem) : X11_choose (nI n) k μ = some (lN 0) := by
  have c1 : k < 1 := by
    rw [Int32.lt_iff_toInt_lt] at hk ⊢
    have e0 : (0 : Int32).toInt = 0 := rfl
    have e1 : (1 : Int32).toInt = 1 := rfl
    omega
  have c2 : ¬ nI n < k := by
    rw [Int32.lt_iff_toInt_lt] at hk ⊢
    have e0 : (0 : Int32).toInt = 0 := rfl
    rw [nI_toInt (by omega)]
    omega
  have c3 : ¬ 0 ≤ k := by
    rw [Int32.lt_iff_toInt_lt] at hk
    rw [Int32.le_iff_toInt_le]
    have e0 : (0 : Int32).toInt = 0 := rfl
    omega
  unfold X11_choose
  rw [show FU = 99999 + 1 from rfl, X11_choose_L5, if_pos c1, Option.bind_some, if_neg c2, if_neg c3, Option.bind_some]
  rfl
/-- one summand, the sum -/
def smT (m n s i : Nat) : Nat := fM m i * (if i ≤ s then fM n (s - i) else 0)
def smS (m n s x : Nat) : Nat → Nat
  | 0 => 0
  | d + 1 => smS m n s x d + smT m n s (x + d)
theorem smS_le {m n x y : Nat} (hm : m + n ≤ 30) (hx : x ≤ m) (hy : y ≤ n) : ∀ d, x + d ≤ m + 1 → smS m n (x + y) x d ≤ d * 2 ^ 56
  | 0, _ => Nat.zero_le _
  | d + 1, h => by
    have ih := smS_le hm hx hy d (by omega)
    have b1 := (fCM m (by omega) (x + d) (by omega) (by omega)).2.2
    have b2 : (if x + d ≤ x + y then fM n (x + y - (x + d)) else 0) < 2 ^ 28 := by
      split
      · exact (fCM n (by omega) _ (by omega) (by omega)).2.2
      · decide
    have b3 : smT m n (x + y) (x + d) ≤ 2 ^ 28 * 2 ^ 28 := Nat.mul_le_mul (by omega) (by omega)
    rw [smS]
    omega
theorem sum_c {m n x y : Nat} (hm : m + n ≤ 30) (hx : x ≤ m) (hy : y ≤ n) (x4 : Int32) (j5 : Int64) (μ : Mem) : X10_chance_L17 (nI x) (nI m) (nI y) (nI n) x4 j5 μ FU 0 (nI x) = some (lN (smS m n (x + y) x (m + 1 - x)), nI (m + 1)) := by
  obtain ⟨a, P, e⟩ := loopG (F := fun k (a : Nat) i => X10_chance_L17 (nI x) (nI m) (nI y) (nI n) x4 j5 μ k (lN a) (nI i)) (P := fun i a => a = smS m n (x + y) x (i - x)) (i0 := x) (n := m + 1) (r := fun a => (lN a, nI (m + 1))) (by omega) (by omega) (fun k a i h1 hi P => by
    subst P
    obtain ⟨d, rfl⟩ : ∃ d, i = x + d := ⟨i - x, by omega⟩
    refine ⟨_, rfl, ?_⟩
    show X10_chance_L17 (nI x) (nI m) (nI y) (nI n) x4 j5 μ (k + 1) (lN (smS m n (x + y) x (x + d - x))) (nI (x + d)) = X10_chance_L17 (nI x) (nI m) (nI y) (nI n) x4 j5 μ k (lN (smS m n (x + y) x (x + d + 1 - x))) (nI (x + d + 1))
    rw [show x + d - x = d by omega, show x + d + 1 - x = d + 1 by omega, smS]
    have e3 : X10_choose (nI n) (nI x + nI y - nI (x + d)) μ = some (lN (if x + d ≤ x + y then fM n (x + y - (x + d)) else 0)) := by
      rw [nI_add]
      by_cases q : x + d ≤ x + y
      · rw [if_pos q, pk_sub q, ch_c (by omega) (by omega)]
      · rw [if_neg q, ch_c0 _ (pk_sneg (by omega) (by omega))]
    rw [X10_chance_L17, if_neg (nI_nlt (by omega) (by omega)), ch_c (by omega) (by omega), Option.bind_some, e3, Option.bind_some, Option.bind_some, nI_add1, lN_mul, lN_add]
    rfl) (fun k a P => by
    show X10_chance_L17 (nI x) (nI m) (nI y) (nI n) x4 j5 μ (k + 1) (lN a) (nI (m + 1)) = _
    rw [X10_chance_L17, if_pos (nI_lt (by omega) (by omega))]) 0 (by rw [Nat.sub_self]; rfl)
  subst P
  exact e
theorem sum_m {m n x y : Nat} (hm : m + n ≤ 30) (hx : x ≤ m) (hy : y ≤ n) (x3 : Int32) (μ : Mem) : X11_learnt_L125 x3 (nI x) (nI m) (nI y) (nI n) μ FU 0 (nI x) = some (lN (smS m n (x + y) x (m + 1 - x)), nI (m + 1)) := by
  obtain ⟨a, P, e⟩ := loopG (F := fun k (a : Nat) i => X11_learnt_L125 x3 (nI x) (nI m) (nI y) (nI n) μ k (lN a) (nI i)) (P := fun i a => a = smS m n (x + y) x (i - x)) (i0 := x) (n := m + 1) (r := fun a => (lN a, nI (m + 1))) (by omega) (by omega) (fun k a i h1 hi P => by
    subst P
    obtain ⟨d, rfl⟩ : ∃ d, i = x + d := ⟨i - x, by omega⟩
    refine ⟨_, rfl, ?_⟩
    show X11_learnt_L125 x3 (nI x) (nI m) (nI y) (nI n) μ (k + 1) (lN (smS m n (x + y) x (x + d - x))) (nI (x + d)) = X11_learnt_L125 x3 (nI x) (nI m) (nI y) (nI n) μ k (lN (smS m n (x + y) x (x + d + 1 - x))) (nI (x + d + 1))
    rw [show x + d - x = d by omega, show x + d + 1 - x = d + 1 by omega, smS]
    have e3 : X11_choose (nI n) (nI x + nI y - nI (x + d)) μ = some (lN (if x + d ≤ x + y then fM n (x + y - (x + d)) else 0)) := by
      rw [nI_add]
      by_cases q : x + d ≤ x + y
      · rw [if_pos q, pk_sub q, ch_m (by omega) (by omega)]
      · rw [if_neg q, ch_m0 (by omega) (pk_sneg (by omega) (by omega))]
    rw [X11_learnt_L125, if_neg (nI_nlt (by omega) (by omega)), ch_m (by omega) (by omega), Option.bind_some, e3, Option.bind_some, Option.bind_some, nI_add1, lN_mul, lN_add]
    rfl) (fun k a P => by
    show X11_learnt_L125 x3 (nI x) (nI m) (nI y) (nI n) μ (k + 1) (lN a) (nI (m + 1)) = _
    rw [X11_learnt_L125, if_pos (nI_lt (by omega) (by omega))]) 0 (by rw [Nat.sub_self]; rfl)
  subst P
  exact e
/-! the common part -/
theorem rmJ_eq {a b : Nat} (ha : a < 2 ^ 63) (h0 : 0 < b) (hb : b < 2 ^ 63) : rmJ (lN a) (lN b) = some (lN (a % b)) := by
  unfold rmJ
  rw [if_neg (fun z => by have := (pk_lEQ (b := 0) hb (by decide)).mp z; omega), pk_lRem ha h0 hb]
theorem half {b r : Nat} (h0 : 0 < r) (h : r < b) : 2 * (b % r) < b := by
  by_cases q : 2 * r ≤ b
  · have := Nat.mod_lt b h0
    omega
  · have e : b % r = b - r := by
      rw [Nat.mod_eq_sub_mod (by omega), Nat.mod_eq_of_lt (by omega)]
    omega
theorem gcd_st (a b : Nat) : Nat.gcd b (a % b) = Nat.gcd a b := by
  rw [Nat.gcd_comm a b, Nat.gcd_rec b a, Nat.gcd_comm]
theorem gcd_m (μ : Mem) : ∀ k a b f, a < 2 ^ 63 → b < 2 ^ k → k ≤ 62 → X11_gcd_L6 μ (f + 2 * k + 1) (lN a) (lN b) = some (lN (Nat.gcd a b), lN 0)
  | 0, a, b, f, ha, hb, hk => by
    have e : b = 0 := by omega
    subst e
    show X11_gcd_L6 μ (f + 0 + 1) (lN a) (lN 0) = _
    rw [X11_gcd_L6, if_pos (by rw [lN_iz (by decide)]), Nat.gcd_zero_right]
  | k + 1, a, b, f, ha, hb, hk => by
    have hp : 2 ^ (k + 1) ≤ 2 ^ 62 := Nat.pow_le_pow_right (by decide) hk
    rw [show f + 2 * (k + 1) + 1 = f + 2 * k + 2 + 1 by omega, X11_gcd_L6]
    by_cases q : b = 0
    · subst q
      rw [if_pos (by rw [lN_iz (by decide)]), Nat.gcd_zero_right]
    · rw [if_neg (by rw [lN_iz (by omega)]; exact q), rmJ_eq ha (by omega) (by omega), Option.bind_some, ← gcd_st a b]
      have hr := Nat.mod_lt a (show 0 < b by omega)
      generalize a % b = r at hr ⊢
      rw [show f + 2 * k + 2 = f + 2 * k + 1 + 1 by omega, X11_gcd_L6]
      by_cases q2 : r = 0
      · subst q2
        rw [if_pos (by rw [lN_iz (by decide)]), Nat.gcd_zero_right]
      · have hh := half (show 0 < r by omega) hr
        have hp2 : 2 ^ (k + 1) = 2 * 2 ^ k := by rw [Nat.pow_succ]; omega
        rw [if_neg (by rw [lN_iz (by omega)]; exact q2), rmJ_eq (by omega) (by omega) (by omega), Option.bind_some, ← gcd_st b r]
        exact gcd_m μ k r (b % r) f (by omega) (by omega) (by omega)
theorem gcd_c (μ : Mem) : ∀ k a b f c, a < 2 ^ 63 → b < 2 ^ k → k ≤ 62 → c + 2 * k < 200 → ∃ x, X10_commonPart_L9 μ (f + 2 * k + 1) (lN a) (lN b) (nI c) = some (lN (Nat.gcd a b), lN 0, x)
  | 0, a, b, f, c, ha, hb, hk, hc => by
    have e : b = 0 := by omega
    subst e
    show ∃ x, X10_commonPart_L9 μ (f + 0 + 1) (lN a) (lN 0) (nI c) = _
    rw [X10_commonPart_L9, if_neg (show ¬ (200 : Int32) ≤ _ from nI_ge (b := 200) (by omega) (by decide)), if_pos (by rw [lN_iz (by decide)]), Nat.gcd_zero_right]
    exact ⟨_, rfl⟩
  | k + 1, a, b, f, c, ha, hb, hk, hc => by
    have hp : 2 ^ (k + 1) ≤ 2 ^ 62 := Nat.pow_le_pow_right (by decide) hk
    rw [show f + 2 * (k + 1) + 1 = f + 2 * k + 2 + 1 by omega, X10_commonPart_L9, if_neg (show ¬ (200 : Int32) ≤ _ from nI_ge (b := 200) (by omega) (by decide))]
    by_cases q : b = 0
    · subst q
      rw [if_pos (by rw [lN_iz (by decide)]), Nat.gcd_zero_right]
      exact ⟨_, rfl⟩
    · rw [if_neg (by rw [lN_iz (by omega)]; exact q), rmJ_eq ha (by omega) (by omega), Option.bind_some, ← gcd_st a b]
      have hr := Nat.mod_lt a (show 0 < b by omega)
      generalize a % b = r at hr ⊢
      rw [show f + 2 * k + 2 = f + 2 * k + 1 + 1 by omega, X10_commonPart_L9, nI_add1, if_neg (show ¬ (200 : Int32) ≤ _ from nI_ge (b := 200) (by omega) (by decide))]
      by_cases q2 : r = 0
      · subst q2
        rw [if_pos (by rw [lN_iz (by decide)]), Nat.gcd_zero_right]
        exact ⟨_, rfl⟩
      · have hh := half (show 0 < r by omega) hr
        have hp2 : 2 ^ (k + 1) = 2 * 2 ^ k := by rw [Nat.pow_succ]; omega
        rw [if_neg (by rw [lN_iz (by omega)]; exact q2), rmJ_eq (by omega) (by omega) (by omega), Option.bind_some, ← gcd_st b r, nI_add1]
        exact gcd_c μ k r (b % r) f (c + 1 + 1) (by omega) (by omega) (by omega) (by omega)
theorem p_learnt (x1 x2 x3 : Int32) : PairV (X10_learnt 0 x1 x2 x3) (X11_learnt 134 x1 x2 x3) := by
  intro μ ⟨o, W, hC, hT, hS, hX, hL⟩
  have hc := hS.1.2.2
  unfold X10_learnt X11_learnt
  rcases gd x1 3 (by decide) with ⟨g1, k1⟩ | ⟨g1, k1, a, ha, rfl⟩
  · rw [if_pos (show X10_isWay x1 = 0 from g1), if_pos (show X11_isWay x1 = 0 from k1)]
    exact ⟨_, rfl, rfl⟩
  rw [if_neg (show ¬ X10_isWay (nI a) = 0 from g1), if_neg (show ¬ X11_isWay (nI a) = 0 from k1)]
  rcases gd x2 3 (by decide) with ⟨g2, k2⟩ | ⟨g2, k2, b, hb, rfl⟩
  · rw [if_pos (show X10_isWay x2 = 0 from g2), if_pos (show X11_isWay x2 = 0 from k2)]
    exact ⟨_, rfl, rfl⟩
  rw [if_neg (show ¬ X10_isWay (nI b) = 0 from g2), if_neg (show ¬ X11_isWay (nI b) = 0 from k2)]
  by_cases qab : nI a = nI b
  · rw [if_pos qab, if_pos qab]
    exact ⟨_, rfl, rfl⟩
  rw [if_neg qab, if_neg qab]
  rcases gd x3 5 (by decide) with ⟨g3, k3⟩ | ⟨g3, k3, w, hw, rfl⟩
  · rw [if_pos (show X10_within x3 0 5 = 0 from g3), if_pos (show X11_in x3.toInt64 0 5 = 0 from k3)]
    exact ⟨_, rfl, rfl⟩
  rw [if_neg (show ¬ X10_within (nI w) 0 5 = 0 from g3), if_neg (show ¬ X11_in (nI w).toInt64 0 5 = 0 from k3)]
  simp only [r_0_2 o, vo_37 o, vo_134 o, Option.bind_some, outc_c o hS (show a < 4 by omega), outc_c o hS (show b < 4 by omega), look_c o hS (show a < 4 by omega), look_c o hS (show b < 4 by omega), cameO_m o hS (show a < 4 by omega), cameO_m o hS (show b < 4 by omega), cameL_m o hS (show a < 4 by omega), cameL_m o hS (show b < 4 by omega)]
  have hm := cnO_le μ a (sc μ)
  have hn := cnO_le μ b (sc μ)
  have hx := cnL_le μ a (sc μ)
  have hy := cnL_le μ b (sc μ)
  generalize cnO μ a (sc μ) = m at *
  generalize cnO μ b (sc μ) = n at *
  generalize cnL μ a (sc μ) = x at *
  generalize cnL μ b (sc μ) = y at *
  have big : ∀ z : Int32, ¬ nI m + nI n ≤ 30 ∨ (m + n ≤ 30 ∧ nI m + nI n ≤ 30) := fun _ => by
    rw [nI_add]
    by_cases q : m + n ≤ 30
    · exact Or.inr ⟨q, nI_le (b := 30) q (by decide)⟩
    · exact Or.inl (nI_ge (a := 30) (by omega) (by omega))
  have fin : m + n ≤ 30 → ∃ A S g : Nat, A = fM (m + n) (x + y) ∧ S = smS m n (x + y) x (m + 1 - x) ∧ g = Nat.gcd S A ∧ 0 < g ∧ g < 2 ^ 63 ∧ A < 2 ^ 63 ∧ S < 2 ^ 63 ∧ X10_choose (nI m + nI n) (nI x + nI y) μ = some (lN A) ∧ X11_choose (nI m + nI n) (nI x + nI y) μ = some (lN A) ∧ (∀ z, X10_chance_L17 (nI x) (nI m) (nI y) (nI n) z (lN A) μ FU 0 (nI x) = some (lN S, nI (m + 1))) ∧ (∀ z, X11_learnt_L125 z (nI x) (nI m) (nI y) (nI n) μ FU 0 (nI x) = some (lN S, nI (m + 1))) ∧ X10_commonPart (lN S) (lN A) μ = some (lN g) ∧ X11_gcd (lN S) (lN A) μ = some (lN g) := fun q => by
    have h1 := fCM (m + n) (by omega) (x + y) (by omega) (by omega)
    have h2 := smS_le q hx hy (m + 1 - x) (by omega)
    have h3 : (m + 1 - x) * 2 ^ 56 ≤ 31 * 2 ^ 56 := Nat.mul_le_mul (by omega) (Nat.le_refl _)
    have h4 : Nat.gcd (smS m n (x + y) x (m + 1 - x)) (fM (m + n) (x + y)) ≤ fM (m + n) (x + y) := Nat.gcd_le_right _ h1.2.1
    refine ⟨_, _, _, rfl, rfl, rfl, Nat.gcd_pos_of_pos_right _ h1.2.1, by omega, by omega, by omega, ?_, ?_, fun z => sum_c q hx hy z _ μ, fun z => sum_m q hx hy z μ, ?_, ?_⟩
    · rw [nI_add, nI_add, ch_c (by omega) (by omega)]
    · rw [nI_add, nI_add, ch_m (by omega) (by omega)]
    · unfold X10_commonPart
      obtain ⟨z, e⟩ := gcd_c μ 28 (smS m n (x + y) x (m + 1 - x)) (fM (m + n) (x + y)) (99999 - 56) 0 (by omega) h1.2.2 (by decide) (by decide)
      rw [show X10_commonPart_L9 μ FU (lN (smS m n (x + y) x (m + 1 - x))) (lN (fM (m + n) (x + y))) 0 = _ from e, Option.bind_some]
    · unfold X11_gcd
      have e := gcd_m μ 28 (smS m n (x + y) x (m + 1 - x)) (fM (m + n) (x + y)) (99999 - 56) (by omega) h1.2.2 (by decide)
      rw [show X11_gcd_L6 μ FU (lN (smS m n (x + y) x (m + 1 - x))) (lN (fM (m + n) (x + y))) = _ from e, Option.bind_some]
  have w4 : ∀ v, v = 4 ∨ v = 5 → w = v → ∃ r, ((((if nI m + nI n ≤ 30 then (some (if nI w = 4 then 1 else 0 : Int32)).bind fun v23 => (X10_chance (nI x) (nI m) (nI y) (nI n) v23 μ).bind fun v24 => some v24 else some (-1003)) : Option Int32)).bind fun z25 => some z25) = some r ∧ (if nI m + nI n ≤ 30 then (X11_learnt_L125 (nI w) (nI x) (nI m) (nI y) (nI n) μ FU 0 (nI x)).bind fun z15 => (X11_choose (nI m + nI n) (nI x + nI y) μ).bind fun v16 => (X11_gcd z15.1 v16 μ).bind fun v17 => (((if nI w = 4 then (dvJ z15.1 v17).bind fun v20 => some v20 else (dvJ v16 v17).bind fun v19 => some v19) : Option Int64)).bind fun z21 => some z21.toInt32 else some (-1003)) = some r := by
    intro v hv hwv
    rcases big 0 with q | ⟨q, q2⟩
    · rw [if_neg q, if_neg q]
      exact ⟨_, rfl, rfl⟩
    · obtain ⟨A, S, g, -, -, -, g0, gb, Ab, Sb, e1, e2, e3, e4, e5, e6⟩ := fin q
      rw [if_pos q2, if_pos q2, Option.bind_some, e4, Option.bind_some, e2, Option.bind_some, e6, Option.bind_some]
      unfold X10_chance
      rw [e1, Option.bind_some, e3, Option.bind_some, e5, Option.bind_some, if_pos (by rw [lN_pos gb]; exact g0), Option.bind_some]
      rcases hv with rfl | rfl
      · subst hwv
        rw [if_pos (show nI 4 = 4 from rfl), if_neg (by decide), if_pos (show nI 4 = 4 from rfl), dvJ_eq Sb g0 gb]
        exact ⟨_, rfl, rfl⟩
      · subst hwv
        rw [if_neg (show ¬ nI 5 = 4 by decide), if_pos rfl, if_neg (show ¬ nI 5 = 4 by decide), dvJ_eq Ab g0 gb]
        exact ⟨_, rfl, rfl⟩
  rcases (show w = 0 ∨ w = 1 ∨ w = 2 ∨ w = 3 ∨ w = 4 ∨ w = 5 by omega) with rfl | rfl | rfl | rfl | rfl | rfl
  · exact ⟨_, rfl, rfl⟩
  · exact ⟨_, rfl, rfl⟩
  · exact ⟨_, rfl, rfl⟩
  · exact ⟨_, rfl, rfl⟩
  · exact w4 4 (Or.inl rfl) rfl
  · exact w4 5 (Or.inr rfl) rfl
