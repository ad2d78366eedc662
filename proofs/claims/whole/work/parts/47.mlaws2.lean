/-! ===== KINDS barred, of the reference ===== -/
theorem kT_zero (μ : Mem) (p u set n : Nat) : (set &&& kT μ p u (n + 1) = 0) ↔ (set &&& kT μ p u n = 0) ∧ (set.testBit n && kdT μ p u n) = false := by
  have bz : ∀ x : Nat, x = 0 ↔ ∀ i, x.testBit i = false := fun x => ⟨fun h i => by rw [h, Nat.zero_testBit], fun h => Nat.eq_of_testBit_eq (fun i => by rw [h i, Nat.zero_testBit])⟩
  rw [bz, bz]
  constructor
  · intro h
    refine ⟨fun i => ?_, ?_⟩
    · have := h i
      rw [Nat.testBit_and, kT_bit] at this ⊢
      by_cases q : i < n
      · rw [decide_eq_true (show i < n + 1 by omega)] at this
        rw [decide_eq_true q]
        exact this
      · rw [decide_eq_false q, Bool.false_and, Bool.and_false]
    · have := h n
      rw [Nat.testBit_and, kT_bit, decide_eq_true (show n < n + 1 by omega), Bool.true_and] at this
      exact this
  · intro ⟨h1, h2⟩ i
    rw [Nat.testBit_and, kT_bit]
    by_cases q : i = n
    · subst q
      rw [decide_eq_true (show i < i + 1 by omega), Bool.true_and]
      exact h2
    · have := h1 i
      rw [Nat.testBit_and, kT_bit] at this
      by_cases q2 : i < n
      · rw [decide_eq_true q2] at this
        rw [decide_eq_true (show i < n + 1 by omega)]
        exact this
      · rw [decide_eq_false (by omega), Bool.false_and, Bool.and_false]
theorem kind48 {μ : Mem} (I : InvM μ) {p t k : Nat} (hp : p < 4) (ht : t < 10) (hk : k ≤ 8) (x2 : Int32) (b : Bool) : ∃ x, X11_isKindBarred_L48 134 (nI p) x2 (nI k) (nI t) 1 μ FU (b01 b) (nI (8 * p)) = some (b01 (b || (bK μ p (nw μ + k) (lc μ p)).testBit (tv μ 1 t)), x) := by
  obtain ⟨o, W, C, T, S, X, L⟩ := I
  have hn := W.2.2.2.2.2.2.2
  have hw := W.2.2.2.2.2.2.1
  obtain ⟨⟨-, l1, l8⟩, hkk⟩ := L p hp
  have f1 : mI μ 146 t = _ := (T.2.1 1 t (by decide) ht).2.1
  have b1 : tv μ 1 t ≤ 3 := (T.2.1 1 t (by decide) ht).2.2
  obtain ⟨a, P, e⟩ := loopG (F := fun m (a : Bool) i => X11_isKindBarred_L48 134 (nI p) x2 (nI k) (nI t) 1 μ m (b01 a) (nI i)) (P := fun i a => a = (b || (bK μ p (nw μ + k) (i - 8 * p)).testBit (tv μ 1 t))) (i0 := 8 * p) (n := 8 * p + lc μ p) (r := fun a => (b01 a, nI (8 * p + lc μ p))) (by omega) (by omega) (fun m a i h1 hi P => by
    subst P
    obtain ⟨j, rfl⟩ : ∃ j, i = 8 * p + j := ⟨i - 8 * p, by omega⟩
    have hj : j < lc μ p := by omega
    obtain ⟨A0, A1, A2, A3⟩ := hkk j hj
    have c2 : (nI (lv μ 0 p j) = 2) = (lv μ 0 p j = 2) := n_eq (b := 2) (by omega) (by decide)
    have cw : (nI (lv μ 1 p j) = nI (tv μ 1 t)) = (lv μ 1 p j = tv μ 1 t) := n_eq (by omega) (by omega)
    refine ⟨_, rfl, ?_⟩
    show X11_isKindBarred_L48 134 (nI p) x2 (nI k) (nI t) 1 μ (m + 1) (b01 (b || (bK μ p (nw μ + k) (8 * p + j - 8 * p)).testBit (tv μ 1 t))) (nI (8 * p + j)) = X11_isKindBarred_L48 134 (nI p) x2 (nI k) (nI t) 1 μ m (b01 (b || (bK μ p (nw μ + k) (8 * p + j + 1 - 8 * p)).testBit (tv μ 1 t))) (nI (8 * p + j + 1))
    rw [show 8 * p + j - 8 * p = j by omega, show 8 * p + j + 1 - 8 * p = j + 1 by omega, X11_isKindBarred_L48, r_134_24 o, Option.bind_some, ai_156 o hp, l1, Option.bind_some, show (8 : Int32) = nI 8 from rfl, pk_mul, nI_add, if_neg (nI_ge (by omega) (by omega)), if_neg (by decide)]
    simp only [r_134_25 o, r_134_26 o, r_134_14 o, r_134_27 o, ai_157 o (show 8 * p + j < 32 by omega), ai_158 o (show 8 * p + j < 32 by omega), ai_159 o (show 8 * p + j < 32 by omega), ai_146 o ht, gi_134 o, hw, f1, A0.2.1, A1.2.1, Option.bind_some, c2, cw, nI_add1, nI_add, b01_z]
    cases q0 : (b || (bK μ p (nw μ + k) j).testBit (tv μ 1 t))
    · obtain ⟨qb, qk⟩ : b = false ∧ (bK μ p (nw μ + k) j).testBit (tv μ 1 t) = false := by
        cases b
        · exact ⟨rfl, q0⟩
        · exact absurd q0 (by simp)
      rw [if_pos rfl, qb, Bool.false_or, bK]
      by_cases q : lv μ 0 p j = 2
      · obtain ⟨-, z2, z3, -⟩ := A2 (by omega) (by omega)
        rw [if_pos q, show mI μ 159 (8 * p + j) = _ from z2]
        simp only [n_le (show nw μ + k < 2 ^ 31 by omega) (show lv μ 2 p j < 2 ^ 31 by omega)]
        by_cases q1 : lv μ 1 p j = tv μ 1 t
        · rw [if_pos q1]
          by_cases q2 : nw μ + k ≤ lv μ 2 p j
          · rw [if_pos q2, Option.bind_some, if_neg (by omega), qk]
            rfl
          · rw [if_neg q2, Option.bind_some, if_pos ⟨q, by omega⟩, or_put_bit, decide_eq_true q1, Bool.or_true]
            rfl
        · rw [if_neg q1, Option.bind_some]
          by_cases q2 : lv μ 0 p j = 2 ∧ lv μ 2 p j < nw μ + k
          · rw [if_pos q2, or_put_bit, decide_eq_false q1, qk]
            rfl
          · rw [if_neg q2, qk]
            rfl
      · rw [if_neg q, Option.bind_some, if_neg (fun z => q z.1), qk]
        rfl
    · rw [if_neg (by decide), Option.bind_some, bK]
      have : (b || (if lv μ 0 p j = 2 ∧ lv μ 2 p j < nw μ + k then bK μ p (nw μ + k) j ||| 2 ^ lv μ 1 p j else bK μ p (nw μ + k) j).testBit (tv μ 1 t)) = true := by
        split
        · rw [or_put_bit, ← Bool.or_assoc, q0, Bool.true_or]
        · exact q0
      rw [this]
      rfl) (fun m a P => by
    show X11_isKindBarred_L48 134 (nI p) x2 (nI k) (nI t) 1 μ (m + 1) (b01 a) (nI (8 * p + lc μ p)) = _
    rw [X11_isKindBarred_L48, r_134_24 o, Option.bind_some, ai_156 o hp, l1, Option.bind_some, show (8 : Int32) = nI 8 from rfl, pk_mul, nI_add, if_pos (nI_le (Nat.le_refl _) (by omega))]) b (by rw [Nat.sub_self, bK, Nat.zero_testBit, Bool.or_false])
  subst P
  rw [show 8 * p + lc μ p - 8 * p = lc μ p by omega] at e
  exact ⟨_, e⟩
theorem kind48n {μ : Mem} (I : InvM μ) {p : Nat} (hp : p < 4) (x2 x3 x5 x4 : Int32) : ∃ x, X11_isKindBarred_L48 134 (nI p) x2 x3 x5 0 μ FU x4 (nI (8 * p)) = some (x4, x) := by
  obtain ⟨o, W, C, T, S, X, L⟩ := I
  obtain ⟨⟨-, l1, l8⟩, hkk⟩ := L p hp
  rw [show FU = 99999 + 1 from rfl, X11_isKindBarred_L48, r_134_24 o, Option.bind_some, ai_156 o hp, l1, Option.bind_some, show (8 : Int32) = nI 8 from rfl, pk_mul, nI_add, if_pos (show (0 : Int32) = 0 from rfl)]
  split
  · exact ⟨_, rfl⟩
  · exact ⟨_, rfl⟩
theorem kindB_m {μ : Mem} (I : InvM μ) {p set k : Nat} (hp : p < 4) (hk : k ≤ 8) (hs : set < 2 ^ 10) : X11_isKindBarred 134 (nI p) (nI set) (nI k) μ = some (b01 (decide (¬ set &&& kT μ p (nw μ + k) (tn μ) = 0))) := by
  have I0 := I
  obtain ⟨o, W, C, T, S, X, L⟩ := I
  have hn := T.1.2.2
  obtain ⟨a, P, e⟩ := loopF (F := fun m (a : Bool) i => X11_isKindBarred_L6 134 (nI p) (nI set) (nI k) μ m (b01 a) (nI i)) (P := fun i a => a = decide (¬ set &&& kT μ p (nw μ + k) i = 0)) (n := tn μ) (r := fun a => (b01 a, nI (tn μ))) (by omega) (fun m a i hi P => by
    subst P
    have i10 : i < 10 := by omega
    refine ⟨_, rfl, ?_⟩
    show X11_isKindBarred_L6 134 (nI p) (nI set) (nI k) μ (m + 1) (b01 (decide (¬ set &&& kT μ p (nw μ + k) i = 0))) (nI i) = X11_isKindBarred_L6 134 (nI p) (nI set) (nI k) μ m (b01 (decide (¬ set &&& kT μ p (nw μ + k) (i + 1) = 0))) (nI (i + 1))
    rw [X11_isKindBarred_L6, gi_134 o, T.1.2.1, Option.bind_some, if_neg (nI_ge hi (by omega))]
    simp only [vo_134 o, isAl_m o T L hp i10, Option.bind_some, b01_z, bt_1, bt_t1 (show set < 2 ^ 31 by omega) (show i < 31 by omega), nI_add1, L8, pk_mul]
    have kz := kT_zero μ p (nw μ + k) set i
    by_cases q : set.testBit i = true ∧ alT μ p i = false
    · rw [if_pos q.1, if_pos q.2, Option.bind_some]
      obtain ⟨x, ex⟩ := kind48 I0 (p := p) (t := i) (k := k) hp i10 hk (nI set) (decide (¬ set &&& kT μ p (nw μ + k) i = 0))
      rw [ex, Option.bind_some]
      have : (decide (¬ set &&& kT μ p (nw μ + k) i = 0) || (bK μ p (nw μ + k) (lc μ p)).testBit (tv μ 1 i)) = decide (¬ set &&& kT μ p (nw μ + k) (i + 1) = 0) := by
        have kd : kdT μ p (nw μ + k) i = (bK μ p (nw μ + k) (lc μ p)).testBit (tv μ 1 i) := by
          unfold kdT
          rw [q.2]
          rfl
        rw [kd, q.1, Bool.true_and] at kz
        by_cases z : set &&& kT μ p (nw μ + k) i = 0
        · rw [decide_eq_false (fun w => w z), Bool.false_or]
          cases zb : (bK μ p (nw μ + k) (lc μ p)).testBit (tv μ 1 i)
          · exact (decide_eq_false (fun w => w (kz.mpr ⟨z, zb⟩))).symm
          · exact (decide_eq_true (p := ¬ set &&& kT μ p (nw μ + k) (i + 1) = 0) (fun w => by have := (kz.mp w).2; rw [zb] at this; cases this)).symm
        · rw [decide_eq_true z, Bool.true_or]
          exact (decide_eq_true (p := ¬ set &&& kT μ p (nw μ + k) (i + 1) = 0) (fun w => z (kz.mp w).1)).symm
      rw [this]
    · have z10 : ((if set.testBit i = true then (if alT μ p i = false then some 1 else some 0) else some 0 : Option Int32)) = some 0 := by
        by_cases q1 : set.testBit i = true
        · rw [if_pos q1, if_neg (fun z => q ⟨q1, z⟩)]
        · rw [if_neg q1]
      rw [z10, Option.bind_some]
      obtain ⟨x, ex⟩ := kind48n I0 (p := p) hp (nI set) (nI k) (nI i) (b01 (decide (¬ set &&& kT μ p (nw μ + k) i = 0)))
      rw [ex, Option.bind_some]
      have z : (set.testBit i && kdT μ p (nw μ + k) i) = false := by
        cases q1 : set.testBit i
        · rfl
        · have : alT μ p i = true := by
            cases q2 : alT μ p i
            · exact absurd ⟨q1, q2⟩ q
            · rfl
          unfold kdT
          rw [this]
          rfl
      have e2 : (¬ set &&& kT μ p (nw μ + k) i = 0) = (¬ set &&& kT μ p (nw μ + k) (i + 1) = 0) := propext ⟨fun w v => w (kz.mp v).1, fun w v => w (kz.mpr ⟨v, z⟩)⟩
      have e3 : decide (¬ set &&& kT μ p (nw μ + k) i = 0) = decide (¬ set &&& kT μ p (nw μ + k) (i + 1) = 0) := by
        by_cases w : set &&& kT μ p (nw μ + k) i = 0
        · rw [decide_eq_false (fun v => v w), decide_eq_false (fun v => (e2 ▸ v : ¬ set &&& kT μ p (nw μ + k) i = 0) w)]
        · rw [decide_eq_true w, decide_eq_true (e2 ▸ w : ¬ set &&& kT μ p (nw μ + k) (i + 1) = 0)]
      rw [e3]) (fun m a P => by
    show X11_isKindBarred_L6 134 (nI p) (nI set) (nI k) μ (m + 1) (b01 a) (nI (tn μ)) = _
    rw [X11_isKindBarred_L6, gi_134 o, T.1.2.1, Option.bind_some, if_pos (nI_le (Nat.le_refl _) (by omega))]) false (by rw [kT, Nat.and_zero]; rfl)
  subst P
  have e : X11_isKindBarred_L6 134 (nI p) (nI set) (nI k) μ FU 0 0 = _ := e
  unfold X11_isKindBarred
  rw [e, Option.bind_some, zz_b, Option.bind_some]
/-! ===== most, of the reference ===== -/
def cR (μ : Mem) (p lo hi : Nat) : Nat → Nat
  | 0 => 0
  | n + 1 => if sv μ 0 n = p ∧ lo ≤ sv μ 3 n ∧ sv μ 3 n ≤ hi then cR μ p lo hi n + 1 else cR μ p lo hi n
def plC (pb now lo : Nat) : Nat → Nat
  | 0 => 0
  | j + 1 => if pb.testBit j = true ∧ lo ≤ now + j then plC pb now lo j + 1 else plC pb now lo j
def gM (μ : Mem) (p pb step b : Nat) : Nat := cR μ p (nw μ + step + 1 - b) (nw μ + step) (sc μ) + plC pb (nw μ) (nw μ + step + 1 - b) step
theorem cR_le (μ : Mem) (p lo hi : Nat) : ∀ n, cR μ p lo hi n ≤ n
  | 0 => Nat.le_refl _
  | n + 1 => by
    have := cR_le μ p lo hi n
    rw [cR]
    split <;> omega
theorem plC_le (pb now lo : Nat) : ∀ n, plC pb now lo n ≤ n
  | 0 => Nat.le_refl _
  | n + 1 => by
    have := plC_le pb now lo n
    rw [plC]
    split <;> omega
theorem cR_sm {μ μ' : Mem} (s : Sm μ μ') (p lo hi : Nat) : ∀ n, cR μ' p lo hi n = cR μ p lo hi n
  | 0 => rfl
  | n + 1 => by rw [cR, cR, cR_sm s p lo hi n, sv_sm s (by decide), sv_sm s (by decide)]
theorem gM_sm {μ μ' : Mem} (s : Sm μ μ') : gM μ' = gM μ := by
  funext p pb step b
  unfold gM
  rw [nw_sm s, sc_sm s, cR_sm s]
theorem low_lt {t u b : Nat} (ht : t < 2 ^ 20) (hu : u < 2 ^ 20) (hb : b < 2 ^ 20) : (nI t < nI u - nI b + 1) = (t < u + 1 - b) := by
  by_cases q : b ≤ u
  · rw [pk_sub q, nI_add1, n_lt (by omega) (by omega), show u - b + 1 = u + 1 - b by omega]
  · obtain ⟨d, hd⟩ : ∃ d, b = u + 1 + d := ⟨b - (u + 1), by omega⟩
    have e2 : nI u - nI b + 1 = nI 0 - nI d := by
      have xy : ∀ x y : Int32, x - (x + y) = 0 - y := fun x y => by rw [Int32.sub_eq_add_neg, Int32.neg_add, Int32.sub_eq_add_neg, ← Int32.add_assoc, Int32.add_right_neg, Int32.sub_eq_add_neg]
      rw [hd, Int32.sub_eq_add_neg, Int32.add_assoc, Int32.add_comm _ 1, ← Int32.add_assoc, nI_add1, ← Int32.sub_eq_add_neg, ← nI_add (u + 1) d, xy, nI_0]
    rw [e2]
    refine propext ⟨fun z => ?_, fun z => by omega⟩
    rw [Int32.lt_iff_toInt_lt, pk_sub_toInt (by decide) (by omega), nI_toInt (by omega)] at z
    omega
theorem low_le {t u b : Nat} (ht : t < 2 ^ 20) (hu : u < 2 ^ 20) (hb : b < 2 ^ 20) : (nI t ≤ nI u - nI b) = ¬ (u + 1 - b ≤ t) := by
  refine propext ?_
  rw [Int32.le_iff_toInt_le, pk_sub_toInt (by omega) (by omega), nI_toInt (by omega)]
  omega
theorem most50 {μ : Mem} (I : InvM μ) {p u j : Nat} (hp : p < 4) (hj : j < lc μ p) (h3 : lv μ 0 p j = 3) (hu : u < 1000) (x2 x3 x4 : Int32) : X11_areMost_L50 134 (nI p) x2 x3 x4 (nI u) (nI (8 * p + j)) μ FU 0 0 = some (nI (cR μ p (u + 1 - lv μ 2 p j) u (sc μ)), nI (sc μ)) := by
  obtain ⟨o, W, C, T, S, X, L⟩ := I
  have hc := S.1.2.2
  have l8 := (L p hp).1.2.2
  obtain ⟨-, -, A2, -⟩ := (L p hp).2 j hj
  obtain ⟨-, z2, z3, -⟩ := A2 (by omega) (by omega)
  have z2 : mI μ 159 (8 * p + j) = _ := z2
  obtain ⟨a, P, e⟩ := loopF (F := fun m (a : Nat) i => X11_areMost_L50 134 (nI p) x2 x3 x4 (nI u) (nI (8 * p + j)) μ m (nI a) (nI i)) (P := fun i a => a = cR μ p (u + 1 - lv μ 2 p j) u i) (n := sc μ) (r := fun a => (nI a, nI (sc μ))) (by omega) (fun m a i hi P => by
    subst P
    have i40 : i < 40 := by omega
    have f0 : mI μ 170 i = _ := (S.2 0 i (by decide) i40).2.1
    have f3 : mI μ 173 i = _ := (S.2 3 i (by decide) i40).2.1
    have b0 : sv μ 0 i ≤ 3 := (S.2 0 i (by decide) i40).2.2
    have b3 : sv μ 3 i ≤ 60 := (S.2 3 i (by decide) i40).2.2
    have c0 : (nI (sv μ 0 i) = nI p) = (sv μ 0 i = p) := n_eq (by omega) (by omega)
    have ew : X11_in (nI (sv μ 3 i)).toInt64 (nI u - nI (lv μ 2 p j) + 1).toInt64 (nI u).toInt64 = if u + 1 - lv μ 2 p j ≤ sv μ 3 i ∧ sv μ 3 i ≤ u then 1 else 0 := by
      rw [in_eq]
      unfold X10_within
      simp only [low_lt (show sv μ 3 i < 2 ^ 20 by omega) (show u < 2 ^ 20 by omega) (show lv μ 2 p j < 2 ^ 20 by omega), n_lt (show u < 2 ^ 31 by omega) (show sv μ 3 i < 2 ^ 31 by omega)]
      by_cases q1 : sv μ 3 i < u + 1 - lv μ 2 p j
      · rw [if_pos q1, if_neg (by omega)]
      · rw [if_neg q1]
        by_cases q2 : u < sv μ 3 i
        · rw [if_pos q2, if_neg (by omega)]
        · rw [if_neg q2, if_pos (by omega)]
    refine ⟨_, rfl, ?_⟩
    show X11_areMost_L50 134 (nI p) x2 x3 x4 (nI u) (nI (8 * p + j)) μ (m + 1) (nI (cR μ p (u + 1 - lv μ 2 p j) u i)) (nI i) = X11_areMost_L50 134 (nI p) x2 x3 x4 (nI u) (nI (8 * p + j)) μ m (nI (cR μ p (u + 1 - lv μ 2 p j) u (i + 1))) (nI (i + 1))
    rw [X11_areMost_L50, gi_134 o, S.1.2.1, Option.bind_some, if_neg (nI_ge hi (by omega)), cR]
    simp only [r_134_46 o, r_134_49 o, r_134_27 o, ai_170 o i40, ai_173 o i40, ai_159 o (show 8 * p + j < 32 by omega), f0, f3, z2, Option.bind_some, c0, nI_add1, ew]
    by_cases q : sv μ 0 i = p
    · rw [if_pos q]
      by_cases q2 : u + 1 - lv μ 2 p j ≤ sv μ 3 i ∧ sv μ 3 i ≤ u
      · rw [if_pos q2, if_neg (by decide), Option.bind_some, if_pos ⟨q, q2⟩, nI_add1]
      · rw [if_neg q2, if_pos rfl, Option.bind_some, if_neg (fun z => q2 z.2), Int32.add_zero]
    · rw [if_neg q, Option.bind_some, if_neg (fun z => q z.1), Int32.add_zero]) (fun m a P => by
    show X11_areMost_L50 134 (nI p) x2 x3 x4 (nI u) (nI (8 * p + j)) μ (m + 1) (nI a) (nI (sc μ)) = _
    rw [X11_areMost_L50, gi_134 o, S.1.2.1, Option.bind_some, if_pos (nI_le (Nat.le_refl _) (by omega))]) 0 rfl
  subst P
  exact e
theorem most119 {μ : Mem} (I : InvM μ) {p j step pb c : Nat} (hp : p < 4) (hj : j < lc μ p) (h3 : lv μ 0 p j = 3) (hs : step < 31) (hpb : pb < 2 ^ 31) (x4 : Int32) : X11_areMost_L119 134 (nI p) (nI step) (nI pb) x4 (nI (nw μ + step)) (nI (8 * p + j)) μ FU (nI c) 0 = some (nI (c + plC pb (nw μ) (nw μ + step + 1 - lv μ 2 p j) step), nI step) := by
  obtain ⟨o, W, C, T, S, X, L⟩ := I
  have hn := W.2.2.2.2.2.2.2
  have hw := W.2.2.2.2.2.2.1
  have l8 := (L p hp).1.2.2
  obtain ⟨-, -, A2, -⟩ := (L p hp).2 j hj
  obtain ⟨-, z2, z3, -⟩ := A2 (by omega) (by omega)
  have z2 : mI μ 159 (8 * p + j) = _ := z2
  obtain ⟨a, P, e⟩ := loopF (F := fun m (a : Nat) i => X11_areMost_L119 134 (nI p) (nI step) (nI pb) x4 (nI (nw μ + step)) (nI (8 * p + j)) μ m (nI (c + a)) (nI i)) (P := fun i a => a = plC pb (nw μ) (nw μ + step + 1 - lv μ 2 p j) i) (n := step) (r := fun a => (nI (c + a), nI step)) (by omega) (fun m a i hi P => by
    subst P
    refine ⟨_, rfl, ?_⟩
    show X11_areMost_L119 134 (nI p) (nI step) (nI pb) x4 (nI (nw μ + step)) (nI (8 * p + j)) μ (m + 1) (nI (c + plC pb (nw μ) (nw μ + step + 1 - lv μ 2 p j) i)) (nI i) = X11_areMost_L119 134 (nI p) (nI step) (nI pb) x4 (nI (nw μ + step)) (nI (8 * p + j)) μ m (nI (c + plC pb (nw μ) (nw μ + step + 1 - lv μ 2 p j) (i + 1))) (nI (i + 1))
    rw [X11_areMost_L119, if_neg (nI_ge hi (by omega)), plC]
    simp only [gi_134 o, hw, r_134_27 o, ai_159 o (show 8 * p + j < 32 by omega), z2, Option.bind_some, nI_add1, nI_add, bt_1, bt_t1 hpb (show i < 31 by omega), low_le (show nw μ + i < 2 ^ 20 by omega) (show nw μ + step < 2 ^ 20 by omega) (show lv μ 2 p j < 2 ^ 20 by omega)]
    by_cases q : pb.testBit i = true
    · rw [if_pos q]
      by_cases q2 : nw μ + step + 1 - lv μ 2 p j ≤ nw μ + i
      · rw [if_neg (fun z => z q2), Option.bind_some, if_pos ⟨q, q2⟩, nI_add1]
        rfl
      · rw [if_pos q2, Option.bind_some, if_neg (fun z => q2 z.2), Int32.add_zero]
    · rw [if_neg q, Option.bind_some, if_neg (fun z => q z.1), Int32.add_zero]) (fun m a P => by
    show X11_areMost_L119 134 (nI p) (nI step) (nI pb) x4 (nI (nw μ + step)) (nI (8 * p + j)) μ (m + 1) (nI (c + a)) (nI step) = _
    rw [X11_areMost_L119, if_pos (nI_le (Nat.le_refl _) (by omega))]) 0 rfl
  subst P
  exact e
theorem areM_m {μ : Mem} (I : InvM μ) {p step pb : Nat} (hp : p < 4) (hs : step < 31) (hpb : pb < 2 ^ 31) : X11_areMost 134 (nI p) (nI step) (nI pb) μ = some (nI (mB μ p (gM μ p pb step) (lc μ p))) := by
  have I0 := I
  obtain ⟨o, W, C, T, S, X, L⟩ := I
  have hn := W.2.2.2.2.2.2.2
  have hw := W.2.2.2.2.2.2.1
  have hc := S.1.2.2
  obtain ⟨⟨-, l1, l8⟩, hkk⟩ := L p hp
  obtain ⟨a, P, e⟩ := loopG (F := fun m (a : Nat) i => X11_areMost_L17 134 (nI p) (nI step) (nI pb) (nI (nw μ + step)) μ m (nI a) (nI i)) (P := fun i a => a = mB μ p (gM μ p pb step) (i - 8 * p)) (i0 := 8 * p) (n := 8 * p + lc μ p) (r := fun a => (nI a, nI (8 * p + lc μ p))) (by omega) (by omega) (fun m a i h1 hi P => by
    subst P
    obtain ⟨j, rfl⟩ : ∃ j, i = 8 * p + j := ⟨i - 8 * p, by omega⟩
    have hj : j < lc μ p := by omega
    obtain ⟨A0, A1, A2, A3⟩ := hkk j hj
    have c3 : (nI (lv μ 0 p j) = 3) = (lv μ 0 p j = 3) := n_eq (b := 3) (by omega) (by decide)
    have ml := mB_le μ p (gM μ p pb step) j
    have cm : (nI (mB μ p (gM μ p pb step) j) = 0) = (mB μ p (gM μ p pb step) j = 0) := n_eq (b := 0) (by omega) (by decide)
    have gb : gM μ p pb step (lv μ 2 p j) ≤ 40 + 31 := by
      have g1 := cR_le μ p (nw μ + step + 1 - lv μ 2 p j) (nw μ + step) (sc μ)
      have g2 := plC_le pb (nw μ) (nw μ + step + 1 - lv μ 2 p j) step
      unfold gM
      omega
    refine ⟨_, rfl, ?_⟩
    show X11_areMost_L17 134 (nI p) (nI step) (nI pb) (nI (nw μ + step)) μ (m + 1) (nI (mB μ p (gM μ p pb step) (8 * p + j - 8 * p))) (nI (8 * p + j)) = X11_areMost_L17 134 (nI p) (nI step) (nI pb) (nI (nw μ + step)) μ m (nI (mB μ p (gM μ p pb step) (8 * p + j + 1 - 8 * p))) (nI (8 * p + j + 1))
    rw [show 8 * p + j - 8 * p = j by omega, show 8 * p + j + 1 - 8 * p = j + 1 by omega, X11_areMost_L17, r_134_24 o, Option.bind_some, ai_156 o hp, l1, Option.bind_some, show (8 : Int32) = nI 8 from rfl, pk_mul, nI_add, if_neg (nI_ge (by omega) (by omega)), r_134_25 o, Option.bind_some, ai_157 o (by omega), A0.2.1, Option.bind_some, mB]
    simp only [c3]
    by_cases q : lv μ 0 p j = 3
    · rw [if_pos q, most50 I0 hp hj q (by omega), Option.bind_some, most119 I0 hp hj q hs hpb, Option.bind_some]
      simp only [cm, r_134_26 o, ai_158 o (show 8 * p + j < 32 by omega), A1.2.1, Option.bind_some]
      by_cases q0 : mB μ p (gM μ p pb step) j = 0
      · rw [if_pos q0, if_neg (show ¬ mB μ p (gM μ p pb step) j = 1 by omega)]
        simp only [n_lt (show cR μ p (nw μ + step + 1 - lv μ 2 p j) (nw μ + step) (sc μ) + plC pb (nw μ) (nw μ + step + 1 - lv μ 2 p j) step < 2 ^ 31 from Nat.lt_of_le_of_lt gb (by decide)) (show lv μ 1 p j < 2 ^ 31 by omega)]
        by_cases q2 : gM μ p pb step (lv μ 2 p j) < lv μ 1 p j
        · rw [if_pos (show cR μ p (nw μ + step + 1 - lv μ 2 p j) (nw μ + step) (sc μ) + plC pb (nw μ) (nw μ + step + 1 - lv μ 2 p j) step < lv μ 1 p j from q2), Option.bind_some, Option.bind_some, if_neg (by omega), nI_add1]
          rfl
        · rw [if_neg (show ¬ cR μ p (nw μ + step + 1 - lv μ 2 p j) (nw μ + step) (sc μ) + plC pb (nw μ) (nw μ + step + 1 - lv μ 2 p j) step < lv μ 1 p j from q2), Option.bind_some, Option.bind_some, if_pos ⟨q, by omega⟩, nI_add1]
          rfl
      · rw [if_neg q0, if_pos (show mB μ p (gM μ p pb step) j = 1 by omega), Option.bind_some, Option.bind_some, nI_add1]
        rfl
    · rw [if_neg q, Option.bind_some, nI_add1, if_neg (show ¬ (lv μ 0 p j = 3 ∧ _) from fun z => q z.1)]
      by_cases q0 : mB μ p (gM μ p pb step) j = 1
      · rw [if_pos q0, q0]
      · rw [if_neg q0, show mB μ p (gM μ p pb step) j = 0 by omega]) (fun m a P => by
    show X11_areMost_L17 134 (nI p) (nI step) (nI pb) (nI (nw μ + step)) μ (m + 1) (nI a) (nI (8 * p + lc μ p)) = _
    rw [X11_areMost_L17, r_134_24 o, Option.bind_some, ai_156 o hp, l1, Option.bind_some, show (8 : Int32) = nI 8 from rfl, pk_mul, nI_add, if_pos (nI_le (Nat.le_refl _) (by omega))]) 0 (by rw [Nat.sub_self]; rfl)
  subst P
  have e : X11_areMost_L17 134 (nI p) (nI step) (nI pb) (nI (nw μ + step)) μ FU 0 (nI (8 * p)) = _ := e
  rw [show 8 * p + lc μ p - 8 * p = lc μ p by omega] at e
  unfold X11_areMost
  rw [gi_134 o, hw, Option.bind_some, nI_add, Option.bind_some, show (8 : Int32) = nI 8 from rfl, pk_mul, Option.bind_some, e, Option.bind_some]
  have ml := mB_le μ p (gM μ p pb step) (lc μ p)
  rcases (show mB μ p (gM μ p pb step) (lc μ p) = 0 ∨ mB μ p (gM μ p pb step) (lc μ p) = 1 by omega) with q | q
  · rw [q]
    rfl
  · rw [q]
    rfl
