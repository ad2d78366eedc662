/-! ===== what the reference alone rests on ===== -/
def RelSM (μ : Mem) : Prop := (True ∧ mI μ 134 45 = nI (sc μ) ∧ sc μ ≤ 40) ∧ (∀ c s, c < 5 → s < 40 → True ∧ mI μ (170 + c) s = nI (sv μ c s) ∧ sv μ c s ≤ sbd c)
def InvM (μ : Mem) : Prop := Ok μ ∧ RelW μ ∧ RelC μ ∧ RelT μ ∧ RelSM μ ∧ RelX μ ∧ RelL μ
theorem Inv.m {μ : Mem} (h : Inv μ) : InvM μ := by
  obtain ⟨o, W, C, T, S, X, L⟩ := h
  exact ⟨o, W, C, T, ⟨⟨trivial, S.1.2⟩, fun c s hc hs => ⟨trivial, (S.2.1 c s hc hs).2⟩⟩, X, L⟩
theorem RelSM.cg {μ μ' : Mem} (h : RelSM μ) (e2 : mI μ' 134 45 = mI μ 134 45) (e4 : ∀ c, c < 5 → mI μ' (170 + c) = mI μ (170 + c)) : RelSM μ' := by
  have ea : sc μ' = sc μ := by
    unfold sc
    rw [e2]
  have eb : ∀ c t, c < 5 → sv μ' c t = sv μ c t := fun c t hc => by
    unfold sv
    rw [e4 c hc]
  refine ⟨⟨trivial, ?_⟩, fun c t hc ht => ⟨trivial, ?_⟩⟩
  · rw [e2, ea]
    exact h.1.2
  · rw [e4 c hc, eb c t hc]
    exact (h.2 c t hc ht).2
theorem InvM.sm {μ μ' : Mem} (h : InvM μ) (s : Sm μ μ') : InvM μ' := by
  obtain ⟨o, W, C, T, S, X, L⟩ := h
  refine ⟨s.1, W.sm s, C.cg (fun q hq => s.row (coA_4 (by omega) hq)) (s.row rfl) (s.row rfl) (s.row rfl), Onl.T s T, S.cg (s.fld (a := 134) (k := 45) rfl) (fun c hc => s.row (coA_s hc)), X.cg (s.fld (a := 90) (k := 0) rfl) (s.fld (a := 134) (k := 34) rfl) (s.row rfl) (s.row rfl) (s.fld (a := 90) (k := 2) rfl) (s.fld (a := 134) (k := 35) rfl), RelL.cg o L s.2.2.1 (fun l c hl hc => s.row (hl.co hc)) (fun c hc => ?_)⟩
  rw [show 156 + c = 145 + (11 + c) by omega]
  exact s.row (coA_t (by omega))
/-! ===== LAWS, of the reference ===== -/
def b01 (b : Bool) : Int32 := if b = true then 1 else 0
theorem b01_z (b : Bool) : (b01 b = 0) = (b = false) := by cases b <;> decide
theorem zz_b (b : Bool) : zz (b01 b) = some (b01 b) := by cases b <;> rfl
theorem isAl_m {μ : Mem} (o : Ok μ) (T : RelT μ) (L : RelL μ) {p t : Nat} (hp : p < 4) (ht : t < 10) : X11_isAlways 134 (nI p) (nI t) μ = some (b01 (alT μ p t)) := by
  obtain ⟨⟨-, l1, l8⟩, hk⟩ := L p hp
  have f3 : mI μ 148 t = _ := (T.2.1 3 t (by decide) ht).2.1
  have b3 : tv μ 3 t ≤ 9 := (T.2.1 3 t (by decide) ht).2.2
  obtain ⟨a, P, e⟩ := loopF (F := fun k (a : Bool) i => X11_isAlways_L5 134 (nI p) (nI t) μ k (b01 a) (nI i)) (P := fun i a => a = (aF μ p i).testBit (tv μ 3 t)) (n := lc μ p) (r := fun a => (b01 a, nI (lc μ p))) (by omega) (fun k a i hi P => by
    subst P
    obtain ⟨A0, A1, -, -⟩ := hk i hi
    have c4 : (nI (lv μ 0 p i) = 4) = (lv μ 0 p i = 4) := n_eq (b := 4) (by omega) (by decide)
    have cf : (nI (lv μ 1 p i) = nI (tv μ 3 t)) = (lv μ 1 p i = tv μ 3 t) := n_eq (by omega) (by omega)
    refine ⟨_, rfl, ?_⟩
    show X11_isAlways_L5 134 (nI p) (nI t) μ (k + 1) (b01 ((aF μ p i).testBit (tv μ 3 t))) (nI i) = X11_isAlways_L5 134 (nI p) (nI t) μ k (b01 ((aF μ p (i + 1)).testBit (tv μ 3 t))) (nI (i + 1))
    rw [X11_isAlways_L5, r_134_24 o, Option.bind_some, ai_156 o hp, l1, Option.bind_some, if_neg (nI_ge hi (by omega)), aF]
    simp only [L8, pk_mul, nI_add, r_134_25 o, r_134_26 o, r_134_16 o, ai_157 o (show 8 * p + i < 32 by omega), ai_158 o (show 8 * p + i < 32 by omega), ai_148 o ht, f3, A0.2.1, A1.2.1, Option.bind_some, c4, cf, nI_add1, b01_z]
    cases q0 : (aF μ p i).testBit (tv μ 3 t)
    · rw [if_pos rfl]
      by_cases q : lv μ 0 p i = 4
      · rw [if_pos q, if_pos q, or_put_bit, q0, Bool.false_or]
        by_cases q2 : lv μ 1 p i = tv μ 3 t
        · rw [if_pos q2, decide_eq_true q2]
          rfl
        · rw [if_neg q2, decide_eq_false q2]
          rfl
      · rw [if_neg q, if_neg q, q0]
        rfl
    · rw [if_neg (by decide)]
      have : (if lv μ 0 p i = 4 then aF μ p i ||| 2 ^ lv μ 1 p i else aF μ p i).testBit (tv μ 3 t) = true := by
        split
        · rw [or_put_bit, q0, Bool.true_or]
        · exact q0
      rw [this]
      rfl) (fun k a P => by
    show X11_isAlways_L5 134 (nI p) (nI t) μ (k + 1) (b01 a) (nI (lc μ p)) = _
    rw [X11_isAlways_L5, r_134_24 o, Option.bind_some, ai_156 o hp, l1, Option.bind_some, if_pos (nI_le (Nat.le_refl _) (by omega))]) false (by rw [aF, Nat.zero_testBit])
  subst P
  have e : X11_isAlways_L5 134 (nI p) (nI t) μ FU 0 0 = _ := e
  unfold X11_isAlways
  rw [e, Option.bind_some, zz_b, Option.bind_some]
  rfl
/-- all THINGS of a SET among the first n are from one of always -/
def arB (μ : Mem) (p set : Nat) : Nat → Bool
  | 0 => true
  | t + 1 => arB μ p set t && (!set.testBit t || alT μ p t)
theorem arB_iff (μ : Mem) (p set : Nat) : ∀ n, arB μ p set n = true ↔ ∀ t, t < n → set.testBit t = true → alT μ p t = true
  | 0 => by simp [arB]
  | n + 1 => by
    rw [arB, Bool.and_eq_true, arB_iff μ p set n, Bool.or_eq_true]
    constructor
    · intro ⟨h1, h2⟩ t ht hs
      by_cases e : t = n
      · subst e
        rcases h2 with h2 | h2
        · rw [hs] at h2
          exact absurd h2 (by decide)
        · exact h2
      · exact h1 t (by omega) hs
    · intro h
      refine ⟨fun t ht hs => h t (by omega) hs, ?_⟩
      cases hs : set.testBit n
      · exact Or.inl rfl
      · exact Or.inr (h n (by omega) hs)
theorem nd_zero {a b n : Nat} (ha : a < 2 ^ n) (hn : n ≤ 31) : nd a b = 0 ↔ ∀ t, t < n → a.testBit t = true → b.testBit t = true := by
  constructor
  · intro h t ht hs
    have h1 : (nd a b).testBit t = false := by rw [h, Nat.zero_testBit]
    rw [nd_bit (by omega), hs] at h1
    cases hb : b.testBit t
    · rw [hb] at h1
      exact absurd h1 (by decide)
    · rfl
  · intro h
    apply Nat.eq_of_testBit_eq
    intro i
    rw [Nat.zero_testBit]
    by_cases q : i < n
    · rw [nd_bit (by omega)]
      cases hs : a.testBit i
      · rfl
      · rw [h i q hs]
        rfl
    · have : a.testBit i = false := Nat.testBit_lt_two_pow (Nat.lt_of_lt_of_le ha (Nat.pow_le_pow_right (by decide) (by omega)))
      unfold nd
      rw [Nat.testBit_and, this, Bool.false_and]
theorem arB_nd {μ : Mem} {p set n : Nat} (hs : set < 2 ^ n) (hn : n ≤ 31) : arB μ p set n = decide (nd set (aT μ p n) = 0) := by
  have h : arB μ p set n = true ↔ nd set (aT μ p n) = 0 := by
    rw [arB_iff, nd_zero hs hn]
    constructor
    · intro h t ht hb
      rw [aT_bit, h t ht hb, decide_eq_true ht]
      rfl
    · intro h t ht hb
      have := h t ht hb
      rw [aT_bit, decide_eq_true ht, Bool.true_and] at this
      exact this
  cases hb : arB μ p set n
  · rw [hb] at h
    exact (decide_eq_false (fun z => absurd (h.mpr z) (by decide))).symm
  · rw [hb] at h
    exact (decide_eq_true (h.mp rfl)).symm
theorem areAl_m {μ : Mem} (o : Ok μ) (T : RelT μ) (L : RelL μ) {p set : Nat} (hp : p < 4) (hs : set < 2 ^ tn μ) : X11_areAlways 134 (nI p) (nI set) μ = some (b01 (decide (nd set (aT μ p (tn μ)) = 0))) := by
  have hn := T.1.2.2
  have hs2 : set < 2 ^ 31 := Nat.lt_of_lt_of_le hs (Nat.pow_le_pow_right (by decide) (by omega))
  obtain ⟨a, P, e⟩ := loopF (F := fun k (a : Bool) i => X11_areAlways_L5 134 (nI p) (nI set) μ k (b01 a) (nI i)) (P := fun i a => a = arB μ p set i) (n := tn μ) (r := fun a => (b01 a, nI (tn μ))) (by omega) (fun k a i hi P => by
    subst P
    refine ⟨_, rfl, ?_⟩
    show X11_areAlways_L5 134 (nI p) (nI set) μ (k + 1) (b01 (arB μ p set i)) (nI i) = X11_areAlways_L5 134 (nI p) (nI set) μ k (b01 (arB μ p set (i + 1))) (nI (i + 1))
    rw [X11_areAlways_L5, gi_134 o, T.1.2.1, Option.bind_some, if_neg (nI_ge hi (by omega)), arB]
    simp only [vo_134 o, isAl_m o T L hp (show i < 10 by omega), Option.bind_some, b01_z, bt_z, bt_t hs2 (show i < 31 by omega), nI_add1]
    cases q0 : arB μ p set i
    · rw [if_pos rfl]
      rfl
    · rw [if_neg (by decide)]
      cases q1 : set.testBit i
      · rw [if_pos rfl]
        rfl
      · rw [if_neg (by decide)]
        cases q2 : alT μ p i
        · rw [if_pos rfl]
          rfl
        · rw [if_neg (by decide)]
          rfl) (fun k a P => by
    show X11_areAlways_L5 134 (nI p) (nI set) μ (k + 1) (b01 a) (nI (tn μ)) = _
    rw [X11_areAlways_L5, gi_134 o, T.1.2.1, Option.bind_some, if_pos (nI_le (Nat.le_refl _) (by omega))]) true rfl
  subst P
  have e : X11_areAlways_L5 134 (nI p) (nI set) μ FU 1 0 = _ := e
  unfold X11_areAlways
  rw [e, Option.bind_some, zz_b, Option.bind_some, arB_nd hs (by omega)]
theorem wayB_m {μ : Mem} (I : InvM μ) {p way k : Nat} (hp : p < 4) (hw : way < 4) (hk : k ≤ 8) : ∃ ν, (Sm μ ν ∧ (∀ a, ¬ (141 ≤ a ∧ a ≤ 144) → mI ν a = mI μ a)) ∧ X11_isWayBarred 134 (nI p) (nI way) (nI k) μ = some (b01 ((bW μ p (odd μ p (nw μ) k) (lc μ p)).testBit way), ν) := by
  obtain ⟨o, W, C, T, S, X, L⟩ := I
  have hn := W.2.2.2.2.2.2.2
  obtain ⟨ν, ⟨s, fr, hd⟩, e0⟩ := modds_fr o W hp (t := nw μ) (k := k) (by omega) hk
  have oν := s.1
  obtain ⟨⟨-, l1, l8⟩, hkk⟩ := L p hp
  have l1' : mI ν 156 p = nI (lc μ p) := by
    rw [s.row (a := 156) rfl]
    exact l1
  obtain ⟨a, P, e⟩ := loopG (F := fun m (a : Bool) i => X11_isWayBarred_L19 134 (nI p) (nI way) ν m (b01 a) (nI i)) (P := fun i a => a = (bW μ p (odd μ p (nw μ) k) (i - 8 * p)).testBit way) (i0 := 8 * p) (n := 8 * p + lc μ p) (r := fun a => (b01 a, nI (8 * p + lc μ p))) (by omega) (by omega) (fun m a i h1 hi P => by
    subst P
    obtain ⟨j, rfl⟩ : ∃ j, i = 8 * p + j := ⟨i - 8 * p, by omega⟩
    have hj : j < lc μ p := by omega
    obtain ⟨A0, A1, A2, A3⟩ := hkk j hj
    have f0 : mI ν 157 (8 * p + j) = nI (lv μ 0 p j) := by rw [s.row (a := 157) rfl]; exact A0.2.1
    have f1 : mI ν 158 (8 * p + j) = nI (lv μ 1 p j) := by rw [s.row (a := 158) rfl]; exact A1.2.1
    have c2 : (nI 2 ≤ nI (lv μ 0 p j)) = (2 ≤ lv μ 0 p j) := n_le (by decide) (by omega)
    have c0 : (nI (lv μ 0 p j) = nI 0) = (lv μ 0 p j = 0) := n_eq (by omega) (by decide)
    have cw : (nI (lv μ 1 p j) = nI way) = (lv μ 1 p j = way) := n_eq (by omega) (by omega)
    refine ⟨_, rfl, ?_⟩
    show X11_isWayBarred_L19 134 (nI p) (nI way) ν (m + 1) (b01 ((bW μ p (odd μ p (nw μ) k) (8 * p + j - 8 * p)).testBit way)) (nI (8 * p + j)) = X11_isWayBarred_L19 134 (nI p) (nI way) ν m (b01 ((bW μ p (odd μ p (nw μ) k) (8 * p + j + 1 - 8 * p)).testBit way)) (nI (8 * p + j + 1))
    rw [show 8 * p + j - 8 * p = j by omega, show 8 * p + j + 1 - 8 * p = j + 1 by omega, X11_isWayBarred_L19, r_134_24 oν, Option.bind_some, ai_156 oν hp, l1', Option.bind_some, show (8 : Int32) = nI 8 from rfl, pk_mul, nI_add, if_neg (nI_ge (by omega) (by omega))]
    have or1 : ∀ b : Bool, b01 b = b01 b := fun _ => rfl
    rw [r_134_25 oν, Option.bind_some, ai_157 oν (by omega), f0, Option.bind_some]
    have z10 : ((if (2 : Int32) ≤ nI (lv μ 0 p j) then some 0 else (gR 11 26 134 ν).bind fun v7 => (aI v7 (nI (8 * p + j)) ν).bind fun v8 => if v8 = nI way then some 1 else some 0 : Option Int32)) = some (b01 (decide (lv μ 0 p j < 2 ∧ lv μ 1 p j = way))) := by
      rw [r_134_26 oν, Option.bind_some, ai_158 oν (by omega), f1, Option.bind_some, L2]
      simp only [c2, cw]
      by_cases q : 2 ≤ lv μ 0 p j
      · rw [if_pos q, decide_eq_false (by omega)]
        rfl
      · rw [if_neg q]
        by_cases q1 : lv μ 1 p j = way
        · rw [if_pos q1, decide_eq_true ⟨by omega, q1⟩]
          rfl
        · rw [if_neg q1, decide_eq_false (fun z => q1 z.2)]
          rfl
    rw [z10, Option.bind_some]
    simp only [b01_z]
    cases q0 : (bW μ p (odd μ p (nw μ) k) j).testBit way
    · rw [if_pos rfl]
      by_cases qw : lv μ 0 p j < 2 ∧ lv μ 1 p j = way
      · rw [if_neg (by rw [decide_eq_true qw]; decide), Option.bind_some, ai_157 oν (by omega), f0, Option.bind_some, L0]
        simp only [c0]
        by_cases q : lv μ 0 p j = 0
        · rw [if_pos q, Option.bind_some, bW_pos (Or.inl q), or_put_bit, q0, decide_eq_true qw.2, nI_add1]
          rfl
        · have q1 : lv μ 0 p j = 1 := by omega
          obtain ⟨-, z2, z3, z4⟩ := A2 (by omega) (by omega)
          obtain ⟨-, y2, y3⟩ := A3 q1
          have z5 := z4 q1
          have ob : odd μ p (nw μ) k (lv μ 2 p j) ≤ 1000000 := odd_le (by omega)
          have f2 : mI ν 159 (8 * p + j) = nI (lv μ 2 p j) := by rw [s.row (a := 159) rfl]; exact z2
          have f3 : mI ν 160 (8 * p + j) = nI (lv μ 3 p j) := by rw [s.row (a := 160) rfl]; exact y2
          rw [if_neg q, r_134_10 oν, Option.bind_some, r_134_27 oν, Option.bind_some, ai_159 oν (by omega), f2, Option.bind_some, ai_143 oν (by omega), hd _ (by omega), Option.bind_some, r_134_28 oν, Option.bind_some, ai_160 oν (by omega), f3, Option.bind_some, nI_l (by omega), nI_l (by omega), show (100 : Int64) = lN 100 from rfl, show (1000000 : Int64) = lN 1000000 from rfl, lN_mul, lN_mul]
          rw [← L0]
          simp only [lg_nlt (show 100 * odd μ p (nw μ) k (lv μ 2 p j) < 2 ^ 63 by omega) (show 1000000 * lv μ 3 p j < 2 ^ 63 by omega)]
          by_cases q2 : lv μ 3 p j * 1000000 ≤ odd μ p (nw μ) k (lv μ 2 p j) * 100
          · rw [if_neg (by omega), Option.bind_some, bW_pos (Or.inr ⟨q1, q2⟩), or_put_bit, q0, decide_eq_true qw.2, nI_add1]
            rfl
          · rw [if_pos (by omega), Option.bind_some, bW_neg (fun z => z.elim q (fun w => q2 w.2)), q0, nI_add1]
            rfl
      · rw [if_pos (decide_eq_false qw), Option.bind_some, nI_add1]
        have : (bW μ p (odd μ p (nw μ) k) (j + 1)).testBit way = false := by
          rcases bWd μ p (odd μ p (nw μ) k) j with z | z
          · have z01 : lv μ 0 p j < 2 := by
              rcases z with z | ⟨z, -⟩ <;> omega
            rw [bW_pos z, or_put_bit, q0, decide_eq_false (fun w => qw ⟨z01, w⟩)]
            rfl
          · rw [bW_neg z, q0]
        rw [this]
        rfl
    · rw [if_neg (by decide), Option.bind_some, nI_add1]
      have : (bW μ p (odd μ p (nw μ) k) (j + 1)).testBit way = true := by
        rcases bWd μ p (odd μ p (nw μ) k) j with z | z
        · rw [bW_pos z, or_put_bit, q0]
          rfl
        · rw [bW_neg z, q0]
      rw [this]
      rfl) (fun m a P => by
    show X11_isWayBarred_L19 134 (nI p) (nI way) ν (m + 1) (b01 a) (nI (8 * p + lc μ p)) = _
    rw [X11_isWayBarred_L19, r_134_24 oν, Option.bind_some, ai_156 oν hp, l1', Option.bind_some, show (8 : Int32) = nI 8 from rfl, pk_mul, nI_add, if_pos (nI_le (Nat.le_refl _) (by omega))]) false (by rw [Nat.sub_self, bW, Nat.zero_testBit])
  subst P
  have e : X11_isWayBarred_L19 134 (nI p) (nI way) ν FU 0 (nI (8 * p)) = _ := e
  refine ⟨ν, ⟨s, fr⟩, ?_⟩
  unfold X11_isWayBarred
  rw [gi_134 o, W.2.2.2.2.2.2.1, Option.bind_some, vo_134 o, Option.bind_some, e0, Option.bind_some, show (8 : Int32) = nI 8 from rfl, pk_mul, Option.bind_some, e, Option.bind_some, zz_b, Option.bind_some, show 8 * p + lc μ p - 8 * p = lc μ p by omega]
