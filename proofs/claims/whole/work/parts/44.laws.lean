/-! ===== LAWS as sets ===== -/
def aF (μ : Mem) (p : Nat) : Nat → Nat
  | 0 => 0
  | k + 1 => if lv μ 0 p k = 4 then aF μ p k ||| 2 ^ lv μ 1 p k else aF μ p k
def bK (μ : Mem) (p u : Nat) : Nat → Nat
  | 0 => 0
  | k + 1 => if lv μ 0 p k = 2 ∧ lv μ 2 p k < u then bK μ p u k ||| 2 ^ lv μ 1 p k else bK μ p u k
def bWc (μ : Mem) (p : Nat) (od : Nat → Nat) (k : Nat) : Prop := lv μ 0 p k = 0 ∨ (lv μ 0 p k = 1 ∧ lv μ 3 p k * 1000000 ≤ od (lv μ 2 p k) * 100)
theorem bWd (μ : Mem) (p : Nat) (od : Nat → Nat) (k : Nat) : bWc μ p od k ∨ ¬ bWc μ p od k := Classical.em _
noncomputable def bW (μ : Mem) (p : Nat) (od : Nat → Nat) : Nat → Nat
  | 0 => 0
  | k + 1 => @ite Nat (bWc μ p od k) (Classical.propDecidable _) (bW μ p od k ||| 2 ^ lv μ 1 p k) (bW μ p od k)
theorem bW_pos {μ : Mem} {p : Nat} {od : Nat → Nat} {k : Nat} (h : bWc μ p od k) : bW μ p od (k + 1) = bW μ p od k ||| 2 ^ lv μ 1 p k := if_pos h
theorem bW_neg {μ : Mem} {p : Nat} {od : Nat → Nat} {k : Nat} (h : ¬ bWc μ p od k) : bW μ p od (k + 1) = bW μ p od k := if_neg h
section LW
variable {μ : Mem} {p : Nat}
theorem lw_is (o : Ok μ) (hp : p < 4) : isLw (lwA μ p) := (o.2.2.2.2.1 p hp).2
theorem aF_lt (L : RelL μ) (hp : p < 4) : ∀ n, n ≤ lc μ p → aF μ p n < 2 ^ 10
  | 0, _ => (by decide : (0 : Nat) < 2 ^ 10)
  | n + 1, h => by
    have ih := aF_lt L hp n (by omega)
    have b := ((L p hp).2 n (by omega)).2.1.2.2.1
    rw [aF]
    split
    · exact or_put_lt ih (by omega)
    · exact ih
theorem bK_lt (L : RelL μ) (hp : p < 4) (u : Nat) : ∀ n, n ≤ lc μ p → bK μ p u n < 2 ^ 10
  | 0, _ => (by decide : (0 : Nat) < 2 ^ 10)
  | n + 1, h => by
    have ih := bK_lt L hp u n (by omega)
    have b := ((L p hp).2 n (by omega)).2.1.2.2.1
    rw [bK]
    split
    · exact or_put_lt ih (by omega)
    · exact ih
theorem bW_lt (L : RelL μ) (hp : p < 4) (od : Nat → Nat) : ∀ n, n ≤ lc μ p → bW μ p od n < 2 ^ 10
  | 0, _ => (by decide : (0 : Nat) < 2 ^ 10)
  | n + 1, h => by
    have ih := bW_lt L hp od n (by omega)
    have b := ((L p hp).2 n (by omega)).2.1.2.2.1
    rcases bWd μ p od n with q | q
    · rw [bW_pos q]
      exact or_put_lt ih (by omega)
    · rw [bW_neg q]
      exact ih
theorem always_c (o : Ok μ) (L : RelL μ) (hp : p < 4) : X3_alwaysFrom (lwA μ p) μ = some (nI (aF μ p (lc μ p))) := by
  have il := lw_is o hp
  obtain ⟨⟨l0, -, l8⟩, hk⟩ := L p hp
  obtain ⟨a, P, e⟩ := loopF (F := fun k (a : Nat) i => X3_alwaysFrom_L4 (lwA μ p) μ k (nI a) (nI i)) (P := fun i a => a = aF μ p i) (n := lc μ p) (r := fun a => (nI a, nI (lc μ p))) (by omega) (fun k a i hi P => by
    subst P
    have i8 : i < 8 := by omega
    obtain ⟨A0, A1, -, -⟩ := hk i hi
    have c4 : (nI (lv μ 0 p i) = 4) = (lv μ 0 p i = 4) := n_eq (b := 4) (by omega) (by decide)
    refine ⟨_, rfl, ?_⟩
    show X3_alwaysFrom_L4 (lwA μ p) μ (k + 1) (nI (aF μ p i)) (nI i) = X3_alwaysFrom_L4 (lwA μ p) μ k (nI (aF μ p (i + 1))) (nI (i + 1))
    rw [X3_alwaysFrom_L4, gi_l o il, l0, Option.bind_some, if_neg (nI_ge hi (by omega)), aF]
    simp only [rl_1 o il, rl_2 o il, al_1 o il i8, al_2 o il i8, A0.1, A1.1, Option.bind_some, c4, nI_add1, or_put (show lv μ 1 p i < 31 by omega)]
    by_cases q : lv μ 0 p i = 4
    · rw [if_pos q, if_pos q]
      rfl
    · rw [if_neg q, if_neg q]
      rfl) (fun k a P => by
    show X3_alwaysFrom_L4 (lwA μ p) μ (k + 1) (nI a) (nI (lc μ p)) = _
    rw [X3_alwaysFrom_L4, gi_l o il, l0, Option.bind_some, if_pos (nI_le (Nat.le_refl _) (by omega))]) 0 rfl
  subst P
  have e : X3_alwaysFrom_L4 (lwA μ p) μ FU 0 0 = _ := e
  unfold X3_alwaysFrom
  rw [e, Option.bind_some]
theorem kinds_c (o : Ok μ) (L : RelL μ) (hp : p < 4) {u : Nat} (hu : u < 1000) : X3_barredKinds (lwA μ p) (nI u) μ = some (nI (bK μ p u (lc μ p))) := by
  have il := lw_is o hp
  obtain ⟨⟨l0, -, l8⟩, hk⟩ := L p hp
  obtain ⟨a, P, e⟩ := loopF (F := fun k (a : Nat) i => X3_barredKinds_L4 (lwA μ p) (nI u) μ k (nI a) (nI i)) (P := fun i a => a = bK μ p u i) (n := lc μ p) (r := fun a => (nI a, nI (lc μ p))) (by omega) (fun k a i hi P => by
    subst P
    have i8 : i < 8 := by omega
    obtain ⟨A0, A1, A2, -⟩ := hk i hi
    have c2 : (nI (lv μ 0 p i) = 2) = (lv μ 0 p i = 2) := n_eq (b := 2) (by omega) (by decide)
    refine ⟨_, rfl, ?_⟩
    show X3_barredKinds_L4 (lwA μ p) (nI u) μ (k + 1) (nI (bK μ p u i)) (nI i) = X3_barredKinds_L4 (lwA μ p) (nI u) μ k (nI (bK μ p u (i + 1))) (nI (i + 1))
    rw [X3_barredKinds_L4, gi_l o il, l0, Option.bind_some, if_neg (nI_ge hi (by omega)), bK]
    simp only [rl_1 o il, rl_2 o il, rl_3 o il, al_1 o il i8, al_2 o il i8, al_3 o il i8, A0.1, A1.1, Option.bind_some, c2, nI_add1, or_put (show lv μ 1 p i < 31 by omega)]
    by_cases q : lv μ 0 p i = 2
    · obtain ⟨z1, -, z3, -⟩ := A2 (by omega) (by omega)
      rw [if_pos q, z1]
      simp only [n_le (show u < 2 ^ 31 by omega) (show lv μ 2 p i < 2 ^ 31 by omega)]
      by_cases q2 : u ≤ lv μ 2 p i
      · rw [if_pos q2, if_neg (by omega)]
        rfl
      · rw [if_neg q2, if_pos ⟨q, by omega⟩]
        rfl
    · rw [if_neg q, if_neg (fun z => q z.1)]
      rfl) (fun k a P => by
    show X3_barredKinds_L4 (lwA μ p) (nI u) μ (k + 1) (nI a) (nI (lc μ p)) = _
    rw [X3_barredKinds_L4, gi_l o il, l0, Option.bind_some, if_pos (nI_le (Nat.le_refl _) (by omega))]) 0 rfl
  subst P
  have e : X3_barredKinds_L4 (lwA μ p) (nI u) μ FU 0 0 = _ := e
  unfold X3_barredKinds
  rw [e, Option.bind_some]
theorem lg_nlt {a b : Nat} (ha : a < 2 ^ 63) (hb : b < 2 ^ 63) : (lg_cmp (lN a) (lN b) < 0) = (a < b) := propext ((lg_cmp_lt _ _).trans (pk_lLT ha hb))
theorem likely_c (o : Ok μ) (L : RelL μ) (hp : p < 4) {i r : Nat} (hi : i < lc μ p) (h1 : lv μ 0 p i = 1) (hr : r < 175) (sr : S0 r = (1, 4)) {od : Nat → Nat} (hd : HI μ r 4 od) (ob : ∀ j, j < 4 → od j ≤ 1000000) : X3_isLikely (lwA μ p) (nI i) r μ = some (if lv μ 3 p i * 1000000 ≤ od (lv μ 2 p i) * 100 then 1 else 0) := by
  have il := lw_is o hp
  obtain ⟨⟨l0, -, l8⟩, hk⟩ := L p hp
  have i8 : i < 8 := by omega
  obtain ⟨A0, A1, A2, A3⟩ := hk i hi
  obtain ⟨z1, -, z3, z4⟩ := A2 (by omega) (by omega)
  obtain ⟨y1, -, y3⟩ := A3 h1
  have z5 := z4 h1
  have b := ob (lv μ 2 p i) (by omega)
  unfold X3_isLikely
  rw [rl_3 o il, Option.bind_some, al_3 o il i8, z1, Option.bind_some, if_neg (nI_pos (by omega)), aL_eq o hr sr (by decide) (by decide), Option.bind_some, if_neg (nI_ge (by omega) (by decide)), aI_eq o hr sr (by omega) (by decide), hd _ (by omega), Option.bind_some, rl_4 o il, Option.bind_some, al_4 o il i8, y1, Option.bind_some, nI_l (by omega), nI_l (by omega), show (100 : Int64) = lN 100 from rfl, show (1000000 : Int64) = lN 1000000 from rfl, lN_mul, lN_mul]
  simp only [lg_nlt (show od (lv μ 2 p i) * 100 < 2 ^ 63 by omega) (show lv μ 3 p i * 1000000 < 2 ^ 63 by omega)]
  by_cases q : lv μ 3 p i * 1000000 ≤ od (lv μ 2 p i) * 100
  · rw [if_neg (by omega), if_pos q]
    rfl
  · rw [if_pos (by omega), if_neg q]
    rfl
theorem ways_c (o : Ok μ) (L : RelL μ) (hp : p < 4) {r : Nat} (hr : r < 175) (sr : S0 r = (1, 4)) {od : Nat → Nat} (hd : HI μ r 4 od) (ob : ∀ j, j < 4 → od j ≤ 1000000) : X3_barredWays (lwA μ p) r μ = some (nI (bW μ p od (lc μ p))) := by
  have il := lw_is o hp
  have L0 := L
  obtain ⟨⟨l0, -, l8⟩, hk⟩ := L p hp
  obtain ⟨a, P, e⟩ := loopF (F := fun k (a : Nat) i => X3_barredWays_L4 (lwA μ p) r μ k (nI a) (nI i)) (P := fun i a => a = bW μ p od i) (n := lc μ p) (r := fun a => (nI a, nI (lc μ p))) (by omega) (fun k a i hi P => by
    subst P
    have i8 : i < 8 := by omega
    obtain ⟨A0, A1, A2, -⟩ := hk i hi
    have c0 : (nI (lv μ 0 p i) = 0) = (lv μ 0 p i = 0) := n_eq (b := 0) (by omega) (by decide)
    have c1 : (nI (lv μ 0 p i) = 1) = (lv μ 0 p i = 1) := n_eq (b := 1) (by omega) (by decide)
    refine ⟨_, rfl, ?_⟩
    show X3_barredWays_L4 (lwA μ p) r μ (k + 1) (nI (bW μ p od i)) (nI i) = X3_barredWays_L4 (lwA μ p) r μ k (nI (bW μ p od (i + 1))) (nI (i + 1))
    rw [X3_barredWays_L4, gi_l o il, l0, Option.bind_some, if_neg (nI_ge hi (by omega))]
    simp only [rl_1 o il, rl_2 o il, al_1 o il i8, al_2 o il i8, vo_l o il, A0.1, A1.1, Option.bind_some, c0, c1, nI_add1, or_put (show lv μ 1 p i < 31 by omega)]
    by_cases q : lv μ 0 p i = 0
    · rw [if_pos q, bW_pos (Or.inl q)]
      rfl
    · rw [if_neg q]
      by_cases q1 : lv μ 0 p i = 1
      · rw [if_pos q1, likely_c o L0 hp hi q1 hr sr hd ob, Option.bind_some]
        by_cases q2 : lv μ 3 p i * 1000000 ≤ od (lv μ 2 p i) * 100
        · rw [if_pos q2, if_neg (by decide), bW_pos (Or.inr ⟨q1, q2⟩)]
          rfl
        · rw [if_neg q2, if_pos rfl, bW_neg (fun z => z.elim q (fun w => q2 w.2))]
          rfl
      · rw [if_neg q1, bW_neg (fun z => z.elim q (fun w => q1 w.1))]
        rfl) (fun k a P => by
    show X3_barredWays_L4 (lwA μ p) r μ (k + 1) (nI a) (nI (lc μ p)) = _
    rw [X3_barredWays_L4, gi_l o il, l0, Option.bind_some, if_pos (nI_le (Nat.le_refl _) (by omega))]) 0 rfl
  subst P
  have e : X3_barredWays_L4 (lwA μ p) r μ FU 0 0 = _ := e
  unfold X3_barredWays
  rw [e, Option.bind_some]
/-! the gate -/
def alT (μ : Mem) (p t : Nat) : Bool := (aF μ p (lc μ p)).testBit (tv μ 3 t)
def aT (μ : Mem) (p : Nat) : Nat → Nat
  | 0 => 0
  | t + 1 => if alT μ p t = true then aT μ p t ||| 2 ^ t else aT μ p t
def kdT (μ : Mem) (p u t : Nat) : Bool := !(alT μ p t) && (bK μ p u (lc μ p)).testBit (tv μ 1 t)
def kT (μ : Mem) (p u : Nat) : Nat → Nat
  | 0 => 0
  | t + 1 => if kdT μ p u t = true then kT μ p u t ||| 2 ^ t else kT μ p u t
theorem aT_bit (μ : Mem) (p i : Nat) : ∀ n, (aT μ p n).testBit i = (decide (i < n) && alT μ p i)
  | 0 => by rw [aT, Nat.zero_testBit]; rfl
  | n + 1 => by
    rw [aT]
    by_cases q : alT μ p n = true
    · rw [if_pos q, or_put_bit, aT_bit μ p i n]
      by_cases e : n = i
      · subst e
        simp [q]
      · have : (i < n + 1) = (i < n) := propext ⟨fun _ => by omega, fun _ => by omega⟩
        simp [e, this]
    · rw [if_neg q, aT_bit μ p i n]
      by_cases e : n = i
      · subst e
        simp [q]
      · have : (i < n + 1) = (i < n) := propext ⟨fun _ => by omega, fun _ => by omega⟩
        simp [this]
theorem kT_bit (μ : Mem) (p u i : Nat) : ∀ n, (kT μ p u n).testBit i = (decide (i < n) && kdT μ p u i)
  | 0 => by rw [kT, Nat.zero_testBit]; rfl
  | n + 1 => by
    rw [kT]
    by_cases q : kdT μ p u n = true
    · rw [if_pos q, or_put_bit, kT_bit μ p u i n]
      by_cases e : n = i
      · subst e
        simp [q]
      · have : (i < n + 1) = (i < n) := propext ⟨fun _ => by omega, fun _ => by omega⟩
        simp [e, this]
    · rw [if_neg q, kT_bit μ p u i n]
      by_cases e : n = i
      · subst e
        simp [q]
      · have : (i < n + 1) = (i < n) := propext ⟨fun _ => by omega, fun _ => by omega⟩
        simp [this]
theorem aT_lt (μ : Mem) (p : Nat) (n : Nat) : aT μ p n < 2 ^ n := Nat.lt_pow_two_of_testBit _ (fun i hi => by rw [aT_bit, show decide (i < n) = false from decide_eq_false (by omega)]; rfl)
theorem kT_lt (μ : Mem) (p u : Nat) (n : Nat) : kT μ p u n < 2 ^ n := Nat.lt_pow_two_of_testBit _ (fun i hi => by rw [kT_bit, show decide (i < n) = false from decide_eq_false (by omega)]; rfl)
end LW
theorem aF_sm {μ μ' : Mem} (s : Sm μ μ') (p : Nat) : ∀ n, aF μ' p n = aF μ p n
  | 0 => rfl
  | n + 1 => by rw [aF, aF, aF_sm s p n, lv_sm s (by decide), lv_sm s (by decide)]
theorem bK_sm {μ μ' : Mem} (s : Sm μ μ') (p u : Nat) : ∀ n, bK μ' p u n = bK μ p u n
  | 0 => rfl
  | n + 1 => by rw [bK, bK, bK_sm s p u n, lv_sm s (by decide), lv_sm s (by decide), lv_sm s (by decide)]
theorem bW_sm {μ μ' : Mem} (s : Sm μ μ') (p : Nat) (od : Nat → Nat) : ∀ n, bW μ' p od n = bW μ p od n
  | 0 => rfl
  | n + 1 => by
    have e : bWc μ' p od n = bWc μ p od n := by
      unfold bWc
      rw [lv_sm s (by decide), lv_sm s (by decide), lv_sm s (by decide)]
    rcases bWd μ p od n with q | q
    · rw [bW_pos q, bW_pos (by rw [e]; exact q), bW_sm s p od n, lv_sm s (by decide)]
    · rw [bW_neg q, bW_neg (by rw [e]; exact q), bW_sm s p od n]
theorem alT_sm {μ μ' : Mem} (s : Sm μ μ') (p t : Nat) : alT μ' p t = alT μ p t := by
  unfold alT
  rw [aF_sm s, lc_sm s, tv_sm s (by decide)]
theorem kdT_sm {μ μ' : Mem} (s : Sm μ μ') (p u t : Nat) : kdT μ' p u t = kdT μ p u t := by
  unfold kdT
  rw [alT_sm s, bK_sm s, lc_sm s, tv_sm s (by decide)]
theorem aT_sm {μ μ' : Mem} (s : Sm μ μ') (p n : Nat) : aT μ' p n = aT μ p n := Nat.eq_of_testBit_eq (fun i => by rw [aT_bit, aT_bit, alT_sm s])
theorem kT_sm {μ μ' : Mem} (s : Sm μ μ') (p u n : Nat) : kT μ' p u n = kT μ p u n := Nat.eq_of_testBit_eq (fun i => by rw [kT_bit, kT_bit, kdT_sm s])
theorem isGt {G : Nat} (h : G = 93 ∨ G = 97) : S0 G = (0, 1) ∧ G < 175 ∧ ∀ k, cor G k = false := by
  rcases h with rfl | rfl
  · exact ⟨rfl, by decide, fun _ => rfl⟩
  · exact ⟨rfl, by decide, fun _ => rfl⟩
/-- the gate holds what the LAWS bar in a TICK -/
def Gt (μ : Mem) (G : Nat) (p u : Nat) (od : Nat → Nat) (ν : Mem) : Prop := mI ν G 0 = nI (aT μ p (tn μ)) ∧ mI ν G 1 = nI (kT μ p u (tn μ)) ∧ mI ν G 2 = nI (bW μ p od (lc μ p))
theorem open_c {μ : Mem} (I : Inv μ) {G p u r : Nat} (hG : G = 93 ∨ G = 97) (hp : p < 4) (hu : u < 1000) (hr : r < 175) (sr : S0 r = (1, 4)) {od : Nat → Nat} (hd : HI μ r 4 od) (ob : ∀ j, j < 4 → od j ≤ 1000000) : ∃ ν, (Onl G μ ν ∧ Gt μ G p u od ν) ∧ X1_open G (lwA μ p) 37 (nI u) r μ = some ν := by
  obtain ⟨o, W, C, T, S, X, L⟩ := I
  have il := lw_is o hp
  have hn := T.1.2.2
  obtain ⟨sG, hG2, cG⟩ := isGt hG
  have a10 := aF_lt L hp (lc μ p) (Nat.le_refl _)
  have k10 := bK_lt L hp u (lc μ p) (Nat.le_refl _)
  have hm0 : Onl G μ (wI (wI (wI μ G 2 (nI (bW μ p od (lc μ p)))) G 0 0) G 1 0) := ((Onl.rf o).wI.wI).wI
  have hz : mI (wI (wI (wI μ G 2 (nI (bW μ p od (lc μ p)))) G 0 0) G 1 0) G 0 = nI (aT μ p 0) ∧ mI (wI (wI (wI μ G 2 (nI (bW μ p od (lc μ p)))) G 0 0) G 1 0) G 1 = nI (kT μ p u 0) ∧ mI (wI (wI (wI μ G 2 (nI (bW μ p od (lc μ p)))) G 0 0) G 1 0) G 2 = nI (bW μ p od (lc μ p)) := ⟨(fld_ne (by omega)).trans fld_eq, fld_eq, (fld_ne (by omega)).trans ((fld_ne (by omega)).trans fld_eq)⟩
  obtain ⟨ν, ⟨P1, P2⟩, e⟩ := loopF (F := fun k (ν : Mem) i => X1_open_L36 G 37 (nI (aF μ p (lc μ p))) (nI (bK μ p u (lc μ p))) k (nI i) ν) (P := fun i ν => Onl G μ ν ∧ mI ν G 0 = nI (aT μ p i) ∧ mI ν G 1 = nI (kT μ p u i) ∧ mI ν G 2 = nI (bW μ p od (lc μ p))) (n := tn μ) (r := fun ν => (nI (tn μ), ν)) (by omega) (fun k ν i hi P => by
    obtain ⟨on, g0, g1, g2⟩ := P
    have s := on.sm cG
    have oν := on.1
    have i10 : i < 10 := by omega
    have Tν := Onl.T s T
    have ct : mI ν 37 2 = nI (tn μ) := (s.fld (a := 37) (k := 2) rfl).trans T.1.1
    have f3 := (Tν.2.1 3 i (by decide) i10).1
    have f1 := (Tν.2.1 1 i (by decide) i10).1
    rw [tv_sm s (by decide)] at f3 f1
    have b3 : tv μ 3 i ≤ 9 := (T.2.1 3 i (by decide) i10).2.2
    have b1 : tv μ 1 i ≤ 3 := (T.2.1 1 i (by decide) i10).2.2
    have gG : ∀ k ν', Ok ν' → gI 1 k G ν' = some (mI ν' G k) := fun k ν' o' => gI_eq o' hG2 sG
    have pG : ∀ k x ν', Ok ν' → pI 1 k G x ν' = some (wI ν' G k x) := fun k x ν' o' => pI_eq o' hG2 sG
    show ∃ a', _ ∧ X1_open_L36 G 37 (nI (aF μ p (lc μ p))) (nI (bK μ p u (lc μ p))) (k + 1) (nI i) ν = _
    rw [X1_open_L36, gi_37 oν, ct, Option.bind_some, if_neg (nI_ge hi (by omega))]
    simp only [r_37_0 oν, ar_things oν i10, gi_T oν i10, f3, f1, Option.bind_some, gG _ ν oν, pG _ _ ν oν, g0, g1, or_put (show i < 31 by omega), has_t (show aF μ p (lc μ p) < 2 ^ 31 by omega) (show tv μ 3 i < 31 by omega), has_t (show bK μ p u (lc μ p) < 2 ^ 31 by omega) (show tv μ 1 i < 31 by omega), nI_add1]
    by_cases q : alT μ p i = true
    · have q' : ¬ (aF μ p (lc μ p)).testBit (tv μ 3 i) = false := by rw [show (aF μ p (lc μ p)).testBit (tv μ 3 i) = true from q]; decide
      refine ⟨wI ν G 0 (nI (aT μ p i ||| 2 ^ i)), ⟨on.wI, ?_, ?_, ?_⟩, ?_⟩
      · rw [fld_eq, aT, if_pos q]
      · rw [fld_ne (by omega), g1, kT, if_neg (by unfold kdT; rw [q, Bool.not_true, Bool.false_and]; decide)]
      · rw [fld_ne (by omega), g2]
      · rw [if_neg q', Option.bind_some]
    · have q0 : alT μ p i = false := by cases h : alT μ p i; rfl; exact absurd h q
      have q' : (aF μ p (lc μ p)).testBit (tv μ 3 i) = false := q0
      rw [if_pos q']
      by_cases q2 : (bK μ p u (lc μ p)).testBit (tv μ 1 i) = false
      · refine ⟨ν, ⟨on, ?_, ?_, g2⟩, ?_⟩
        · rw [aT, if_neg q, g0]
        · rw [kT, if_neg (by unfold kdT; rw [q2, Bool.and_false]; decide), g1]
        · rw [if_pos q2, Option.bind_some]
      · have q2t : (bK μ p u (lc μ p)).testBit (tv μ 1 i) = true := by cases h : (bK μ p u (lc μ p)).testBit (tv μ 1 i); exact absurd h q2; rfl
        refine ⟨wI ν G 1 (nI (kT μ p u i ||| 2 ^ i)), ⟨on.wI, ?_, ?_, ?_⟩, ?_⟩
        · rw [fld_ne (by omega), aT, if_neg q, g0]
        · rw [fld_eq, kT, if_pos (by unfold kdT; rw [q0, q2t]; rfl)]
        · rw [fld_ne (by omega), g2]
        · rw [if_neg q2, Option.bind_some]) (fun k ν P => by
    have ct : mI ν 37 2 = nI (tn μ) := ((P.1.sm cG).fld (a := 37) (k := 2) rfl).trans T.1.1
    show X1_open_L36 G 37 (nI (aF μ p (lc μ p))) (nI (bK μ p u (lc μ p))) (k + 1) (nI (tn μ)) ν = _
    rw [X1_open_L36, gi_37 P.1.1, ct, Option.bind_some, if_pos (nI_le (Nat.le_refl _) (by omega))]) (wI (wI (wI μ G 2 (nI (bW μ p od (lc μ p)))) G 0 0) G 1 0) ⟨hm0, hz⟩
  have e : X1_open_L36 G 37 (nI (aF μ p (lc μ p))) (nI (bK μ p u (lc μ p))) FU 0 (wI (wI (wI μ G 2 (nI (bW μ p od (lc μ p)))) G 0 0) G 1 0) = _ := e
  refine ⟨ν, ⟨P1, P2⟩, ?_⟩
  unfold X1_open
  rw [vo_l o il, Option.bind_some, always_c o L hp, Option.bind_some, Option.bind_some, kinds_c o L hp hu, Option.bind_some, Option.bind_some, ways_c o L hp hr sr hd ob, Option.bind_some, pI_eq o hG2 sG, Option.bind_some, pI_eq o.wI hG2 sG, Option.bind_some, pI_eq o.wI.wI hG2 sG, Option.bind_some, e, Option.bind_some]
/-- 0: LET; 1 the WAY, 2 a KIND, 3 most -/
noncomputable def barV (μ : Mem) (p u : Nat) (od : Nat → Nat) (set way m : Nat) : Nat := if nd set (aT μ p (tn μ)) = 0 then (if set &&& kT μ p u (tn μ) = 0 then 0 else 2) else if (bW μ p od (lc μ p)).testBit way = true then 1 else if set &&& kT μ p u (tn μ) = 0 then (if m = 0 then 0 else 3) else 2
theorem bar_c {μ ν : Mem} (I : Inv μ) {G p u : Nat} {od : Nat → Nat} (hG : G = 93 ∨ G = 97) (hp : p < 4) (o : Ok ν) (g : Gt μ G p u od ν) {set way m : Nat} (hs : set < 2 ^ 10) (hw : way < 4) (hm : m ≤ 1) : X1_bar G (nI set) (nI way) (nI m) ν = some (nI (barV μ p u od set way m)) := by
  obtain ⟨o0, W, C, T, S, X, L⟩ := I
  obtain ⟨sG, hG2, cG⟩ := isGt hG
  obtain ⟨g0, g1, g2⟩ := g
  have w10 := bW_lt L hp od (lc μ p) (Nat.le_refl _)
  have nb := nd_le set (aT μ p (tn μ))
  have kb : set &&& kT μ p u (tn μ) ≤ set := Nat.and_le_left
  have gG : ∀ k, gI 1 k G ν = some (mI ν G k) := fun k => gI_eq o hG2 sG
  have c1 : (nI (nd set (aT μ p (tn μ))) = 0) = (nd set (aT μ p (tn μ)) = 0) := n_eq (b := 0) (by omega) (by decide)
  have c2 : (nI (set &&& kT μ p u (tn μ)) = 0) = (set &&& kT μ p u (tn μ) = 0) := n_eq (b := 0) (by omega) (by decide)
  have cm : (nI m = 0) = (m = 0) := n_eq (b := 0) (by omega) (by decide)
  unfold X1_bar X1_isAlways barV
  simp only [vO_eq o hG2 sG, gG, g0, g1, g2, Option.bind_some, nd_eq (show set < 2 ^ 31 by omega), fa_and, c1, c2, cm, has_t (show bW μ p od (lc μ p) < 2 ^ 31 by omega) (show way < 31 by omega)]
  by_cases q : nd set (aT μ p (tn μ)) = 0
  · simp only [q, if_true, zz1, Option.bind_some, one0, if_false]
    by_cases q2 : set &&& kT μ p u (tn μ) = 0
    · simp only [q2, if_true]
      rfl
    · simp only [q2, if_false]
      rfl
  · simp only [q, if_false, zz0, Option.bind_some, if_true]
    by_cases q3 : (bW μ p od (lc μ p)).testBit way = true
    · simp only [q3, if_true, show ((true : Bool) = false) = False from by decide, if_false]
      rfl
    · have q3' : (bW μ p od (lc μ p)).testBit way = false := by cases h : (bW μ p od (lc μ p)).testBit way; rfl; exact absurd h q3
      simp only [q3', if_true, show ((false : Bool) = true) = False from by decide, if_false]
      by_cases q2 : set &&& kT μ p u (tn μ) = 0
      · simp only [q2, if_true]
        by_cases q4 : m = 0
        · simp only [q4, if_true]
          rfl
        · simp only [q4, if_false]
          rfl
      · simp only [q2, if_false]
        rfl
