/-! ===== TOLD of the reference; how a THING stands ===== -/
def tdZ (n : Nat) : Int32 := if n = 0 then 0 else 1
theorem told_m7 {μ : Mem} (h : Ok μ) (S : RelS μ) (t : Nat) : X11_isTold_L7 134 (nI t) μ FU 0 0 0 = some (tdZ (tdA μ t (sc μ)).1, nI (tdA μ t (sc μ)).2, nI (sc μ)) := by
  have hc := S.1.2.2
  obtain ⟨a, P, e⟩ := loopF (F := fun k (a : Nat × Nat) i => X11_isTold_L7 134 (nI t) μ k (tdZ a.1) (nI a.2) (nI i)) (P := fun i a => a = tdA μ t i) (n := sc μ) (r := fun a => (tdZ a.1, nI a.2, nI (sc μ))) (by omega) (fun k a i hi P => by
    subst P
    obtain ⟨h1, h2, h3⟩ := tdA_ok S t i (by omega)
    have b0 : sv μ 0 i ≤ 3 := (S.2.1 0 i (by decide) (by omega)).2.2
    have b4 : sv μ 4 i ≤ 3 := (S.2.1 4 i (by decide) (by omega)).2.2
    have g : ¬ nI (sc μ) ≤ nI i := nI_ge hi (by omega)
    have c3 : nI (sv μ 4 i) = 3 ↔ sv μ 4 i = 3 := nI_eq (b := 3) (by omega) (by decide)
    have c1 : nI (sv μ 4 i) = 1 ↔ sv μ 4 i = 1 := nI_eq (b := 1) (by omega) (by decide)
    have f0 := (S.2.1 0 i (by decide) (by omega)).2.1
    have f1 := (S.2.1 1 i (by decide) (by omega)).2.1
    have f4 := (S.2.1 4 i (by decide) (by omega)).2.1
    have hi4 : i < 40 := by omega
    refine ⟨tdA μ t (i + 1), rfl, ?_⟩
    show X11_isTold_L7 134 (nI t) μ (k + 1) (tdZ (tdA μ t i).1) (nI (tdA μ t i).2) (nI i) = X11_isTold_L7 134 (nI t) μ k (tdZ (tdA μ t (i + 1)).1) (nI (tdA μ t (i + 1)).2) (nI (i + 1))
    rw [tdA_s]
    unfold tdF
    generalize tdA μ t i = a at *
    rw [X11_isTold_L7, gi_134 h, S.1.2.1, Option.bind_some, if_neg g]
    simp only [r_134_47 h, r_134_46 h, r_134_50 h, ai_171 h hi4, ai_170 h hi4, ai_174 h hi4, Option.bind_some, f0, f1, f4, nI_add1, bt_1]
    by_cases q : bt (nI (sv μ 1 i)) t = 0
    · have z : (if tdZ a.1 = 0 then (some 0 : Option Int32) else some 1) = some (tdZ a.1) := by
        unfold tdZ
        split <;> rfl
      simp only [q, Nat.zero_ne_one, if_false, if_true, z, Option.bind_some, Int32.or_zero]
    · have q1 : bt (nI (sv μ 1 i)) t = 1 := by have := bt_le (nI (sv μ 1 i)) t; omega
      simp only [q1, Nat.one_ne_zero, if_false, if_true, show ((1 : Int32) = 0) = False from by decide, c3, c1]
      by_cases e3 : sv μ 4 i = 3
      · have e1 : ¬ sv μ 4 i = 1 := by omega
        have z : (if tdZ a.1 = 0 then (some 0 : Option Int32) else some 1) = some (tdZ a.1) := by
          unfold tdZ
          split <;> rfl
        simp only [e3, if_true, z, Option.bind_some, show ((3 : Nat) = 1) = False from by decide, if_false, Int32.or_zero]
      · have z : (if tdZ a.1 = 0 then (some 1 : Option Int32) else some 1) = some 1 := by
          split <;> rfl
        have z2 : tdZ (a.1 + 1) = 1 := if_neg (by omega)
        by_cases e1 : sv μ 4 i = 1
        · simp only [e3, e1, if_true, if_false, z, z2, Option.bind_some, (or16 _ h1 _ (show sv μ 0 i < 4 by omega)).1, show ((1 : Nat) = 3) = False from by decide]
        · simp only [e3, e1, if_true, if_false, z, z2, Option.bind_some, Int32.or_zero]) (fun k a P => by
    show X11_isTold_L7 134 (nI t) μ (k + 1) (tdZ a.1) (nI a.2) (nI (sc μ)) = _
    rw [X11_isTold_L7, gi_134 h, S.1.2.1, Option.bind_some, if_pos (nI_le (Nat.le_refl _) (by omega))]) (0, 0) rfl
  subst P
  exact e
def tdV (μ : Mem) (t : Nat) : Nat := if tv μ 1 t = 3 then (if nI (tdA μ t (sc μ)).2 &&& (nI (tdA μ t (sc μ)).2 - 1) = 0 then 0 else 1) else (if (tdA μ t (sc μ)).1 = 0 then 0 else 1)
theorem bc16 : ∀ m, m < 16 → (J6_bitCount_0f7a4 (nI m) < 2 ↔ nI m &&& (nI m - 1) = 0) := by decide +kernel
theorem tdV_le (μ : Mem) (t : Nat) : tdV μ t ≤ 1 := by
  unfold tdV
  split <;> split <;> omega
theorem told_c {μ : Mem} (h : Ok μ) (T : RelT μ) (S : RelS μ) {t : Nat} (ht : t < 10) : X0_isTold 37 (nI t) μ = some (nI (tdV μ t)) := by
  have hc := S.1.2.2
  obtain ⟨h1, h2, h3⟩ := tdA_ok S t (sc μ) hc
  have b1 : tv μ 1 t ≤ 3 := (T.2.1 1 t (by decide) ht).2.2
  have c1 : nI (tv μ 1 t) = 3 ↔ tv μ 1 t = 3 := nI_eq (b := 3) (by omega) (by decide)
  have f1 := (T.2.1 1 t (by decide) ht).1
  unfold X0_isTold tdV
  rw [told_c7 h S, Option.bind_some]
  simp only [r_37_0 h, ar_things h ht, gi_T h ht, f1, Option.bind_some, c1, nI_0le (show (tdA μ t (sc μ)).1 < 2 ^ 31 by omega), bc16 _ h1]
  by_cases q : (tdA μ t (sc μ)).1 = 0
  · have q2 : (tdA μ t (sc μ)).2 = 0 := by
      by_cases z : (tdA μ t (sc μ)).2 = 0
      · exact z
      · exact absurd q (h2 z)
    rw [if_pos q, if_pos q, q2]
    by_cases q3 : tv μ 1 t = 3
    · rw [if_pos q3]
      rfl
    · rw [if_neg q3]
      rfl
  · rw [if_neg q, if_neg q]
    by_cases q3 : tv μ 1 t = 3
    · rw [if_pos q3, if_pos q3]
      by_cases q4 : nI (tdA μ t (sc μ)).2 &&& (nI (tdA μ t (sc μ)).2 - 1) = 0
      · rw [if_pos q4, if_pos q4]
        rfl
      · rw [if_neg q4, if_neg q4]
        rfl
    · rw [if_neg q3, if_neg q3]
      rfl
theorem told_m {μ : Mem} (h : Ok μ) (T : RelT μ) (S : RelS μ) {t : Nat} (ht : t < 10) : X11_isTold 134 (nI t) μ = some (nI (tdV μ t)) := by
  have b1 : tv μ 1 t ≤ 3 := (T.2.1 1 t (by decide) ht).2.2
  have c1 : nI (tv μ 1 t) = 3 ↔ tv μ 1 t = 3 := nI_eq (b := 3) (by omega) (by decide)
  have f1 := (T.2.1 1 t (by decide) ht).2.1
  unfold X11_isTold tdV
  rw [told_m7 h S, Option.bind_some]
  simp only [r_134_14 h, ai_146 h ht, f1, Option.bind_some, c1]
  by_cases q3 : tv μ 1 t = 3
  · rw [if_pos q3, if_pos q3]
    by_cases q4 : nI (tdA μ t (sc μ)).2 &&& (nI (tdA μ t (sc μ)).2 - 1) = 0
    · rw [if_pos q4, if_pos q4]
      rfl
    · rw [if_neg q4, if_neg q4]
      rfl
  · rw [if_neg q3, if_neg q3]
    unfold tdZ
    split <;> rfl
/-- 0 WAITING, 1 TOLD, 2 DEAD, 3 LATE -/
def stV (μ : Mem) (t : Nat) : Nat := if tv μ 8 t = 0 then (if tdV μ t = 0 then (if nw μ ≤ tv μ 6 t then 0 else 3) else 1) else 2
theorem stand_c {μ : Mem} (h : Ok μ) (W : RelW μ) (T : RelT μ) (S : RelS μ) {t : Nat} (ht : t < 10) : X0_standing 37 (nI t) (nI (nw μ)) μ = some (nI (stV μ t)) := by
  have hn := W.2.2.2.2.2.2.2
  have b8 : tv μ 8 t ≤ 1 := (T.2.1 8 t (by decide) ht).2.2
  have b6 : tv μ 6 t ≤ 60 := (T.2.1 6 t (by decide) ht).2.2
  have c8 : nI (tv μ 8 t) = 0 ↔ tv μ 8 t = 0 := nI_eq (b := 0) (by omega) (by decide)
  have cd : nI (tdV μ t) = 0 ↔ tdV μ t = 0 := nI_eq (b := 0) (by have := tdV_le μ t; omega) (by decide)
  have c6 : nI (nw μ) ≤ nI (tv μ 6 t) ↔ nw μ ≤ tv μ 6 t := nI_leI (by omega) (by omega)
  have f8 := (T.2.1 8 t (by decide) ht).1
  have f6 := (T.2.1 6 t (by decide) ht).1
  unfold X0_standing stV
  simp only [r_37_0 h, ar_things h ht, gi_T h ht, f8, f6, Option.bind_some, vo_37 h, told_c h T S ht, c8, cd, c6]
  by_cases q8 : tv μ 8 t = 0
  · by_cases qd : tdV μ t = 0
    · by_cases q6 : nw μ ≤ tv μ 6 t
      · simp only [q8, qd, q6, if_true]
        rfl
      · simp only [q8, qd, q6, if_true, if_false]
        rfl
    · simp only [q8, qd, if_true, if_false]
      rfl
  · simp only [q8, if_false]
    rfl
theorem stand_m {μ : Mem} (h : Ok μ) (W : RelW μ) (T : RelT μ) (S : RelS μ) {t : Nat} (ht : t < 10) : X11_stateOf 134 (nI t) μ = some (nI (stV μ t)) := by
  have hn := W.2.2.2.2.2.2.2
  have hw := W.2.2.2.2.2.2.1
  have b8 : tv μ 8 t ≤ 1 := (T.2.1 8 t (by decide) ht).2.2
  have b6 : tv μ 6 t ≤ 60 := (T.2.1 6 t (by decide) ht).2.2
  have c8 : nI (tv μ 8 t) = 0 ↔ tv μ 8 t = 0 := nI_eq (b := 0) (by omega) (by decide)
  have cd : nI (tdV μ t) = 0 ↔ tdV μ t = 0 := nI_eq (b := 0) (by have := tdV_le μ t; omega) (by decide)
  have c6 : nI (nw μ) ≤ nI (tv μ 6 t) ↔ nw μ ≤ tv μ 6 t := nI_leI (by omega) (by omega)
  have f8 := (T.2.1 8 t (by decide) ht).2.1
  have f6 := (T.2.1 6 t (by decide) ht).2.1
  unfold X11_stateOf stV
  simp only [r_134_21 h, r_134_19 h, az_153 h ht, ai_151 h ht, gi_134 h, hw, f8, f6, Option.bind_some, vo_134 h, told_m h T S ht, c8, cd, c6]
  by_cases q8 : tv μ 8 t = 0
  · by_cases qd : tdV μ t = 0
    · by_cases q6 : nw μ ≤ tv μ 6 t
      · simp only [q8, qd, q6, if_true]
        rfl
      · simp only [q8, qd, q6, if_true, if_false]
        rfl
    · simp only [q8, qd, if_true, if_false]
      rfl
  · simp only [q8, if_false]
    rfl
theorem stV_le (μ : Mem) (t : Nat) : stV μ t ≤ 3 := by
  unfold stV
  split
  · split
    · split <;> omega
    · omega
  · omega
theorem tdA_sm {μ μ' : Mem} (s : Sm μ μ') (t n : Nat) : tdA μ' t n = tdA μ t n := by
  unfold tdA
  refine itr_congr _ _ _ (fun j x _ _ => ?_)
  unfold tdF
  rw [sv_sm s (by decide), sv_sm s (by decide), sv_sm s (by decide)]
theorem stV_sm {μ μ' : Mem} (s : Sm μ μ') : stV μ' = stV μ := by
  funext t
  unfold stV tdV
  rw [tv_sm s (by decide), tv_sm s (by decide), tv_sm s (by decide), nw_sm s, sc_sm s, tdA_sm s]
def cnT (μ : Mem) (x : Nat) (n : Nat) : Nat := itr (fun t a => if stV μ t = x then a + 1 else a) 0 n 0
theorem cnT_s (μ : Mem) (x n : Nat) : cnT μ x (n + 1) = if stV μ n = x then cnT μ x n + 1 else cnT μ x n := by
  unfold cnT
  rw [itr_succ, Nat.zero_add]
theorem are_c {μ : Mem} (h : Ok μ) (W : RelW μ) (T : RelT μ) (S : RelS μ) {x : Nat} (hx : x ≤ 3) : X0_thingsThatAre 37 (nI x) (nI (nw μ)) μ = some (nI (cnT μ x (tn μ))) := by
  have hn := T.1.2.2
  obtain ⟨a, P, e⟩ := loopF (F := fun k (a : Nat) i => X0_thingsThatAre_L5 37 (nI x) (nI (nw μ)) μ k (nI a) (nI i)) (P := fun i a => a = cnT μ x i) (n := tn μ) (r := fun a => (nI a, nI (tn μ))) (by omega) (fun k a i hi P => by
    subst P
    have c : nI (stV μ i) = nI x ↔ stV μ i = x := nI_eq (by have := stV_le μ i; omega) (by omega)
    refine ⟨_, rfl, ?_⟩
    show X0_thingsThatAre_L5 37 (nI x) (nI (nw μ)) μ (k + 1) (nI (cnT μ x i)) (nI i) = X0_thingsThatAre_L5 37 (nI x) (nI (nw μ)) μ k (nI (cnT μ x (i + 1))) (nI (i + 1))
    rw [X0_thingsThatAre_L5, gi_37 h, T.1.1, Option.bind_some, if_neg (nI_ge hi (by omega)), vo_37 h, Option.bind_some, stand_c h W T S (by omega), Option.bind_some, Option.bind_some, cnT_s, nI_add1, nI_add1]
    by_cases q : stV μ i = x
    · rw [if_pos (c.mpr q), if_pos q]
    · rw [if_neg (fun z => q (c.mp z)), if_neg q]) (fun k a P => by
    show X0_thingsThatAre_L5 37 (nI x) (nI (nw μ)) μ (k + 1) (nI a) (nI (tn μ)) = _
    rw [X0_thingsThatAre_L5, gi_37 h, T.1.1, Option.bind_some, if_pos (nI_le (Nat.le_refl _) (by omega))]) 0 rfl
  subst P
  have e : X0_thingsThatAre_L5 37 (nI x) (nI (nw μ)) μ FU 0 0 = _ := e
  unfold X0_thingsThatAre
  rw [e, Option.bind_some]
theorem are_m {μ : Mem} (h : Ok μ) (W : RelW μ) (T : RelT μ) (S : RelS μ) {x : Nat} (hx : x ≤ 3) : X11_thingsThat 134 (nI x) μ = some (nI (cnT μ x (tn μ))) := by
  have hn := T.1.2.2
  obtain ⟨a, P, e⟩ := loopF (F := fun k (a : Nat) i => X11_thingsThat_L4 134 (nI x) μ k (nI a) (nI i)) (P := fun i a => a = cnT μ x i) (n := tn μ) (r := fun a => (nI a, nI (tn μ))) (by omega) (fun k a i hi P => by
    subst P
    have c : nI (stV μ i) = nI x ↔ stV μ i = x := nI_eq (by have := stV_le μ i; omega) (by omega)
    refine ⟨_, rfl, ?_⟩
    show X11_thingsThat_L4 134 (nI x) μ (k + 1) (nI (cnT μ x i)) (nI i) = X11_thingsThat_L4 134 (nI x) μ k (nI (cnT μ x (i + 1))) (nI (i + 1))
    rw [X11_thingsThat_L4, gi_134 h, T.1.2.1, Option.bind_some, if_neg (nI_ge hi (by omega)), vo_134 h, Option.bind_some, stand_m h W T S (by omega), Option.bind_some, Option.bind_some, Option.bind_some, cnT_s, nI_add1]
    by_cases q : stV μ i = x
    · rw [if_pos (c.mpr q), if_pos q, nI_add1]
    · rw [if_neg (fun z => q (c.mp z)), if_neg q, Int32.add_zero]) (fun k a P => by
    show X11_thingsThat_L4 134 (nI x) μ (k + 1) (nI a) (nI (tn μ)) = _
    rw [X11_thingsThat_L4, gi_134 h, T.1.2.1, Option.bind_some, if_pos (nI_le (Nat.le_refl _) (by omega))]) 0 rfl
  subst P
  have e : X11_thingsThat_L4 134 (nI x) μ FU 0 0 = _ := e
  unfold X11_thingsThat
  rw [e, Option.bind_some]
/-! ===== calls that change nothing and answer a number alone ===== -/
def PairV (fC fM : Mem → Option Int32) : Prop := ∀ μ, Inv μ → ∃ r, fC μ = some r ∧ fM μ = some r
theorem p_count (x1 : Int32) : PairV (X10_count 0 x1) (X11_count 134 x1) := by
  intro μ ⟨o, W, hC, hT, hS, hX, hL⟩
  have w6 := W.2.2.2.2.2
  unfold X10_count X11_count
  simp only [r_0_2 o, r_0_3 o, gi_0 o, gi_37 o, gi_90 o, gi_134 o, vo_37 o, vo_134 o, w6.1, w6.2.1, hT.1.1, hT.1.2.1, hS.1.1, hS.1.2.1, hX.1.1, hX.1.2.1, Option.bind_some, L0, L1, L2, L3, are_c o W hT hS (show 0 ≤ 3 by decide), are_c o W hT hS (show 1 ≤ 3 by decide), are_c o W hT hS (show 2 ≤ 3 by decide), are_c o W hT hS (show 3 ≤ 3 by decide), are_m o W hT hS (show 0 ≤ 3 by decide), are_m o W hT hS (show 1 ≤ 3 by decide), are_m o W hT hS (show 2 ≤ 3 by decide), are_m o W hT hS (show 3 ≤ 3 by decide)]
  repeat' split
  all_goals exact ⟨_, rfl, rfl⟩
theorem p_fault : PairV (X10_fault 0) (X11_fault 134) := by
  intro μ ⟨o, W, hC, hT, hS, hX, hL⟩
  unfold X10_fault X11_fault
  simp only [r_0_3 o, gi_90 o, gi_134 o, Option.bind_some, hX.2.2]
  exact ⟨_, rfl, rfl⟩
theorem p_told (x1 x2 : Int32) : PairV (X10_told 0 x1 x2) (X11_told 134 x1 x2) := by
  intro μ ⟨o, W, hC, hT, hS, hX, hL⟩
  have w6 := W.2.2.2.2.2
  have hn := hT.1.2.2
  unfold X10_told X11_told
  simp only [r_0_2 o, vo_37 o, vo_134 o, Option.bind_some]
  rcases gT o hT x1 with ⟨g1, k1⟩ | ⟨g1, k1, t, ht, rfl⟩
  · rw [g1, k1]
    exact ⟨_, rfl, rfl⟩
  · have t10 : t < 10 := by omega
    have f := fun c hc => (hT.2.1 c t hc t10).1
    have m0 := (hT.2.1 0 t (by decide) t10).2.1
    have m1 := (hT.2.1 1 t (by decide) t10).2.1
    have m2 := (hT.2.1 2 t (by decide) t10).2.1
    have m3 := (hT.2.1 3 t (by decide) t10).2.1
    have m6 := (hT.2.1 6 t (by decide) t10).2.1
    have m7 := (hT.2.1 7 t (by decide) t10).2.1
    rw [g1, k1]
    simp only [r_37_0 o, ar_things o t10, gi_0 o, gi_T o t10, r_134_13 o, r_134_14 o, r_134_15 o, r_134_16 o, r_134_19 o, r_134_20 o, ai_145 o t10, ai_146 o t10, ai_147 o t10, ai_148 o t10, ai_151 o t10, ai_152 o t10, w6.1, Option.bind_some, f 0 (by decide), f 1 (by decide), f 2 (by decide), f 3 (by decide), f 6 (by decide), f 7 (by decide), m0, m1, m2, m3, m6, m7, stand_c o W hT hS t10, stand_m o W hT hS t10, with_c o hS, with_m o hS]
    repeat' split
    all_goals exact ⟨_, rfl, rfl⟩
