set_option maxRecDepth 100000 in
set_option maxHeartbeats 4000000 in
theorem wk_X9_factor {G : GL} {X : CX} {x0 : Int32} {x1 : Int32} {μ : Mem} (C : Ctx G X cX9_factor 2 RX9 rm_X9_factor) (hret : RtJ G 2 X cX9_factor 0 0 (X9_factor x0 x1) μ) : AW G 2 X 0 0 0 [(0, .int x0), (1, .int x1)] [] μ := by
  unfold X9_factor at hret
  refine aw_iload_n C 1 dX9_factor_0 rfl rfl ?_
  have kj1 : ∀ (q1_0 : Int64), q1_0 = (if x1 = 0 then x0.toInt64 else if x0 ≤ 0 then x0.toInt64 else 1) → AW G 2 X 0 0 14 [] [.long q1_0] μ := by
    rintro _ rfl
    exact hret _ _ dX9_factor_14
  refine aw_if_eq C 12 dX9_factor_1 (by decide) (fun c1 => ?_) (fun c1 => ?_)
  · refine aw_iload_n C 0 dX9_factor_12 rfl rfl ?_
    refine aw_i2l C dX9_factor_13 ?_
    exact aw_sub [] rfl (kj1 _ (by simp only [if_pos c1]))
  · refine aw_iload_n C 0 dX9_factor_4 rfl rfl ?_
    refine aw_if_le C 12 dX9_factor_5 (by decide) (fun c2 => ?_) (fun c2 => ?_)
    · refine aw_iload_n C 0 dX9_factor_12 rfl rfl ?_
      refine aw_i2l C dX9_factor_13 ?_
      exact aw_sub [] rfl (kj1 _ (by simp only [if_neg c1, if_pos c2]))
    · refine aw_lconst C 1 dX9_factor_8 (by decide) ?_
      refine aw_goto C 14 dX9_factor_9 (by decide) ?_
      exact aw_sub [] rfl (kj1 _ (by simp only [if_neg c1, if_neg c2]))
set_option maxRecDepth 100000 in
set_option maxHeartbeats 4000000 in
theorem mt_X9_factor {G : GL} {l : Launch} (x0 : Int32) (x1 : Int32) {μ : Mem} : MtJ G l yX9_factor cX9_factor 2 (some .long) rm_X9_factor false [.int x0, .int x1] μ (X9_factor x0 x1) μ := met_J (by decide) rfl (Nat.le_of_ble_eq_true rfl) (fun X _ C _ _ hret => wk_X9_factor C hret)
set_option maxRecDepth 100000 in
set_option maxHeartbeats 4000000 in
theorem wk_X9_signFactor {G : GL} {X : CX} {a0 : Nat} {x1 : Int32} {x2 : Int32} {x3 : Int32} {μ : Mem} {r : Int64} (C : Ctx G X cX9_signFactor 4 RX9 rm_X9_signFactor) (h : X9_signFactor a0 x1 x2 x3 μ = some r) (hret : RtJ G 4 X cX9_signFactor 0 0 r μ) : AW G 4 X 0 0 0 [(0, .ref (gZ G + a0)), (1, .int x1), (2, .int x2), (3, .int x3)] [] μ := by
  unfold X9_signFactor at h
  refine aw_iload_n C 2 dX9_signFactor_0 rfl rfl ?_
  obtain ⟨z6, hz6, h⟩ := bindE h
  have kj1 : AW G 4 X 0 0 25 [] [.long z6] μ := by
    have e9 := inj1 h
    subst e9
    exact hret _ _ dX9_signFactor_25
  replace h := hz6
  refine aw_if_lt C 9 dX9_signFactor_1 (by decide) (fun c1 => ?_) (fun c1 => ?_)
  · rw [if_pos c1] at h
    refine aw_lconst C 1 dX9_signFactor_9 (by decide) ?_
    refine aw_goto C 25 dX9_signFactor_10 (by decide) ?_
    have e9 := inj1 h
    subst e9
    exact aw_sub [] rfl kj1
  · rw [if_neg c1] at h
    refine aw_iload_n C 2 dX9_signFactor_4 rfl rfl ?_
    refine aw_iconst C 4 dX9_signFactor_5 (by decide) ?_
    refine aw_icmp_lt C 13 dX9_signFactor_6 (by decide) (fun c2 => ?_) (fun c2 => ?_)
    · rw [if_pos c2] at h
      refine aw_aload_n C 0 dX9_signFactor_13 rfl rfl ?_
      obtain ⟨v3, hv3, h⟩ := bindE h
      refine aw_gR C fl_X9_16 rfl hv3 dX9_signFactor_14 ?_
      refine aw_iload_n C 1 dX9_signFactor_17 rfl rfl ?_
      obtain ⟨v4, hv4, h⟩ := bindE h
      refine aw_aR C (by decide) (ty := .array .int) rfl rfl hv4 dX9_signFactor_18 ?_
      refine aw_iload_n C 2 dX9_signFactor_19 rfl rfl ?_
      obtain ⟨v5, hv5, h⟩ := bindE h
      refine aw_aI C hv5 dX9_signFactor_20 ?_
      refine aw_iload_n C 3 dX9_signFactor_21 rfl rfl ?_
      refine aw_cS_J C [.int v5, .int x3] _ (mt_X9_factor _ _) cs_X9_factor ml_X9_58 st_X9_factor ⟨by decide, by decide⟩ ⟨rfl, rfl⟩ ⟨Nat.zero_le _, Nat.zero_le _⟩ rfl rfl (Nat.le_of_ble_eq_true rfl) dX9_signFactor_22 ?_
      have e9 := inj1 h
      subst e9
      exact aw_sub [] rfl kj1
    · rw [if_neg c2] at h
      refine aw_lconst C 1 dX9_signFactor_9 (by decide) ?_
      refine aw_goto C 25 dX9_signFactor_10 (by decide) ?_
      have e9 := inj1 h
      subst e9
      exact aw_sub [] rfl kj1
set_option maxRecDepth 100000 in
set_option maxHeartbeats 4000000 in
theorem mt_X9_signFactor {G : GL} {l : Launch} {a0 : Nat} {x1 : Int32} {x2 : Int32} {x3 : Int32} {μ : Mem} {r : Int64} (h : X9_signFactor a0 x1 x2 x3 μ = some r) : MtJ G l yX9_signFactor cX9_signFactor 4 (some .long) rm_X9_signFactor false [.ref (gZ G + a0), .int x1, .int x2, .int x3] μ r μ := met_J (by decide) rfl (Nat.le_of_ble_eq_true rfl) (fun X _ C _ _ hret => wk_X9_signFactor C h hret)
set_option maxRecDepth 100000 in
set_option maxHeartbeats 4000000 in
theorem X9_weigh_L19_ok {G : GL} {X : CX} (C : Ctx G X cX9_weigh 10 RX9 rm_X9_weigh) (a0 : Nat) (x1 : Int32) (x2 : Int32) (x3 : Int32) (x4 : Int32) : ∀ (n : Nat) (x5 : Int32) (μ : Mem) (z : Int32 × Mem), X9_weigh_L19 a0 x1 x2 x3 x4 n x5 μ = some z → AW G 10 X 0 0 66 [(0, .ref (gZ G + a0)), (1, .int x1), (2, .int x2), (3, .int x3), (4, .int x4), (5, .int z.1)] [] z.2 → AW G 10 X 0 0 19 [(0, .ref (gZ G + a0)), (1, .int x1), (2, .int x2), (3, .int x3), (4, .int x4), (5, .int x5)] [] μ := by
  intro n
  induction n with
  | zero =>
    intro x5 μ z h kx
    rw [X9_weigh_L19] at h
    cases h
  | succ n ih =>
    intro x5 μ z h kx
    rw [X9_weigh_L19] at h
    refine aw_iload C 5 dX9_weigh_19 rfl ?_
    refine aw_iconst C 4 dX9_weigh_21 (by decide) ?_
    refine aw_icmp_ge C 66 dX9_weigh_22 (by decide) (fun c1 => ?_) (fun c1 => ?_)
    · rw [if_pos c1] at h
      have e9 := inj1 h
      subst e9
      exact aw_sub [0, 1, 2, 3, 4, 5] rfl kx
    · rw [if_neg c1] at h
      refine aw_aload_n C 0 dX9_weigh_25 rfl rfl ?_
      obtain ⟨v2, hv2, h⟩ := bindE h
      refine aw_gR C fl_X9_29 rfl hv2 dX9_weigh_26 ?_
      refine aw_iload C 5 dX9_weigh_29 rfl ?_
      refine aw_aload_n C 0 dX9_weigh_31 rfl rfl ?_
      obtain ⟨v3, hv3, h⟩ := bindE h
      refine aw_gR C fl_X9_19 rfl hv3 dX9_weigh_32 ?_
      refine aw_iload C 5 dX9_weigh_35 rfl ?_
      obtain ⟨v4, hv4, h⟩ := bindE h
      refine aw_aI C hv4 dX9_weigh_37 ?_
      refine aw_iload_n C 3 dX9_weigh_38 rfl rfl ?_
      refine aw_cS_J C [.int v4, .int x3] _ (mt_X9_factor _ _) cs_X9_factor ml_X9_58 st_X9_factor ⟨by decide, by decide⟩ ⟨rfl, rfl⟩ ⟨Nat.zero_le _, Nat.zero_le _⟩ rfl rfl (Nat.le_of_ble_eq_true rfl) dX9_weigh_39 ?_
      refine aw_aload_n C 0 dX9_weigh_42 rfl rfl ?_
      refine aw_iload C 5 dX9_weigh_43 rfl ?_
      refine aw_aload_n C 0 dX9_weigh_45 rfl rfl ?_
      obtain ⟨v5, hv5, h⟩ := bindE h
      refine aw_gR C fl_X9_23 rfl hv5 dX9_weigh_46 ?_
      refine aw_iload_n C 1 dX9_weigh_49 rfl rfl ?_
      obtain ⟨v6, hv6, h⟩ := bindE h
      refine aw_aR C (by decide) (ty := .array .int) rfl rfl hv6 dX9_weigh_50 ?_
      refine aw_iload C 4 dX9_weigh_51 rfl ?_
      obtain ⟨v7, hv7, h⟩ := bindE h
      refine aw_aI C hv7 dX9_weigh_53 ?_
      refine aw_iload_n C 3 dX9_weigh_54 rfl rfl ?_
      obtain ⟨g8, hg8, h⟩ := bindE h
      obtain ⟨v9, hv9, h⟩ := bindE h
      refine aw_cV_J C [.int x5, .int v7, .int x3] _ (mt_X9_signFactor hv9) cs_X9_signFactor ml_X9_62 im_X9_signFactor se_X9_signFactor (ci := 9) rfl rfl hg8 ⟨by decide, by decide⟩ ⟨rfl, rfl⟩ ⟨Nat.zero_le _, Nat.zero_le _⟩ rfl rfl (Nat.le_of_ble_eq_true rfl) dX9_weigh_55 ?_
      refine aw_lmul C dX9_weigh_58 ?_
      obtain ⟨μ10, hμ10, h⟩ := bindE h
      refine aw_sJ C hμ10 dX9_weigh_59 ?_
      refine aw_iinc C (x5 + 1) 5 [(5, .int (x5 + 1)), (0, .ref (gZ G + a0)), (1, .int x1), (2, .int x2), (3, .int x3), (4, .int x4)] dX9_weigh_60 rfl rfl (by decide) rfl ?_
      refine aw_goto C 19 dX9_weigh_63 (by decide) ?_
      exact aw_sub [1, 2, 3, 4, 5, 0] rfl (ih _ _ _ h kx)
set_option maxRecDepth 100000 in
set_option maxHeartbeats 4000000 in
theorem X9_weigh_L93_ok {G : GL} {X : CX} (C : Ctx G X cX9_weigh 10 RX9 rm_X9_weigh) (a0 : Nat) (x1 : Int32) (x2 : Int32) (x3 : Int32) (x5 : Int32) (x6 : Int32) (μ : Mem) : ∀ (n : Nat) (j7 : Int64) (x9 : Int32) (z : Int64 × Int32), X9_weigh_L93 a0 x1 x2 x3 x5 x6 μ n j7 x9 = some z → AW G 10 X 0 0 132 [(0, .ref (gZ G + a0)), (1, .int x1), (2, .int x2), (3, .int x3), (5, .int x5), (6, .int x6), (7, .long z.1), (9, .int z.2)] [] μ → AW G 10 X 0 0 93 [(0, .ref (gZ G + a0)), (1, .int x1), (2, .int x2), (3, .int x3), (5, .int x5), (6, .int x6), (7, .long j7), (9, .int x9)] [] μ := by
  intro n
  induction n with
  | zero =>
    intro j7 x9 z h kx
    rw [X9_weigh_L93] at h
    cases h
  | succ n ih =>
    intro j7 x9 z h kx
    rw [X9_weigh_L93] at h
    refine aw_iload C 7 dX9_weigh_93 rfl ?_
    refine aw_iconst C 4 dX9_weigh_95 (by decide) ?_
    refine aw_icmp_ge C 132 dX9_weigh_96 (by decide) (fun c1 => ?_) (fun c1 => ?_)
    · rw [if_pos c1] at h
      have e9 := inj1 h
      subst e9
      exact aw_sub [0, 1, 2, 3, 4, 5, 6, 7] rfl kx
    · rw [if_neg c1] at h
      refine aw_lload C 6 dX9_weigh_99 rfl ?_
      refine aw_aload_n C 0 dX9_weigh_101 rfl rfl ?_
      obtain ⟨v2, hv2, h⟩ := bindE h
      refine aw_gR C fl_X9_29 rfl hv2 dX9_weigh_102 ?_
      refine aw_iload C 7 dX9_weigh_105 rfl ?_
      obtain ⟨v3, hv3, h⟩ := bindE h
      refine aw_aJ C hv3 dX9_weigh_107 ?_
      refine aw_aload_n C 0 dX9_weigh_108 rfl rfl ?_
      obtain ⟨v4, hv4, h⟩ := bindE h
      refine aw_gR C fl_X9_11 rfl hv4 dX9_weigh_109 ?_
      refine aw_iload C 7 dX9_weigh_112 rfl ?_
      obtain ⟨v5, hv5, h⟩ := bindE h
      refine aw_aR C (by decide) (ty := .array .int) rfl rfl hv5 dX9_weigh_114 ?_
      refine aw_iload C 5 dX9_weigh_115 rfl ?_
      obtain ⟨v6, hv6, h⟩ := bindE h
      refine aw_aI C hv6 dX9_weigh_117 ?_
      refine aw_iload_n C 3 dX9_weigh_118 rfl rfl ?_
      refine aw_cS_J C [.int v6, .int x3] _ (mt_X9_factor _ _) cs_X9_factor ml_X9_58 st_X9_factor ⟨by decide, by decide⟩ ⟨rfl, rfl⟩ ⟨Nat.zero_le _, Nat.zero_le _⟩ rfl rfl (Nat.le_of_ble_eq_true rfl) dX9_weigh_119 ?_
      refine aw_lmul C dX9_weigh_122 ?_
      refine aw_ladd C dX9_weigh_123 ?_
      obtain ⟨v7, ev7, h⟩ := bindS h
      refine aw_topj ev7 ?_
      refine aw_lstore C [(7, .long v7), (0, .ref (gZ G + a0)), (1, .int x1), (2, .int x2), (3, .int x3), (5, .int x5), (6, .int x6), (9, .int x9)] dX9_weigh_124 (by decide) rfl ?_
      refine aw_iinc C (x9 + 1) 7 [(9, .int (x9 + 1)), (7, .long v7), (0, .ref (gZ G + a0)), (1, .int x1), (2, .int x2), (3, .int x3), (5, .int x5), (6, .int x6)] dX9_weigh_126 rfl rfl (by decide) rfl ?_
      refine aw_goto C 93 dX9_weigh_129 (by decide) ?_
      exact aw_sub [2, 3, 4, 5, 6, 7, 1, 0] rfl (ih _ _ _ h kx)
set_option maxRecDepth 100000 in
set_option maxHeartbeats 4000000 in
theorem X9_weigh_L81_ok {G : GL} {X : CX} (C : Ctx G X cX9_weigh 10 RX9 rm_X9_weigh) (a0 : Nat) (x1 : Int32) (x2 : Int32) (x3 : Int32) (x5 : Int32) : ∀ (n : Nat) (x6 : Int32) (μ : Mem) (z : Int32 × Mem), X9_weigh_L81 a0 x1 x2 x3 x5 n x6 μ = some z → AW G 10 X 0 0 164 [(0, .ref (gZ G + a0)), (1, .int x1), (2, .int x2), (3, .int x3), (5, .int x5), (6, .int z.1)] [] z.2 → AW G 10 X 0 0 81 [(0, .ref (gZ G + a0)), (1, .int x1), (2, .int x2), (3, .int x3), (5, .int x5), (6, .int x6)] [] μ := by
  intro n
  induction n with
  | zero =>
    intro x6 μ z h kx
    rw [X9_weigh_L81] at h
    cases h
  | succ n ih =>
    intro x6 μ z h kx
    rw [X9_weigh_L81] at h
    refine aw_iload C 5 dX9_weigh_81 rfl ?_
    refine aw_iconst C 4 dX9_weigh_83 (by decide) ?_
    refine aw_icmp_ge C 164 dX9_weigh_84 (by decide) (fun c1 => ?_) (fun c1 => ?_)
    · rw [if_pos c1] at h
      have e9 := inj1 h
      subst e9
      exact aw_sub [0, 1, 2, 3, 4, 5] rfl kx
    · rw [if_neg c1] at h
      refine aw_lconst C 0 dX9_weigh_87 (by decide) ?_
      refine aw_lstore C [(7, .long 0), (0, .ref (gZ G + a0)), (1, .int x1), (2, .int x2), (3, .int x3), (5, .int x5), (6, .int x6)] dX9_weigh_88 (by decide) rfl ?_
      refine aw_iconst C 0 dX9_weigh_90 (by decide) ?_
      refine aw_istore C [(9, .int 0), (7, .long 0), (0, .ref (gZ G + a0)), (1, .int x1), (2, .int x2), (3, .int x3), (5, .int x5), (6, .int x6)] dX9_weigh_91 (by decide) rfl ?_
      obtain ⟨z2, hz2, h⟩ := bindE h
      refine aw_sub [2, 3, 4, 5, 6, 7, 1, 0] rfl ?_
      refine X9_weigh_L93_ok C _ _ _ _ _ _ _ _ _ _ _ hz2 ?_
      refine aw_aload_n C 0 dX9_weigh_132 rfl rfl ?_
      obtain ⟨v3, hv3, h⟩ := bindE h
      refine aw_gR C fl_X9_33 rfl hv3 dX9_weigh_133 ?_
      refine aw_iload C 5 dX9_weigh_136 rfl ?_
      refine aw_lload C 6 dX9_weigh_138 rfl ?_
      refine aw_aload_n C 0 dX9_weigh_140 rfl rfl ?_
      refine aw_iload C 5 dX9_weigh_141 rfl ?_
      refine aw_aload_n C 0 dX9_weigh_143 rfl rfl ?_
      obtain ⟨v4, hv4, h⟩ := bindE h
      refine aw_gR C fl_X9_23 rfl hv4 dX9_weigh_144 ?_
      refine aw_iload_n C 1 dX9_weigh_147 rfl rfl ?_
      obtain ⟨v5, hv5, h⟩ := bindE h
      refine aw_aR C (by decide) (ty := .array .int) rfl rfl hv5 dX9_weigh_148 ?_
      refine aw_iload C 4 dX9_weigh_149 rfl ?_
      obtain ⟨v6, hv6, h⟩ := bindE h
      refine aw_aI C hv6 dX9_weigh_151 ?_
      refine aw_iload_n C 3 dX9_weigh_152 rfl rfl ?_
      obtain ⟨g7, hg7, h⟩ := bindE h
      obtain ⟨v8, hv8, h⟩ := bindE h
      refine aw_cV_J C [.int x6, .int v6, .int x3] _ (mt_X9_signFactor hv8) cs_X9_signFactor ml_X9_62 im_X9_signFactor se_X9_signFactor (ci := 9) rfl rfl hg7 ⟨by decide, by decide⟩ ⟨rfl, rfl⟩ ⟨Nat.zero_le _, Nat.zero_le _⟩ rfl rfl (Nat.le_of_ble_eq_true rfl) dX9_weigh_153 ?_
      refine aw_lmul C dX9_weigh_156 ?_
      obtain ⟨μ9, hμ9, h⟩ := bindE h
      refine aw_sJ C hμ9 dX9_weigh_157 ?_
      refine aw_iinc C (x6 + 1) 5 [(6, .int (x6 + 1)), (0, .ref (gZ G + a0)), (1, .int x1), (2, .int x2), (3, .int x3), (5, .int x5), (7, .long z2.1), (9, .int z2.2)] dX9_weigh_158 rfl rfl (by decide) rfl ?_
      refine aw_goto C 81 dX9_weigh_161 (by decide) ?_
      exact aw_sub [1, 2, 3, 4, 5, 0] rfl (ih _ _ _ h kx)
set_option maxRecDepth 100000 in
set_option maxHeartbeats 4000000 in
theorem X9_weigh_L72_ok {G : GL} {X : CX} (C : Ctx G X cX9_weigh 10 RX9 rm_X9_weigh) (a0 : Nat) (x1 : Int32) (x2 : Int32) (x3 : Int32) : ∀ (n : Nat) (x5 : Int32) (μ : Mem) (z : Int32 × Mem), X9_weigh_L72 a0 x1 x2 x3 n x5 μ = some z → AW G 10 X 0 0 190 [(0, .ref (gZ G + a0)), (1, .int x1), (2, .int x2), (3, .int x3), (5, .int z.1)] [] z.2 → AW G 10 X 0 0 72 [(0, .ref (gZ G + a0)), (1, .int x1), (2, .int x2), (3, .int x3), (5, .int x5)] [] μ := by
  intro n
  induction n with
  | zero =>
    intro x5 μ z h kx
    rw [X9_weigh_L72] at h
    cases h
  | succ n ih =>
    intro x5 μ z h kx
    rw [X9_weigh_L72] at h
    refine aw_iload C 4 dX9_weigh_72 rfl ?_
    refine aw_iload_n C 2 dX9_weigh_74 rfl rfl ?_
    refine aw_icmp_gt C 190 dX9_weigh_75 (by decide) (fun c1 => ?_) (fun c1 => ?_)
    · rw [if_pos c1] at h
      have e9 := inj1 h
      subst e9
      exact aw_sub [0, 1, 2, 3, 4] rfl kx
    · rw [if_neg c1] at h
      refine aw_iconst C 0 dX9_weigh_78 (by decide) ?_
      refine aw_istore C [(6, .int 0), (0, .ref (gZ G + a0)), (1, .int x1), (2, .int x2), (3, .int x3), (5, .int x5)] dX9_weigh_79 (by decide) rfl ?_
      obtain ⟨z2, hz2, h⟩ := bindE h
      refine aw_sub [1, 2, 3, 4, 5, 0] rfl ?_
      refine X9_weigh_L81_ok C _ _ _ _ _ _ _ _ _ hz2 ?_
      refine aw_aload_n C 0 dX9_weigh_164 rfl rfl ?_
      obtain ⟨v3, hv3, h⟩ := bindE h
      refine aw_gR C fl_X9_29 rfl hv3 dX9_weigh_165 ?_
      refine aw_astore C [(6, .ref (gZ G + v3)), (0, .ref (gZ G + a0)), (1, .int x1), (2, .int x2), (3, .int x3), (5, .int x5)] dX9_weigh_168 (by decide) rfl ?_
      refine aw_aload_n C 1 dX9_weigh_170 rfl rfl ?_
      refine aw_aload_n C 1 dX9_weigh_171 rfl rfl ?_
      obtain ⟨v4, hv4, h⟩ := bindE h
      refine aw_gR C fl_X9_33 rfl hv4 dX9_weigh_172 ?_
      obtain ⟨μ5, hμ5, h⟩ := bindE h
      refine aw_pR C fl_X9_29 rfl rfl rfl hμ5 dX9_weigh_175 ?_
      refine aw_aload_n C 1 dX9_weigh_178 rfl rfl ?_
      refine aw_aload C 0 dX9_weigh_179 rfl ?_
      obtain ⟨μ6, hμ6, h⟩ := bindE h
      refine aw_pR C fl_X9_33 rfl rfl rfl hμ6 dX9_weigh_181 ?_
      refine aw_iinc C (x5 + 1) 5 [(5, .int (x5 + 1)), (6, .ref (gZ G + v3)), (0, .ref (gZ G + a0)), (1, .int x1), (2, .int x2), (3, .int x3)] dX9_weigh_184 rfl rfl (by decide) rfl ?_
      refine aw_goto C 72 dX9_weigh_187 (by decide) ?_
      exact aw_sub [2, 3, 4, 5, 0] rfl (ih _ _ _ h kx)
set_option maxRecDepth 100000 in
set_option maxHeartbeats 4000000 in
theorem wk_X9_weigh {G : GL} {X : CX} {a0 : Nat} {x1 : Int32} {x2 : Int32} {x3 : Int32} {μ : Mem} {μ' : Mem} (C : Ctx G X cX9_weigh 10 RX9 rm_X9_weigh) (h : X9_weigh a0 x1 x2 x3 μ = some μ') (hret : RtV G 10 X cX9_weigh 0 0 μ') : AW G 10 X 0 0 0 [(0, .ref (gZ G + a0)), (1, .int x1), (2, .int x2), (3, .int x3)] [] μ := by
  unfold X9_weigh at h
  refine aw_iload_n C 2 dX9_weigh_0 rfl rfl ?_
  refine aw_bipush C 6 dX9_weigh_1 (by decide) ?_
  obtain ⟨v2, ev2, h⟩ := bindS h
  have kj3 : AW G 10 X 0 0 14 [(0, .ref (gZ G + a0)), (1, .int x1), (2, .int x2), (3, .int x3)] [.int v2] μ := by
    refine aw_istore C [(4, .int v2), (0, .ref (gZ G + a0)), (1, .int x1), (2, .int x2), (3, .int x3)] dX9_weigh_14 (by decide) rfl ?_
    refine aw_iconst C 0 dX9_weigh_16 (by decide) ?_
    refine aw_istore C [(5, .int 0), (4, .int v2), (0, .ref (gZ G + a0)), (1, .int x1), (2, .int x2), (3, .int x3)] dX9_weigh_17 (by decide) rfl ?_
    obtain ⟨z3, hz3, h⟩ := bindE h
    refine aw_sub [2, 3, 4, 5, 1, 0] rfl ?_
    refine X9_weigh_L19_ok C _ _ _ _ _ _ _ _ _ hz3 ?_
    refine aw_iload C 4 dX9_weigh_66 rfl ?_
    refine aw_iconst C 1 dX9_weigh_68 (by decide) ?_
    refine aw_iadd C dX9_weigh_69 ?_
    obtain ⟨v4, ev4, h⟩ := bindS h
    refine aw_topi ev4 ?_
    refine aw_istore C [(5, .int v4), (0, .ref (gZ G + a0)), (1, .int x1), (2, .int x2), (3, .int x3), (4, .int v2)] dX9_weigh_70 (by decide) rfl ?_
    obtain ⟨z5, hz5, h⟩ := bindE h
    refine aw_sub [1, 2, 3, 4, 0] rfl ?_
    refine X9_weigh_L72_ok C _ _ _ _ _ _ _ _ hz5 ?_
    have e9 := inj1 h
    subst e9
    exact hret _ _ dX9_weigh_190
  clear h
  refine aw_icmp_le C 13 dX9_weigh_3 (by decide) (fun c1 => ?_) (fun c1 => ?_)
  · refine aw_iconst C 0 dX9_weigh_13 (by decide) ?_
    rw [if_pos c1] at ev2
    subst ev2
    exact aw_sub [0, 1, 2, 3] rfl kj3
  · refine aw_iload_n C 2 dX9_weigh_6 rfl rfl ?_
    refine aw_bipush C 6 dX9_weigh_7 (by decide) ?_
    refine aw_isub C dX9_weigh_9 ?_
    refine aw_goto C 14 dX9_weigh_10 (by decide) ?_
    rw [if_neg c1] at ev2
    subst ev2
    exact aw_sub [0, 1, 2, 3] rfl kj3
set_option maxRecDepth 100000 in
set_option maxHeartbeats 4000000 in
theorem mt_X9_weigh {G : GL} {l : Launch} {a0 : Nat} {x1 : Int32} {x2 : Int32} {x3 : Int32} {μ : Mem} {μ' : Mem} (h : X9_weigh a0 x1 x2 x3 μ = some μ') : MtV G l yX9_weigh cX9_weigh 10 none rm_X9_weigh false [.ref (gZ G + a0), .int x1, .int x2, .int x3] μ μ' := met_V (by decide) rfl (Nat.le_of_ble_eq_true rfl) (fun X _ C _ _ hret => wk_X9_weigh C h hret)
set_option maxRecDepth 100000 in
set_option maxHeartbeats 4000000 in
theorem wk_X9_allWeights {G : GL} {X : CX} {a0 : Nat} {μ : Mem} {r : Int64} (C : Ctx G X cX9_allWeights 1 RX9 rm_X9_allWeights) (h : X9_allWeights a0 μ = some r) (hret : RtJ G 1 X cX9_allWeights 0 0 r μ) : AW G 1 X 0 0 0 [(0, .ref (gZ G + a0))] [] μ := by
  unfold X9_allWeights at h
  refine aw_aload_n C 0 dX9_allWeights_0 rfl rfl ?_
  obtain ⟨v1, hv1, h⟩ := bindE h
  refine aw_gR C fl_X9_29 rfl hv1 dX9_allWeights_1 ?_
  refine aw_iconst C 0 dX9_allWeights_4 (by decide) ?_
  obtain ⟨v2, hv2, h⟩ := bindE h
  refine aw_aJ C hv2 dX9_allWeights_5 ?_
  refine aw_aload_n C 0 dX9_allWeights_6 rfl rfl ?_
  obtain ⟨v3, hv3, h⟩ := bindE h
  refine aw_gR C fl_X9_29 rfl hv3 dX9_allWeights_7 ?_
  refine aw_iconst C 1 dX9_allWeights_10 (by decide) ?_
  obtain ⟨v4, hv4, h⟩ := bindE h
  refine aw_aJ C hv4 dX9_allWeights_11 ?_
  refine aw_ladd C dX9_allWeights_12 ?_
  refine aw_aload_n C 0 dX9_allWeights_13 rfl rfl ?_
  obtain ⟨v5, hv5, h⟩ := bindE h
  refine aw_gR C fl_X9_29 rfl hv5 dX9_allWeights_14 ?_
  refine aw_iconst C 2 dX9_allWeights_17 (by decide) ?_
  obtain ⟨v6, hv6, h⟩ := bindE h
  refine aw_aJ C hv6 dX9_allWeights_18 ?_
  refine aw_ladd C dX9_allWeights_19 ?_
  refine aw_aload_n C 0 dX9_allWeights_20 rfl rfl ?_
  obtain ⟨v7, hv7, h⟩ := bindE h
  refine aw_gR C fl_X9_29 rfl hv7 dX9_allWeights_21 ?_
  refine aw_iconst C 3 dX9_allWeights_24 (by decide) ?_
  obtain ⟨v8, hv8, h⟩ := bindE h
  refine aw_aJ C hv8 dX9_allWeights_25 ?_
  refine aw_ladd C dX9_allWeights_26 ?_
  have e9 := inj1 h
  subst e9
  exact hret _ _ dX9_allWeights_27
set_option maxRecDepth 100000 in
set_option maxHeartbeats 4000000 in
theorem mt_X9_allWeights {G : GL} {l : Launch} {a0 : Nat} {μ : Mem} {r : Int64} (h : X9_allWeights a0 μ = some r) : MtJ G l yX9_allWeights cX9_allWeights 1 (some .long) rm_X9_allWeights false [.ref (gZ G + a0)] μ r μ := met_J (by decide) rfl (Nat.le_of_ble_eq_true rfl) (fun X _ C _ _ hret => wk_X9_allWeights C h hret)
set_option maxRecDepth 100000 in
set_option maxHeartbeats 4000000 in
theorem X9_moveOn_L2_ok {G : GL} {X : CX} (C : Ctx G X cX9_moveOn 6 RX9 rm_X9_moveOn) (a0 : Nat) (a1 : Nat) (a2 : Nat) : ∀ (n : Nat) (x3 : Int32) (μ : Mem) (z : Int32 × Mem), X9_moveOn_L2 a0 a1 a2 n x3 μ = some z → AW G 6 X 0 0 17 [(0, .ref (gZ G + a0)), (1, .ref (gZ G + a1)), (2, .ref (gZ G + a2)), (3, .int z.1)] [] z.2 → AW G 6 X 0 0 2 [(0, .ref (gZ G + a0)), (1, .ref (gZ G + a1)), (2, .ref (gZ G + a2)), (3, .int x3)] [] μ := by
  intro n
  induction n with
  | zero =>
    intro x3 μ z h kx
    rw [X9_moveOn_L2] at h
    cases h
  | succ n ih =>
    intro x3 μ z h kx
    rw [X9_moveOn_L2] at h
    refine aw_iload_n C 3 dX9_moveOn_2 rfl rfl ?_
    refine aw_iconst C 4 dX9_moveOn_3 (by decide) ?_
    refine aw_icmp_ge C 17 dX9_moveOn_4 (by decide) (fun c1 => ?_) (fun c1 => ?_)
    · rw [if_pos c1] at h
      have e9 := inj1 h
      subst e9
      exact aw_sub [0, 1, 2, 3] rfl kx
    · rw [if_neg c1] at h
      refine aw_aload_n C 2 dX9_moveOn_7 rfl rfl ?_
      refine aw_iload_n C 3 dX9_moveOn_8 rfl rfl ?_
      refine aw_iconst C 0 dX9_moveOn_9 (by decide) ?_
      obtain ⟨μ2, hμ2, h⟩ := bindE h
      refine aw_sI C hμ2 dX9_moveOn_10 ?_
      refine aw_iinc C (x3 + 1) 3 [(3, .int (x3 + 1)), (0, .ref (gZ G + a0)), (1, .ref (gZ G + a1)), (2, .ref (gZ G + a2))] dX9_moveOn_11 rfl rfl (by decide) rfl ?_
      refine aw_goto C 2 dX9_moveOn_14 (by decide) ?_
      exact aw_sub [1, 2, 3, 0] rfl (ih _ _ _ h kx)
set_option maxRecDepth 100000 in
set_option maxHeartbeats 4000000 in
theorem X9_moveOn_L69_ok {G : GL} {X : CX} (C : Ctx G X cX9_moveOn 6 RX9 rm_X9_moveOn) (a0 : Nat) (a1 : Nat) (a2 : Nat) (x3 : Int32) (x4 : Int32) : ∀ (n : Nat) (x5 : Int32) (μ : Mem) (z : Int32 × Mem), X9_moveOn_L69 a0 a1 a2 x3 x4 n x5 μ = some z → AW G 6 X 0 0 104 [(0, .ref (gZ G + a0)), (1, .ref (gZ G + a1)), (2, .ref (gZ G + a2)), (3, .int x3), (4, .int x4), (5, .int z.1)] [] z.2 → AW G 6 X 0 0 69 [(0, .ref (gZ G + a0)), (1, .ref (gZ G + a1)), (2, .ref (gZ G + a2)), (3, .int x3), (4, .int x4), (5, .int x5)] [] μ := by
  intro n
  induction n with
  | zero =>
    intro x5 μ z h kx
    rw [X9_moveOn_L69] at h
    cases h
  | succ n ih =>
    intro x5 μ z h kx
    rw [X9_moveOn_L69] at h
    refine aw_iload C 5 dX9_moveOn_69 rfl ?_
    refine aw_iconst C 4 dX9_moveOn_71 (by decide) ?_
    refine aw_icmp_ge C 104 dX9_moveOn_72 (by decide) (fun c1 => ?_) (fun c1 => ?_)
    · rw [if_pos c1] at h
      have e9 := inj1 h
      subst e9
      exact aw_sub [0, 1, 2, 3, 4, 5] rfl kx
    · rw [if_neg c1] at h
      refine aw_aload_n C 2 dX9_moveOn_75 rfl rfl ?_
      refine aw_iload C 5 dX9_moveOn_76 rfl ?_
      refine aw_dup2 C dX9_moveOn_78 rfl rfl ?_
      obtain ⟨v2, hv2, h⟩ := bindE h
      refine aw_aI C hv2 dX9_moveOn_79 ?_
      refine aw_aload_n C 1 dX9_moveOn_80 rfl rfl ?_
      refine aw_iload_n C 3 dX9_moveOn_81 rfl rfl ?_
      obtain ⟨v3, hv3, h⟩ := bindE h
      refine aw_aI C hv3 dX9_moveOn_82 ?_
      refine aw_aload_n C 0 dX9_moveOn_83 rfl rfl ?_
      obtain ⟨v4, hv4, h⟩ := bindE h
      refine aw_gR C fl_X9_11 rfl hv4 dX9_moveOn_84 ?_
      refine aw_iload_n C 3 dX9_moveOn_87 rfl rfl ?_
      obtain ⟨v5, hv5, h⟩ := bindE h
      refine aw_aR C (by decide) (ty := .array .int) rfl rfl hv5 dX9_moveOn_88 ?_
      refine aw_iload C 5 dX9_moveOn_89 rfl ?_
      obtain ⟨v6, hv6, h⟩ := bindE h
      refine aw_aI C hv6 dX9_moveOn_91 ?_
      refine aw_imul C dX9_moveOn_92 ?_
      refine aw_iload C 4 dX9_moveOn_93 rfl ?_
      obtain ⟨v7, hv7, h⟩ := bindE h
      refine aw_idiv C hv7 dX9_moveOn_95 ?_
      refine aw_iadd C dX9_moveOn_96 ?_
      obtain ⟨μ8, hμ8, h⟩ := bindE h
      refine aw_sI C hμ8 dX9_moveOn_97 ?_
      refine aw_iinc C (x5 + 1) 5 [(5, .int (x5 + 1)), (0, .ref (gZ G + a0)), (1, .ref (gZ G + a1)), (2, .ref (gZ G + a2)), (3, .int x3), (4, .int x4)] dX9_moveOn_98 rfl rfl (by decide) rfl ?_
      refine aw_goto C 69 dX9_moveOn_101 (by decide) ?_
      exact aw_sub [1, 2, 3, 4, 5, 0] rfl (ih _ _ _ h kx)
set_option maxRecDepth 100000 in
set_option maxHeartbeats 4000000 in
theorem X9_moveOn_L19_ok {G : GL} {X : CX} (C : Ctx G X cX9_moveOn 6 RX9 rm_X9_moveOn) (a0 : Nat) (a1 : Nat) (a2 : Nat) : ∀ (n : Nat) (x3 : Int32) (μ : Mem) (z : Int32 × Mem), X9_moveOn_L19 a0 a1 a2 n x3 μ = some z → AW G 6 X 0 0 110 [(0, .ref (gZ G + a0)), (1, .ref (gZ G + a1)), (2, .ref (gZ G + a2)), (3, .int z.1)] [] z.2 → AW G 6 X 0 0 19 [(0, .ref (gZ G + a0)), (1, .ref (gZ G + a1)), (2, .ref (gZ G + a2)), (3, .int x3)] [] μ := by
  intro n
  induction n with
  | zero =>
    intro x3 μ z h kx
    rw [X9_moveOn_L19] at h
    cases h
  | succ n ih =>
    intro x3 μ z h kx
    rw [X9_moveOn_L19] at h
    refine aw_iload_n C 3 dX9_moveOn_19 rfl rfl ?_
    refine aw_iconst C 4 dX9_moveOn_20 (by decide) ?_
    refine aw_icmp_ge C 110 dX9_moveOn_21 (by decide) (fun c1 => ?_) (fun c1 => ?_)
    · rw [if_pos c1] at h
      have e9 := inj1 h
      subst e9
      exact aw_sub [0, 1, 2, 3] rfl kx
    · rw [if_neg c1] at h
      refine aw_aload_n C 0 dX9_moveOn_24 rfl rfl ?_
      obtain ⟨v2, hv2, h⟩ := bindE h
      refine aw_gR C fl_X9_11 rfl hv2 dX9_moveOn_25 ?_
      refine aw_iload_n C 3 dX9_moveOn_28 rfl rfl ?_
      obtain ⟨v3, hv3, h⟩ := bindE h
      refine aw_aR C (by decide) (ty := .array .int) rfl rfl hv3 dX9_moveOn_29 ?_
      refine aw_iconst C 0 dX9_moveOn_30 (by decide) ?_
      obtain ⟨v4, hv4, h⟩ := bindE h
      refine aw_aI C hv4 dX9_moveOn_31 ?_
      refine aw_aload_n C 0 dX9_moveOn_32 rfl rfl ?_
      obtain ⟨v5, hv5, h⟩ := bindE h
      refine aw_gR C fl_X9_11 rfl hv5 dX9_moveOn_33 ?_
      refine aw_iload_n C 3 dX9_moveOn_36 rfl rfl ?_
      obtain ⟨v6, hv6, h⟩ := bindE h
      refine aw_aR C (by decide) (ty := .array .int) rfl rfl hv6 dX9_moveOn_37 ?_
      refine aw_iconst C 1 dX9_moveOn_38 (by decide) ?_
      obtain ⟨v7, hv7, h⟩ := bindE h
      refine aw_aI C hv7 dX9_moveOn_39 ?_
      refine aw_iadd C dX9_moveOn_40 ?_
      refine aw_aload_n C 0 dX9_moveOn_41 rfl rfl ?_
      obtain ⟨v8, hv8, h⟩ := bindE h
      refine aw_gR C fl_X9_11 rfl hv8 dX9_moveOn_42 ?_
      refine aw_iload_n C 3 dX9_moveOn_45 rfl rfl ?_
      obtain ⟨v9, hv9, h⟩ := bindE h
      refine aw_aR C (by decide) (ty := .array .int) rfl rfl hv9 dX9_moveOn_46 ?_
      refine aw_iconst C 2 dX9_moveOn_47 (by decide) ?_
      obtain ⟨v10, hv10, h⟩ := bindE h
      refine aw_aI C hv10 dX9_moveOn_48 ?_
      refine aw_iadd C dX9_moveOn_49 ?_
      refine aw_aload_n C 0 dX9_moveOn_50 rfl rfl ?_
      obtain ⟨v11, hv11, h⟩ := bindE h
      refine aw_gR C fl_X9_11 rfl hv11 dX9_moveOn_51 ?_
      refine aw_iload_n C 3 dX9_moveOn_54 rfl rfl ?_
      obtain ⟨v12, hv12, h⟩ := bindE h
      refine aw_aR C (by decide) (ty := .array .int) rfl rfl hv12 dX9_moveOn_55 ?_
      refine aw_iconst C 3 dX9_moveOn_56 (by decide) ?_
      obtain ⟨v13, hv13, h⟩ := bindE h
      refine aw_aI C hv13 dX9_moveOn_57 ?_
      refine aw_iadd C dX9_moveOn_58 ?_
      obtain ⟨v14, ev14, h⟩ := bindS h
      refine aw_topi ev14 ?_
      refine aw_istore C [(4, .int v14), (0, .ref (gZ G + a0)), (1, .ref (gZ G + a1)), (2, .ref (gZ G + a2)), (3, .int x3)] dX9_moveOn_59 (by decide) rfl ?_
      refine aw_iload C 0 dX9_moveOn_61 rfl ?_
      obtain ⟨z17, hz17, h⟩ := bindE h
      have kj63 : AW G 6 X 0 0 104 [(0, .ref (gZ G + a0)), (1, .ref (gZ G + a1)), (2, .ref (gZ G + a2)), (3, .int x3)] [] z17 := by
        refine aw_iinc C (x3 + 1) 3 [(3, .int (x3 + 1)), (0, .ref (gZ G + a0)), (1, .ref (gZ G + a1)), (2, .ref (gZ G + a2))] dX9_moveOn_104 rfl rfl (by decide) rfl ?_
        refine aw_goto C 19 dX9_moveOn_107 (by decide) ?_
        exact aw_sub [1, 2, 3, 0] rfl (ih _ _ _ h kx)
      replace h := hz17
      refine aw_if_le C 104 dX9_moveOn_63 (by decide) (fun c15 => ?_) (fun c15 => ?_)
      · rw [if_pos c15] at h
        have e9 := inj1 h
        subst e9
        exact aw_sub [1, 2, 3, 4] rfl kj63
      · rw [if_neg c15] at h
        refine aw_iconst C 0 dX9_moveOn_66 (by decide) ?_
        refine aw_istore C [(5, .int 0), (4, .int v14), (0, .ref (gZ G + a0)), (1, .ref (gZ G + a1)), (2, .ref (gZ G + a2)), (3, .int x3)] dX9_moveOn_67 (by decide) rfl ?_
        obtain ⟨z16, hz16, h⟩ := bindE h
        refine aw_sub [2, 3, 4, 5, 1, 0] rfl ?_
        refine X9_moveOn_L69_ok C _ _ _ _ _ _ _ _ _ hz16 ?_
        have e9 := inj1 h
        subst e9
        exact aw_sub [0, 1, 2, 3] rfl kj63
set_option maxRecDepth 100000 in
set_option maxHeartbeats 4000000 in
theorem wk_X9_moveOn {G : GL} {X : CX} {a0 : Nat} {a1 : Nat} {a2 : Nat} {μ : Mem} {μ' : Mem} (C : Ctx G X cX9_moveOn 6 RX9 rm_X9_moveOn) (h : X9_moveOn a0 a1 a2 μ = some μ') (hret : RtV G 6 X cX9_moveOn 0 0 μ') : AW G 6 X 0 0 0 [(0, .ref (gZ G + a0)), (1, .ref (gZ G + a1)), (2, .ref (gZ G + a2))] [] μ := by
  unfold X9_moveOn at h
  refine aw_iconst C 0 dX9_moveOn_0 (by decide) ?_
  refine aw_istore_n C [(3, .int 0), (0, .ref (gZ G + a0)), (1, .ref (gZ G + a1)), (2, .ref (gZ G + a2))] dX9_moveOn_1 rfl (by decide) rfl ?_
  obtain ⟨z1, hz1, h⟩ := bindE h
  refine aw_sub [1, 2, 3, 0] rfl ?_
  refine X9_moveOn_L2_ok C _ _ _ _ _ _ _ hz1 ?_
  refine aw_iconst C 0 dX9_moveOn_17 (by decide) ?_
  refine aw_istore_n C [(3, .int 0), (0, .ref (gZ G + a0)), (1, .ref (gZ G + a1)), (2, .ref (gZ G + a2))] dX9_moveOn_18 rfl (by decide) rfl ?_
  obtain ⟨z2, hz2, h⟩ := bindE h
  refine aw_sub [1, 2, 3, 0] rfl ?_
  refine X9_moveOn_L19_ok C _ _ _ _ _ _ _ hz2 ?_
  have e9 := inj1 h
  subst e9
  exact hret _ _ dX9_moveOn_110
set_option maxRecDepth 100000 in
set_option maxHeartbeats 4000000 in
theorem mt_X9_moveOn {G : GL} {l : Launch} {a0 : Nat} {a1 : Nat} {a2 : Nat} {μ : Mem} {μ' : Mem} (h : X9_moveOn a0 a1 a2 μ = some μ') : MtV G l yX9_moveOn cX9_moveOn 6 none rm_X9_moveOn false [.ref (gZ G + a0), .ref (gZ G + a1), .ref (gZ G + a2)] μ μ' := met_V (by decide) rfl (Nat.le_of_ble_eq_true rfl) (fun X _ C _ _ hret => wk_X9_moveOn C h hret)
set_option maxRecDepth 100000 in
set_option maxHeartbeats 4000000 in
theorem X9_lookAhead_L16_ok {G : GL} {X : CX} (C : Ctx G X cX9_lookAhead 7 RX9 rm_X9_lookAhead) (a0 : Nat) (x3 : Int32) (j4 : Int64) : ∀ (n : Nat) (x6 : Int32) (μ : Mem) (z : Int32 × Mem), X9_lookAhead_L16 a0 x3 j4 n x6 μ = some z → AW G 7 X 0 0 63 [(0, .ref (gZ G + a0)), (3, .int x3), (4, .long j4), (6, .int z.1)] [] z.2 → AW G 7 X 0 0 16 [(0, .ref (gZ G + a0)), (3, .int x3), (4, .long j4), (6, .int x6)] [] μ := by
  intro n
  induction n with
  | zero =>
    intro x6 μ z h kx
    rw [X9_lookAhead_L16] at h
    cases h
  | succ n ih =>
    intro x6 μ z h kx
    rw [X9_lookAhead_L16] at h
    refine aw_iload C 3 dX9_lookAhead_16 rfl ?_
    refine aw_iconst C 4 dX9_lookAhead_18 (by decide) ?_
    refine aw_icmp_ge C 63 dX9_lookAhead_19 (by decide) (fun c1 => ?_) (fun c1 => ?_)
    · rw [if_pos c1] at h
      have e9 := inj1 h
      subst e9
      exact aw_sub [0, 1, 2, 3] rfl kx
    · rw [if_neg c1] at h
      refine aw_aload_n C 0 dX9_lookAhead_22 rfl rfl ?_
      obtain ⟨v2, hv2, h⟩ := bindE h
      refine aw_gR C fl_X9_26 rfl hv2 dX9_lookAhead_23 ?_
      refine aw_iconst C 0 dX9_lookAhead_26 (by decide) ?_
      obtain ⟨v3, hv3, h⟩ := bindE h
      refine aw_aR C (by decide) (ty := .array .int) rfl rfl hv3 dX9_lookAhead_27 ?_
      refine aw_iload C 3 dX9_lookAhead_28 rfl ?_
      refine aw_lload C 2 dX9_lookAhead_30 rfl ?_
      refine aw_lconst C 0 dX9_lookAhead_32 (by decide) ?_
      refine aw_lcmp C dX9_lookAhead_33 ?_
      obtain ⟨z8, hz8, h⟩ := bindE h
      have kj34 : AW G 7 X 0 0 56 [(0, .ref (gZ G + a0)), (3, .int x3), (4, .long j4), (6, .int x6)] [.int z8, .int x6, .ref (gZ G + v3)] μ := by
        obtain ⟨μ9, hμ9, h⟩ := bindE h
        refine aw_sI C hμ9 dX9_lookAhead_56 ?_
        refine aw_iinc C (x6 + 1) 3 [(6, .int (x6 + 1)), (0, .ref (gZ G + a0)), (3, .int x3), (4, .long j4)] dX9_lookAhead_57 rfl rfl (by decide) rfl ?_
        refine aw_goto C 16 dX9_lookAhead_60 (by decide) ?_
        exact aw_sub [1, 2, 3, 0] rfl (ih _ _ _ h kx)
      replace h := hz8
      refine aw_if_gt C 41 dX9_lookAhead_34 (by decide) (fun c4 => ?_) (fun c4 => ?_)
      · rw [if_pos c4] at h
        refine aw_aload_n C 0 dX9_lookAhead_41 rfl rfl ?_
        obtain ⟨v5, hv5, h⟩ := bindE h
        refine aw_gR C fl_X9_29 rfl hv5 dX9_lookAhead_42 ?_
        refine aw_iload C 3 dX9_lookAhead_45 rfl ?_
        obtain ⟨v6, hv6, h⟩ := bindE h
        refine aw_aJ C hv6 dX9_lookAhead_47 ?_
        refine aw_ldc2 C kl_X9_44 dX9_lookAhead_48 ?_
        refine aw_lmul C dX9_lookAhead_51 ?_
        refine aw_lload C 2 dX9_lookAhead_52 rfl ?_
        obtain ⟨v7, hv7, h⟩ := bindE h
        refine aw_ldiv C hv7 dX9_lookAhead_54 ?_
        refine aw_l2i C dX9_lookAhead_55 ?_
        have e9 := inj1 h
        subst e9
        exact aw_sub [0, 1, 2, 3] rfl kj34
      · rw [if_neg c4] at h
        refine aw_iconst C 0 dX9_lookAhead_37 (by decide) ?_
        refine aw_goto C 56 dX9_lookAhead_38 (by decide) ?_
        have e9 := inj1 h
        subst e9
        exact aw_sub [0, 1, 2, 3] rfl kj34
set_option maxRecDepth 100000 in
set_option maxHeartbeats 4000000 in
theorem X9_lookAhead_L66_ok {G : GL} {X : CX} (C : Ctx G X cX9_lookAhead 7 RX9 rm_X9_lookAhead) (a0 : Nat) (x3 : Int32) : ∀ (n : Nat) (x6 : Int32) (μ : Mem) (z : Int32 × Mem), X9_lookAhead_L66 a0 x3 n x6 μ = some z → AW G 7 X 0 0 105 [(0, .ref (gZ G + a0)), (3, .int x3), (6, .int z.1)] [] z.2 → AW G 7 X 0 0 66 [(0, .ref (gZ G + a0)), (3, .int x3), (6, .int x6)] [] μ := by
  intro n
  induction n with
  | zero =>
    intro x6 μ z h kx
    rw [X9_lookAhead_L66] at h
    cases h
  | succ n ih =>
    intro x6 μ z h kx
    rw [X9_lookAhead_L66] at h
    refine aw_iload C 2 dX9_lookAhead_66 rfl ?_
    refine aw_iload_n C 1 dX9_lookAhead_68 rfl rfl ?_
    refine aw_icmp_gt C 105 dX9_lookAhead_69 (by decide) (fun c1 => ?_) (fun c1 => ?_)
    · rw [if_pos c1] at h
      have e9 := inj1 h
      subst e9
      exact aw_sub [0, 1, 2] rfl kx
    · rw [if_neg c1] at h
      refine aw_iload C 2 dX9_lookAhead_72 rfl ?_
      refine aw_bipush C 8 dX9_lookAhead_74 (by decide) ?_
      refine aw_icmp_gt C 105 dX9_lookAhead_76 (by decide) (fun c2 => ?_) (fun c2 => ?_)
      · rw [if_pos c2] at h
        have e9 := inj1 h
        subst e9
        exact aw_sub [0, 1, 2] rfl kx
      · rw [if_neg c2] at h
        refine aw_aload_n C 0 dX9_lookAhead_79 rfl rfl ?_
        refine aw_aload_n C 0 dX9_lookAhead_80 rfl rfl ?_
        obtain ⟨v3, hv3, h⟩ := bindE h
        refine aw_gR C fl_X9_26 rfl hv3 dX9_lookAhead_81 ?_
        refine aw_iload C 2 dX9_lookAhead_84 rfl ?_
        refine aw_iconst C 1 dX9_lookAhead_86 (by decide) ?_
        refine aw_isub C dX9_lookAhead_87 ?_
        obtain ⟨v4, hv4, h⟩ := bindE h
        refine aw_aR C (by decide) (ty := .array .int) rfl rfl hv4 dX9_lookAhead_88 ?_
        refine aw_aload_n C 0 dX9_lookAhead_89 rfl rfl ?_
        obtain ⟨v5, hv5, h⟩ := bindE h
        refine aw_gR C fl_X9_26 rfl hv5 dX9_lookAhead_90 ?_
        refine aw_iload C 2 dX9_lookAhead_93 rfl ?_
        obtain ⟨v6, hv6, h⟩ := bindE h
        refine aw_aR C (by decide) (ty := .array .int) rfl rfl hv6 dX9_lookAhead_95 ?_
        obtain ⟨g7, hg7, h⟩ := bindE h
        obtain ⟨μ8, hμ8, h⟩ := bindE h
        refine aw_cV_V C [.ref (gZ G + v4), .ref (gZ G + v6)] _ (mt_X9_moveOn hμ8) cs_X9_moveOn ml_X9_46 im_X9_moveOn se_X9_moveOn (ci := 9) rfl rfl hg7 ⟨by decide, by decide⟩ ⟨rfl, rfl⟩ ⟨Nat.zero_le _, Nat.zero_le _⟩ rfl rfl (Nat.le_of_ble_eq_true rfl) dX9_lookAhead_96 ?_
        refine aw_iinc C (x6 + 1) 2 [(6, .int (x6 + 1)), (0, .ref (gZ G + a0)), (3, .int x3)] dX9_lookAhead_99 rfl rfl (by decide) rfl ?_
        refine aw_goto C 66 dX9_lookAhead_102 (by decide) ?_
        exact aw_sub [1, 2, 0] rfl (ih _ _ _ h kx)
set_option maxRecDepth 100000 in
set_option maxHeartbeats 4000000 in
theorem wk_X9_lookAhead {G : GL} {X : CX} {a0 : Nat} {x1 : Int32} {x2 : Int32} {x3 : Int32} {μ : Mem} {μ' : Mem} (C : Ctx G X cX9_lookAhead 7 RX9 rm_X9_lookAhead) (h : X9_lookAhead a0 x1 x2 x3 μ = some μ') (hret : RtV G 7 X cX9_lookAhead 0 0 μ') : AW G 7 X 0 0 0 [(0, .ref (gZ G + a0)), (1, .int x1), (2, .int x2), (3, .int x3)] [] μ := by
  unfold X9_lookAhead at h
  refine aw_aload_n C 0 dX9_lookAhead_0 rfl rfl ?_
  refine aw_iload_n C 1 dX9_lookAhead_1 rfl rfl ?_
  refine aw_iload_n C 2 dX9_lookAhead_2 rfl rfl ?_
  refine aw_iconst C 0 dX9_lookAhead_3 (by decide) ?_
  obtain ⟨g1, hg1, h⟩ := bindE h
  obtain ⟨μ2, hμ2, h⟩ := bindE h
  refine aw_cV_V C [.int x1, .int x2, .int 0] _ (mt_X9_weigh hμ2) cs_X9_weigh ml_X9_36 im_X9_weigh se_X9_weigh (ci := 9) rfl rfl hg1 ⟨by decide, by decide⟩ ⟨rfl, rfl⟩ ⟨Nat.zero_le _, Nat.zero_le _⟩ rfl rfl (Nat.le_of_ble_eq_true rfl) dX9_lookAhead_4 ?_
  refine aw_aload_n C 0 dX9_lookAhead_7 rfl rfl ?_
  obtain ⟨g3, hg3, h⟩ := bindE h
  obtain ⟨v4, hv4, h⟩ := bindE h
  refine aw_cV_J C [] _ (mt_X9_allWeights hv4) cs_X9_allWeights ml_X9_40 im_X9_allWeights se_X9_allWeights (ci := 9) rfl rfl hg3 ⟨by decide, by decide⟩ ⟨rfl, rfl⟩ ⟨Nat.zero_le _, Nat.zero_le _⟩ rfl rfl (Nat.le_of_ble_eq_true rfl) dX9_lookAhead_8 ?_
  refine aw_lstore C [(4, .long v4), (0, .ref (gZ G + a0)), (1, .int x1), (2, .int x2), (3, .int x3)] dX9_lookAhead_11 (by decide) rfl ?_
  refine aw_iconst C 0 dX9_lookAhead_13 (by decide) ?_
  refine aw_istore C [(6, .int 0), (4, .long v4), (0, .ref (gZ G + a0)), (1, .int x1), (2, .int x2), (3, .int x3)] dX9_lookAhead_14 (by decide) rfl ?_
  obtain ⟨z5, hz5, h⟩ := bindE h
  refine aw_sub [2, 5, 1, 0] rfl ?_
  refine X9_lookAhead_L16_ok C _ _ _ _ _ _ _ hz5 ?_
  refine aw_iconst C 1 dX9_lookAhead_63 (by decide) ?_
  refine aw_istore C [(6, .int 1), (0, .ref (gZ G + a0)), (3, .int x3), (4, .long v4)] dX9_lookAhead_64 (by decide) rfl ?_
  obtain ⟨z6, hz6, h⟩ := bindE h
  refine aw_sub [1, 2, 0] rfl ?_
  refine X9_lookAhead_L66_ok C _ _ _ _ _ _ hz6 ?_
  have e9 := inj1 h
  subst e9
  exact hret _ _ dX9_lookAhead_105
set_option maxRecDepth 100000 in
set_option maxHeartbeats 4000000 in
theorem mt_X9_lookAhead {G : GL} {l : Launch} {a0 : Nat} {x1 : Int32} {x2 : Int32} {x3 : Int32} {μ : Mem} {μ' : Mem} (h : X9_lookAhead a0 x1 x2 x3 μ = some μ') : MtV G l yX9_lookAhead cX9_lookAhead 7 none rm_X9_lookAhead false [.ref (gZ G + a0), .int x1, .int x2, .int x3] μ μ' := met_V (by decide) rfl (Nat.le_of_ble_eq_true rfl) (fun X _ C _ _ hret => wk_X9_lookAhead C h hret)
set_option maxRecDepth 100000 in
set_option maxHeartbeats 4000000 in
theorem X8_lossBy_L5_ok {G : GL} {X : CX} (C : Ctx G X cX8_lossBy 5 RX8 rm_X8_lossBy) (a0 : Nat) (x1 : Int32) (a2 : Nat) (μ : Mem) : ∀ (n : Nat) (x3 : Int32) (x4 : Int32) (z : Int32 × Int32), X8_lossBy_L5 a0 x1 a2 μ n x3 x4 = some z → AW G 5 X 0 0 41 [(0, .ref (gZ G + a0)), (1, .int x1), (2, .ref (gZ G + a2)), (3, .int z.1), (4, .int z.2)] [] μ → AW G 5 X 0 0 5 [(0, .ref (gZ G + a0)), (1, .int x1), (2, .ref (gZ G + a2)), (3, .int x3), (4, .int x4)] [] μ := by
  intro n
  induction n with
  | zero =>
    intro x3 x4 z h kx
    rw [X8_lossBy_L5] at h
    cases h
  | succ n ih =>
    intro x3 x4 z h kx
    rw [X8_lossBy_L5] at h
    refine aw_iload C 4 dX8_lossBy_5 rfl ?_
    refine aw_iconst C 4 dX8_lossBy_7 (by decide) ?_
    refine aw_icmp_ge C 41 dX8_lossBy_8 (by decide) (fun c1 => ?_) (fun c1 => ?_)
    · rw [if_pos c1] at h
      have e9 := inj1 h
      subst e9
      exact aw_sub [0, 1, 2, 3, 4] rfl kx
    · rw [if_neg c1] at h
      refine aw_iload_n C 3 dX8_lossBy_11 rfl rfl ?_
      refine aw_aload_n C 2 dX8_lossBy_12 rfl rfl ?_
      refine aw_iload C 4 dX8_lossBy_13 rfl ?_
      obtain ⟨v2, hv2, h⟩ := bindE h
      refine aw_aI C hv2 dX8_lossBy_15 ?_
      refine aw_i2l C dX8_lossBy_16 ?_
      refine aw_aload_n C 0 dX8_lossBy_17 rfl rfl ?_
      obtain ⟨v3, hv3, h⟩ := bindE h
      refine aw_gR C fl_X8_11 rfl hv3 dX8_lossBy_18 ?_
      refine aw_iload_n C 1 dX8_lossBy_21 rfl rfl ?_
      obtain ⟨v4, hv4, h⟩ := bindE h
      refine aw_aR C (by decide) (ty := .array .int) rfl rfl hv4 dX8_lossBy_22 ?_
      refine aw_iload C 4 dX8_lossBy_23 rfl ?_
      obtain ⟨v5, hv5, h⟩ := bindE h
      refine aw_aI C hv5 dX8_lossBy_25 ?_
      refine aw_i2l C dX8_lossBy_26 ?_
      refine aw_lmul C dX8_lossBy_27 ?_
      refine aw_ldc2 C kl_X8_20 dX8_lossBy_28 ?_
      obtain ⟨v6, hv6, h⟩ := bindE h
      refine aw_ldiv C hv6 dX8_lossBy_31 ?_
      refine aw_l2i C dX8_lossBy_32 ?_
      refine aw_iadd C dX8_lossBy_33 ?_
      obtain ⟨v7, ev7, h⟩ := bindS h
      refine aw_topi ev7 ?_
      refine aw_istore_n C [(3, .int v7), (0, .ref (gZ G + a0)), (1, .int x1), (2, .ref (gZ G + a2)), (4, .int x4)] dX8_lossBy_34 rfl (by decide) rfl ?_
      refine aw_iinc C (x4 + 1) 4 [(4, .int (x4 + 1)), (3, .int v7), (0, .ref (gZ G + a0)), (1, .int x1), (2, .ref (gZ G + a2))] dX8_lossBy_35 rfl rfl (by decide) rfl ?_
      refine aw_goto C 5 dX8_lossBy_38 (by decide) ?_
      exact aw_sub [2, 3, 4, 1, 0] rfl (ih _ _ _ h kx)
set_option maxRecDepth 100000 in
set_option maxHeartbeats 4000000 in
theorem wk_X8_lossBy {G : GL} {X : CX} {a0 : Nat} {x1 : Int32} {a2 : Nat} {μ : Mem} {r : Int32} (C : Ctx G X cX8_lossBy 5 RX8 rm_X8_lossBy) (h : X8_lossBy a0 x1 a2 μ = some r) (hret : RtI G 5 X cX8_lossBy 0 0 r μ) : AW G 5 X 0 0 0 [(0, .ref (gZ G + a0)), (1, .int x1), (2, .ref (gZ G + a2))] [] μ := by
  unfold X8_lossBy at h
  refine aw_iconst C 0 dX8_lossBy_0 (by decide) ?_
  refine aw_istore_n C [(3, .int 0), (0, .ref (gZ G + a0)), (1, .int x1), (2, .ref (gZ G + a2))] dX8_lossBy_1 rfl (by decide) rfl ?_
  refine aw_iconst C 0 dX8_lossBy_2 (by decide) ?_
  refine aw_istore C [(4, .int 0), (3, .int 0), (0, .ref (gZ G + a0)), (1, .int x1), (2, .ref (gZ G + a2))] dX8_lossBy_3 (by decide) rfl ?_
  obtain ⟨z1, hz1, h⟩ := bindE h
  refine aw_sub [2, 3, 4, 1, 0] rfl ?_
  refine X8_lossBy_L5_ok C _ _ _ _ _ _ _ _ hz1 ?_
  refine aw_iload_n C 3 dX8_lossBy_41 rfl rfl ?_
  have e9 := inj1 h
  subst e9
  exact hret _ _ dX8_lossBy_42
set_option maxRecDepth 100000 in
set_option maxHeartbeats 4000000 in
theorem mt_X8_lossBy {G : GL} {l : Launch} {a0 : Nat} {x1 : Int32} {a2 : Nat} {μ : Mem} {r : Int32} (h : X8_lossBy a0 x1 a2 μ = some r) : MtI G l yX8_lossBy cX8_lossBy 5 (some .int) rm_X8_lossBy false [.ref (gZ G + a0), .int x1, .ref (gZ G + a2)] μ r μ := met_I (by decide) rfl rfl (Nat.le_of_ble_eq_true rfl) (fun X _ C _ _ hret => wk_X8_lossBy C h hret)
set_option maxRecDepth 100000 in
set_option maxHeartbeats 4000000 in
theorem X9_seamOdds_L4_ok {G : GL} {X : CX} (C : Ctx G X cX9_seamOdds 4 RX9 rm_X9_seamOdds) (a0 : Nat) (x1 : Int32) (μ : Mem) : ∀ (n : Nat) (x2 : Int32) (x3 : Int32) (z : Int32 × Int32), X9_seamOdds_L4 a0 x1 μ n x2 x3 = some z → AW G 4 X 0 0 37 [(0, .ref (gZ G + a0)), (1, .int x1), (2, .int z.1), (3, .int z.2)] [] μ → AW G 4 X 0 0 4 [(0, .ref (gZ G + a0)), (1, .int x1), (2, .int x2), (3, .int x3)] [] μ := by
  intro n
  induction n with
  | zero =>
    intro x2 x3 z h kx
    rw [X9_seamOdds_L4] at h
    cases h
  | succ n ih =>
    intro x2 x3 z h kx
    rw [X9_seamOdds_L4] at h
    refine aw_iload_n C 3 dX9_seamOdds_4 rfl rfl ?_
    refine aw_iconst C 4 dX9_seamOdds_5 (by decide) ?_
    refine aw_icmp_ge C 37 dX9_seamOdds_6 (by decide) (fun c1 => ?_) (fun c1 => ?_)
    · rw [if_pos c1] at h
      have e9 := inj1 h
      subst e9
      exact aw_sub [0, 1, 2, 3] rfl kx
    · rw [if_neg c1] at h
      refine aw_aload_n C 0 dX9_seamOdds_9 rfl rfl ?_
      obtain ⟨v2, hv2, h⟩ := bindE h
      refine aw_gI C fl_X9_50 rfl hv2 dX9_seamOdds_10 ?_
      refine aw_iload_n C 3 dX9_seamOdds_13 rfl rfl ?_
      refine aw_cSN_I C [.int v2, .int x3] _ (mt_X10_contains _ _) cs_X10_contains ml_X9_54 st_X10_contains ⟨by decide, by decide⟩ ⟨rfl, rfl⟩ ⟨Nat.zero_le _, Nat.zero_le _⟩ rfl rfl (Nat.le_of_ble_eq_true rfl) dX9_seamOdds_14 ?_
      obtain ⟨z7, hz7, h⟩ := bindE h
      have kj17 : AW G 4 X 0 0 31 [(0, .ref (gZ G + a0)), (1, .int x1), (2, .int z7), (3, .int x3)] [] μ := by
        refine aw_iinc C (x3 + 1) 3 [(3, .int (x3 + 1)), (0, .ref (gZ G + a0)), (1, .int x1), (2, .int z7)] dX9_seamOdds_31 rfl rfl (by decide) rfl ?_
        refine aw_goto C 4 dX9_seamOdds_34 (by decide) ?_
        exact aw_sub [1, 2, 3, 0] rfl (ih _ _ _ h kx)
      replace h := hz7
      refine aw_if_eq C 31 dX9_seamOdds_17 (by decide) (fun c3 => ?_) (fun c3 => ?_)
      · rw [if_pos c3] at h
        have e9 := inj1 h
        subst e9
        exact aw_sub [0, 1, 2, 3] rfl kj17
      · rw [if_neg c3] at h
        refine aw_iload_n C 2 dX9_seamOdds_20 rfl rfl ?_
        refine aw_aload_n C 0 dX9_seamOdds_21 rfl rfl ?_
        obtain ⟨v4, hv4, h⟩ := bindE h
        refine aw_gR C fl_X9_26 rfl hv4 dX9_seamOdds_22 ?_
        refine aw_iload_n C 1 dX9_seamOdds_25 rfl rfl ?_
        obtain ⟨v5, hv5, h⟩ := bindE h
        refine aw_aR C (by decide) (ty := .array .int) rfl rfl hv5 dX9_seamOdds_26 ?_
        refine aw_iload_n C 3 dX9_seamOdds_27 rfl rfl ?_
        obtain ⟨v6, hv6, h⟩ := bindE h
        refine aw_aI C hv6 dX9_seamOdds_28 ?_
        refine aw_iadd C dX9_seamOdds_29 ?_
        refine aw_istore_n C [(2, .int (x2 + v6)), (0, .ref (gZ G + a0)), (1, .int x1), (3, .int x3)] dX9_seamOdds_30 rfl (by decide) rfl ?_
        have e9 := inj1 h
        subst e9
        exact aw_sub [1, 2, 0, 3] rfl kj17
set_option maxRecDepth 100000 in
set_option maxHeartbeats 4000000 in
theorem wk_X9_seamOdds {G : GL} {X : CX} {a0 : Nat} {x1 : Int32} {μ : Mem} {r : Int32} (C : Ctx G X cX9_seamOdds 4 RX9 rm_X9_seamOdds) (h : X9_seamOdds a0 x1 μ = some r) (hret : RtI G 4 X cX9_seamOdds 0 0 r μ) : AW G 4 X 0 0 0 [(0, .ref (gZ G + a0)), (1, .int x1)] [] μ := by
  unfold X9_seamOdds at h
  refine aw_iconst C 0 dX9_seamOdds_0 (by decide) ?_
  refine aw_istore_n C [(2, .int 0), (0, .ref (gZ G + a0)), (1, .int x1)] dX9_seamOdds_1 rfl (by decide) rfl ?_
  refine aw_iconst C 0 dX9_seamOdds_2 (by decide) ?_
  refine aw_istore_n C [(3, .int 0), (2, .int 0), (0, .ref (gZ G + a0)), (1, .int x1)] dX9_seamOdds_3 rfl (by decide) rfl ?_
  obtain ⟨z1, hz1, h⟩ := bindE h
  refine aw_sub [2, 3, 1, 0] rfl ?_
  refine X9_seamOdds_L4_ok C _ _ _ _ _ _ _ hz1 ?_
  refine aw_iload_n C 2 dX9_seamOdds_37 rfl rfl ?_
  have e9 := inj1 h
  subst e9
  exact hret _ _ dX9_seamOdds_38
set_option maxRecDepth 100000 in
set_option maxHeartbeats 4000000 in
theorem mt_X9_seamOdds {G : GL} {l : Launch} {a0 : Nat} {x1 : Int32} {μ : Mem} {r : Int32} (h : X9_seamOdds a0 x1 μ = some r) : MtI G l yX9_seamOdds cX9_seamOdds 4 (some .int) rm_X9_seamOdds false [.ref (gZ G + a0), .int x1] μ r μ := met_I (by decide) rfl rfl (Nat.le_of_ble_eq_true rfl) (fun X _ C _ _ hret => wk_X9_seamOdds C h hret)
set_option maxRecDepth 100000 in
set_option maxHeartbeats 4000000 in
theorem wk_X6_isMust {G : GL} {X : CX} {a0 : Nat} {μ : Mem} {r : Int32} (C : Ctx G X cX6_isMust 1 RX6 rm_X6_isMust) (h : X6_isMust a0 μ = some r) (hret : RtZ G 1 X cX6_isMust 0 0 r μ) : AW G 1 X 0 0 0 [(0, .ref (gZ G + a0))] [] μ := by
  unfold X6_isMust at h
  refine aw_aload_n C 0 dX6_isMust_0 rfl rfl ?_
  obtain ⟨v1, hv1, h⟩ := bindE h
  refine aw_gI C fl_X6_34 rfl hv1 dX6_isMust_1 ?_
  obtain ⟨z5, hz5, h⟩ := bindE h
  have kj4 : AW G 1 X 0 0 20 [] [.int z5] μ := by
    obtain ⟨v6, hv6, h⟩ := bindE h
    obtain ⟨ev6, zv6⟩ := zzE hv6
    refine aw_topi ev6 ?_
    have e9 := inj1 h
    subst e9
    exact hret _ _ dX6_isMust_20 zv6
  replace h := hz5
  refine aw_if_eq C 15 dX6_isMust_4 (by decide) (fun c2 => ?_) (fun c2 => ?_)
  · rw [if_pos c2] at h
    refine aw_iconst C 1 dX6_isMust_15 (by decide) ?_
    refine aw_goto C 20 dX6_isMust_16 (by decide) ?_
    have e9 := inj1 h
    subst e9
    exact aw_sub [] rfl kj4
  · rw [if_neg c2] at h
    refine aw_aload_n C 0 dX6_isMust_7 rfl rfl ?_
    obtain ⟨v3, hv3, h⟩ := bindE h
    refine aw_gI C fl_X6_34 rfl hv3 dX6_isMust_8 ?_
    refine aw_iconst C 3 dX6_isMust_11 (by decide) ?_
    refine aw_icmp_ne C 19 dX6_isMust_12 (by decide) (fun c4 => ?_) (fun c4 => ?_)
    · rw [if_neg c4] at h
      refine aw_iconst C 0 dX6_isMust_19 (by decide) ?_
      have e9 := inj1 h
      subst e9
      exact aw_sub [] rfl kj4
    · rw [if_pos c4] at h
      refine aw_iconst C 1 dX6_isMust_15 (by decide) ?_
      refine aw_goto C 20 dX6_isMust_16 (by decide) ?_
      have e9 := inj1 h
      subst e9
      exact aw_sub [] rfl kj4
set_option maxRecDepth 100000 in
set_option maxHeartbeats 4000000 in
theorem mt_X6_isMust {G : GL} {l : Launch} {a0 : Nat} {μ : Mem} {r : Int32} (h : X6_isMust a0 μ = some r) : MtI G l yX6_isMust cX6_isMust 1 (some .boolean) rm_X6_isMust false [.ref (gZ G + a0)] μ r μ := met_Z (by decide) rfl (Nat.le_of_ble_eq_true rfl) (fun X _ C _ _ hret => wk_X6_isMust C h hret)
set_option maxRecDepth 100000 in
set_option maxHeartbeats 4000000 in
theorem wk_X6_valueIn {G : GL} {X : CX} {a0 : Nat} {x1 : Int32} {x2 : Int32} {μ : Mem} {r : Int32} (C : Ctx G X cX6_valueIn 4 RX6 rm_X6_valueIn) (h : X6_valueIn a0 x1 x2 μ = some r) (hret : RtI G 4 X cX6_valueIn 0 0 r μ) : AW G 4 X 0 0 0 [(0, .ref (gZ G + a0)), (1, .int x1), (2, .int x2)] [] μ := by
  unfold X6_valueIn at h
  refine aw_aload_n C 0 dX6_valueIn_0 rfl rfl ?_
  obtain ⟨v1, hv1, h⟩ := bindE h
  refine aw_gI C fl_X6_9 rfl hv1 dX6_valueIn_1 ?_
  refine aw_if_ne C 15 dX6_valueIn_4 (by decide) (fun c2 => ?_) (fun c2 => ?_)
  · rw [if_neg c2] at h
    refine aw_iconst C 0 dX6_valueIn_15 (by decide) ?_
    have e9 := inj1 h
    subst e9
    exact hret _ _ dX6_valueIn_16
  · rw [if_pos c2] at h
    refine aw_iload_n C 1 dX6_valueIn_7 rfl rfl ?_
    refine aw_aload_n C 0 dX6_valueIn_8 rfl rfl ?_
    obtain ⟨v3, hv3, h⟩ := bindE h
    refine aw_gI C fl_X6_15 rfl hv3 dX6_valueIn_9 ?_
    refine aw_icmp_le C 17 dX6_valueIn_12 (by decide) (fun c4 => ?_) (fun c4 => ?_)
    · rw [if_pos c4] at h
      refine aw_iconst C 0 dX6_valueIn_17 (by decide) ?_
      refine aw_aload_n C 0 dX6_valueIn_18 rfl rfl ?_
      obtain ⟨v5, hv5, h⟩ := bindE h
      refine aw_gI C fl_X6_19 rfl hv5 dX6_valueIn_19 ?_
      refine aw_aload_n C 0 dX6_valueIn_22 rfl rfl ?_
      obtain ⟨v6, hv6, h⟩ := bindE h
      refine aw_gI C fl_X6_22 rfl hv6 dX6_valueIn_23 ?_
      refine aw_iload_n C 1 dX6_valueIn_26 rfl rfl ?_
      refine aw_aload_n C 0 dX6_valueIn_27 rfl rfl ?_
      obtain ⟨v7, hv7, h⟩ := bindE h
      refine aw_gI C fl_X6_25 rfl hv7 dX6_valueIn_28 ?_
      refine aw_isub C dX6_valueIn_31 ?_
      refine aw_imul C dX6_valueIn_32 ?_
      refine aw_isub C dX6_valueIn_33 ?_
      refine aw_mmax C ml_X6_28 (by decide) (by decide) ⟨Nat.zero_le _, Nat.zero_le _⟩ (Nat.le_of_ble_eq_true rfl) dX6_valueIn_34 ?_
      obtain ⟨v8, ev8, h⟩ := bindS h
      refine aw_topi ev8 ?_
      refine aw_istore_n C [(3, .int v8), (0, .ref (gZ G + a0)), (1, .int x1), (2, .int x2)] dX6_valueIn_37 rfl (by decide) rfl ?_
      refine aw_aload_n C 1 dX6_valueIn_38 rfl rfl ?_
      obtain ⟨v9, hv9, h⟩ := bindE h
      refine aw_gI C fl_X6_34 rfl hv9 dX6_valueIn_39 ?_
      refine aw_iconst C 2 dX6_valueIn_42 (by decide) ?_
      obtain ⟨z12, hz12, h⟩ := bindE h
      have kj43 : AW G 4 X 0 0 60 [] [.int z12] μ := by
        have e9 := inj1 h
        subst e9
        exact hret _ _ dX6_valueIn_60
      replace h := hz12
      refine aw_icmp_ne C 59 dX6_valueIn_43 (by decide) (fun c10 => ?_) (fun c10 => ?_)
      · rw [if_neg c10] at h
        refine aw_iload_n C 0 dX6_valueIn_59 rfl rfl ?_
        have e9 := inj1 h
        subst e9
        exact aw_sub [] rfl kj43
      · rw [if_pos c10] at h
        refine aw_iload_n C 0 dX6_valueIn_46 rfl rfl ?_
        refine aw_i2l C dX6_valueIn_47 ?_
        refine aw_iload_n C 3 dX6_valueIn_48 rfl rfl ?_
        refine aw_i2l C dX6_valueIn_49 ?_
        refine aw_lmul C dX6_valueIn_50 ?_
        refine aw_ldc2 C kl_X6_37 dX6_valueIn_51 ?_
        obtain ⟨v11, hv11, h⟩ := bindE h
        refine aw_ldiv C hv11 dX6_valueIn_54 ?_
        refine aw_l2i C dX6_valueIn_55 ?_
        refine aw_goto C 60 dX6_valueIn_56 (by decide) ?_
        have e9 := inj1 h
        subst e9
        exact aw_sub [] rfl kj43
    · rw [if_neg c4] at h
      refine aw_iconst C 0 dX6_valueIn_15 (by decide) ?_
      have e9 := inj1 h
      subst e9
      exact hret _ _ dX6_valueIn_16
set_option maxRecDepth 100000 in
set_option maxHeartbeats 4000000 in
theorem mt_X6_valueIn {G : GL} {l : Launch} {a0 : Nat} {x1 : Int32} {x2 : Int32} {μ : Mem} {r : Int32} (h : X6_valueIn a0 x1 x2 μ = some r) : MtI G l yX6_valueIn cX6_valueIn 4 (some .int) rm_X6_valueIn false [.ref (gZ G + a0), .int x1, .int x2] μ r μ := met_I (by decide) rfl rfl (Nat.le_of_ble_eq_true rfl) (fun X _ C _ _ hret => wk_X6_valueIn C h hret)
set_option maxRecDepth 100000 in
set_option maxHeartbeats 4000000 in
theorem wk_X6_planValueIn {G : GL} {X : CX} {a0 : Nat} {x1 : Int32} {x2 : Int32} {μ : Mem} {r : Int32} (C : Ctx G X cX6_planValueIn 4 RX6 rm_X6_planValueIn) (h : X6_planValueIn a0 x1 x2 μ = some r) (hret : RtI G 4 X cX6_planValueIn 0 0 r μ) : AW G 4 X 0 0 0 [(0, .ref (gZ G + a0)), (1, .int x1), (2, .int x2)] [] μ := by
  unfold X6_planValueIn at h
  refine aw_aload_n C 0 dX6_planValueIn_0 rfl rfl ?_
  obtain ⟨g1, hg1, h⟩ := bindE h
  obtain ⟨v2, hv2, h⟩ := bindE h
  refine aw_cV_I C [] _ (mt_X6_isMust hv2) cs_X6_isMust ml_X6_39 im_X6_isMust se_X6_isMust (ci := 6) rfl rfl hg1 ⟨by decide, by decide⟩ ⟨rfl, rfl⟩ ⟨Nat.zero_le _, Nat.zero_le _⟩ rfl rfl (Nat.le_of_ble_eq_true rfl) dX6_planValueIn_1 ?_
  obtain ⟨z6, hz6, h⟩ := bindE h
  have kj4 : AW G 4 X 0 0 22 [(0, .ref (gZ G + a0)), (1, .int x1), (2, .int x2)] [.int z6] μ := by
    refine aw_istore_n C [(3, .int z6), (0, .ref (gZ G + a0)), (1, .int x1), (2, .int x2)] dX6_planValueIn_22 rfl (by decide) rfl ?_
    refine aw_aload_n C 1 dX6_planValueIn_23 rfl rfl ?_
    refine aw_iload_n C 2 dX6_planValueIn_24 rfl rfl ?_
    refine aw_iload_n C 3 dX6_planValueIn_25 rfl rfl ?_
    obtain ⟨g7, hg7, h⟩ := bindE h
    obtain ⟨v8, hv8, h⟩ := bindE h
    refine aw_cV_I C [.int x1, .int x2] _ (mt_X6_valueIn hv8) cs_X6_valueIn ml_X6_43 im_X6_valueIn se_X6_valueIn (ci := 6) rfl rfl hg7 ⟨by decide, by decide⟩ ⟨rfl, rfl⟩ ⟨Nat.zero_le _, Nat.zero_le _⟩ rfl rfl (Nat.le_of_ble_eq_true rfl) dX6_planValueIn_26 ?_
    refine aw_iload_n C 0 dX6_planValueIn_29 rfl rfl ?_
    refine aw_iadd C dX6_planValueIn_30 ?_
    have e9 := inj1 h
    subst e9
    exact hret _ _ dX6_planValueIn_31
  replace h := hz6
  refine aw_if_eq C 21 dX6_planValueIn_4 (by decide) (fun c3 => ?_) (fun c3 => ?_)
  · rw [if_pos c3] at h
    refine aw_iconst C 0 dX6_planValueIn_21 (by decide) ?_
    have e9 := inj1 h
    subst e9
    exact aw_sub [0, 1, 2] rfl kj4
  · rw [if_neg c3] at h
    refine aw_iload_n C 1 dX6_planValueIn_7 rfl rfl ?_
    refine aw_aload_n C 0 dX6_planValueIn_8 rfl rfl ?_
    obtain ⟨v4, hv4, h⟩ := bindE h
    refine aw_gI C fl_X6_15 rfl hv4 dX6_planValueIn_9 ?_
    refine aw_icmp_gt C 21 dX6_planValueIn_12 (by decide) (fun c5 => ?_) (fun c5 => ?_)
    · rw [if_pos c5] at h
      refine aw_iconst C 0 dX6_planValueIn_21 (by decide) ?_
      have e9 := inj1 h
      subst e9
      exact aw_sub [0, 1, 2] rfl kj4
    · rw [if_neg c5] at h
      refine aw_sipush C 2000 dX6_planValueIn_15 (by decide) ?_
      refine aw_goto C 22 dX6_planValueIn_18 (by decide) ?_
      have e9 := inj1 h
      subst e9
      exact aw_sub [0, 1, 2] rfl kj4
set_option maxRecDepth 100000 in
set_option maxHeartbeats 4000000 in
theorem mt_X6_planValueIn {G : GL} {l : Launch} {a0 : Nat} {x1 : Int32} {x2 : Int32} {μ : Mem} {r : Int32} (h : X6_planValueIn a0 x1 x2 μ = some r) : MtI G l yX6_planValueIn cX6_planValueIn 4 (some .int) rm_X6_planValueIn false [.ref (gZ G + a0), .int x1, .int x2] μ r μ := met_I (by decide) rfl rfl (Nat.le_of_ble_eq_true rfl) (fun X _ C _ _ hret => wk_X6_planValueIn C h hret)
set_option maxRecDepth 100000 in
set_option maxHeartbeats 4000000 in
theorem X4_priceSet_L27_ok {G : GL} {X : CX} (C : Ctx G X cX4_priceSet 5 RX4 rm_X4_priceSet) (a0 : Nat) (x1 : Int32) (x2 : Int32) : ∀ (n : Nat) (x3 : Int32) (μ : Mem) (z : Int32 × Mem), X4_priceSet_L27 a0 x1 x2 n x3 μ = some z → AW G 5 X 0 0 110 [(0, .ref (gZ G + a0)), (1, .int x1), (2, .int x2), (3, .int z.1)] [] z.2 → AW G 5 X 0 0 27 [(0, .ref (gZ G + a0)), (1, .int x1), (2, .int x2), (3, .int x3)] [] μ := by
  intro n
  induction n with
  | zero =>
    intro x3 μ z h kx
    rw [X4_priceSet_L27] at h
    cases h
  | succ n ih =>
    intro x3 μ z h kx
    rw [X4_priceSet_L27] at h
    refine aw_iload_n C 3 dX4_priceSet_27 rfl rfl ?_
    refine aw_iconst C 4 dX4_priceSet_28 (by decide) ?_
    refine aw_icmp_ge C 110 dX4_priceSet_29 (by decide) (fun c1 => ?_) (fun c1 => ?_)
    · rw [if_pos c1] at h
      have e9 := inj1 h
      subst e9
      exact aw_sub [0, 1, 2, 3] rfl kx
    · rw [if_neg c1] at h
      refine aw_aload_n C 0 dX4_priceSet_32 rfl rfl ?_
      obtain ⟨v2, hv2, h⟩ := bindE h
      refine aw_gR C fl_X4_34 rfl hv2 dX4_priceSet_33 ?_
      refine aw_iload_n C 2 dX4_priceSet_36 rfl rfl ?_
      obtain ⟨v3, hv3, h⟩ := bindE h
      refine aw_aI C hv3 dX4_priceSet_37 ?_
      refine aw_aload_n C 0 dX4_priceSet_38 rfl rfl ?_
      obtain ⟨v4, hv4, h⟩ := bindE h
      refine aw_gR C fl_X4_56 rfl hv4 dX4_priceSet_39 ?_
      obtain ⟨v5, hv5, h⟩ := bindE h
      refine aw_gR C fl_X4_167 rfl hv5 dX4_priceSet_42 ?_
      refine aw_iload_n C 3 dX4_priceSet_45 rfl rfl ?_
      obtain ⟨v6, hv6, h⟩ := bindE h
      refine aw_aI C hv6 dX4_priceSet_46 ?_
      refine aw_imul C dX4_priceSet_47 ?_
      refine aw_bipush C 100 dX4_priceSet_48 (by decide) ?_
      obtain ⟨v7, hv7, h⟩ := bindE h
      refine aw_idiv C hv7 dX4_priceSet_50 ?_
      refine aw_aload_n C 0 dX4_priceSet_51 rfl rfl ?_
      obtain ⟨v8, hv8, h⟩ := bindE h
      refine aw_gR C fl_X4_37 rfl hv8 dX4_priceSet_52 ?_
      refine aw_iload_n C 3 dX4_priceSet_55 rfl rfl ?_
      obtain ⟨v9, hv9, h⟩ := bindE h
      refine aw_aI C hv9 dX4_priceSet_56 ?_
      refine aw_isub C dX4_priceSet_57 ?_
      obtain ⟨v10, ev10, h⟩ := bindS h
      refine aw_topi ev10 ?_
      refine aw_istore C [(4, .int v10), (0, .ref (gZ G + a0)), (1, .int x1), (2, .int x2), (3, .int x3)] dX4_priceSet_58 (by decide) rfl ?_
      refine aw_iload C 0 dX4_priceSet_60 rfl ?_
      refine aw_aload_n C 1 dX4_priceSet_62 rfl rfl ?_
      obtain ⟨v11, hv11, h⟩ := bindE h
      refine aw_gR C fl_X4_40 rfl hv11 dX4_priceSet_63 ?_
      refine aw_iload_n C 2 dX4_priceSet_66 rfl rfl ?_
      obtain ⟨v12, hv12, h⟩ := bindE h
      refine aw_aI C hv12 dX4_priceSet_67 ?_
      obtain ⟨z24, hz24, h⟩ := bindE h
      have kj68 : AW G 5 X 0 0 104 [(0, .ref (gZ G + a0)), (1, .int x1), (2, .int x2), (3, .int x3)] [] z24 := by
        refine aw_iinc C (x3 + 1) 3 [(3, .int (x3 + 1)), (0, .ref (gZ G + a0)), (1, .int x1), (2, .int x2)] dX4_priceSet_104 rfl rfl (by decide) rfl ?_
        refine aw_goto C 27 dX4_priceSet_107 (by decide) ?_
        exact aw_sub [1, 2, 3, 0] rfl (ih _ _ _ h kx)
      replace h := hz24
      refine aw_icmp_le C 104 dX4_priceSet_68 (by decide) (fun c13 => ?_) (fun c13 => ?_)
      · rw [if_pos c13] at h
        have e9 := inj1 h
        subst e9
        exact aw_sub [1, 2, 3, 4] rfl kj68
      · rw [if_neg c13] at h
        refine aw_aload_n C 1 dX4_priceSet_71 rfl rfl ?_
        obtain ⟨v14, hv14, h⟩ := bindE h
        refine aw_gR C fl_X4_21 rfl hv14 dX4_priceSet_72 ?_
        refine aw_aload_n C 1 dX4_priceSet_75 rfl rfl ?_
        obtain ⟨v15, hv15, h⟩ := bindE h
        refine aw_gR C fl_X4_28 rfl hv15 dX4_priceSet_76 ?_
        refine aw_iload_n C 3 dX4_priceSet_79 rfl rfl ?_
        obtain ⟨v16, hv16, h⟩ := bindE h
        refine aw_aI C hv16 dX4_priceSet_80 ?_
        refine aw_iload_n C 4 dX4_priceSet_81 rfl rfl ?_
        refine aw_iconst C 0 dX4_priceSet_82 (by decide) ?_
        obtain ⟨g17, hg17, h⟩ := bindE h
        obtain ⟨v18, hv18, h⟩ := bindE h
        refine aw_cV_I C [.int v16, .int x3, .int 0] _ (mt_X1_bar hv18) cs_X1_bar ml_X4_170 im_X1_bar se_X1_bar (ci := 1) rfl rfl hg17 ⟨by decide, by decide⟩ ⟨rfl, rfl⟩ ⟨Nat.zero_le _, Nat.zero_le _⟩ rfl rfl (Nat.le_of_ble_eq_true rfl) dX4_priceSet_83 ?_
        refine aw_if_ne C 104 dX4_priceSet_86 (by decide) (fun c19 => ?_) (fun c19 => ?_)
        · rw [if_neg c19] at h
          have e9 := inj1 h
          subst e9
          exact aw_sub [1, 2, 3, 4] rfl kj68
        · rw [if_pos c19] at h
          refine aw_aload_n C 1 dX4_priceSet_89 rfl rfl ?_
          obtain ⟨v20, hv20, h⟩ := bindE h
          refine aw_gR C fl_X4_40 rfl hv20 dX4_priceSet_90 ?_
          refine aw_iload_n C 2 dX4_priceSet_93 rfl rfl ?_
          refine aw_iload C 0 dX4_priceSet_94 rfl ?_
          obtain ⟨μ21, hμ21, h⟩ := bindE h
          refine aw_sI C hμ21 dX4_priceSet_96 ?_
          refine aw_aload_n C 1 dX4_priceSet_97 rfl rfl ?_
          obtain ⟨v22, hv22, h⟩ := bindE h
          refine aw_gR C fl_X4_43 rfl hv22 dX4_priceSet_98 ?_
          refine aw_iload_n C 2 dX4_priceSet_101 rfl rfl ?_
          refine aw_iload_n C 4 dX4_priceSet_102 rfl rfl ?_
          obtain ⟨μ23, hμ23, h⟩ := bindE h
          refine aw_sI C hμ23 dX4_priceSet_103 ?_
          have e9 := inj1 h
          subst e9
          exact aw_sub [1, 2, 3, 4] rfl kj68
set_option maxRecDepth 100000 in
set_option maxHeartbeats 4000000 in
theorem wk_X4_priceSet {G : GL} {X : CX} {a0 : Nat} {x1 : Int32} {x2 : Int32} {μ : Mem} {μ' : Mem} (C : Ctx G X cX4_priceSet 5 RX4 rm_X4_priceSet) (h : X4_priceSet a0 x1 x2 μ = some μ') (hret : RtV G 5 X cX4_priceSet 0 0 μ') : AW G 5 X 0 0 0 [(0, .ref (gZ G + a0)), (1, .int x1), (2, .int x2)] [] μ := by
  unfold X4_priceSet at h
  refine aw_aload_n C 0 dX4_priceSet_0 rfl rfl ?_
  obtain ⟨v1, hv1, h⟩ := bindE h
  refine aw_gR C fl_X4_40 rfl hv1 dX4_priceSet_1 ?_
  refine aw_iload_n C 1 dX4_priceSet_4 rfl rfl ?_
  refine aw_iconst C 0 dX4_priceSet_5 (by decide) ?_
  obtain ⟨μ2, hμ2, h⟩ := bindE h
  refine aw_sI C hμ2 dX4_priceSet_6 ?_
  refine aw_aload_n C 0 dX4_priceSet_7 rfl rfl ?_
  obtain ⟨v3, hv3, h⟩ := bindE h
  refine aw_gR C fl_X4_43 rfl hv3 dX4_priceSet_8 ?_
  refine aw_iload_n C 1 dX4_priceSet_11 rfl rfl ?_
  refine aw_iconst C ((-1)) dX4_priceSet_12 (by decide) ?_
  obtain ⟨μ4, hμ4, h⟩ := bindE h
  refine aw_sI C hμ4 dX4_priceSet_13 ?_
  refine aw_aload_n C 0 dX4_priceSet_14 rfl rfl ?_
  obtain ⟨v5, hv5, h⟩ := bindE h
  refine aw_gR C fl_X4_31 rfl hv5 dX4_priceSet_15 ?_
  refine aw_iload_n C 2 dX4_priceSet_18 rfl rfl ?_
  obtain ⟨v6, hv6, h⟩ := bindE h
  refine aw_aI C hv6 dX4_priceSet_19 ?_
  refine aw_iconst C ((-1)) dX4_priceSet_20 (by decide) ?_
  refine aw_icmp_ne C 25 dX4_priceSet_21 (by decide) (fun c7 => ?_) (fun c7 => ?_)
  · rw [if_neg c7] at h
    refine aw_iconst C 0 dX4_priceSet_25 (by decide) ?_
    refine aw_istore_n C [(3, .int 0), (0, .ref (gZ G + a0)), (1, .int x1), (2, .int x2)] dX4_priceSet_26 rfl (by decide) rfl ?_
    obtain ⟨z8, hz8, h⟩ := bindE h
    refine aw_sub [1, 2, 3, 0] rfl ?_
    refine X4_priceSet_L27_ok C _ _ _ _ _ _ _ hz8 ?_
    have e9 := inj1 h
    subst e9
    exact hret _ _ dX4_priceSet_110
  · rw [if_pos c7] at h
    have e9 := inj1 h
    subst e9
    exact hret _ _ dX4_priceSet_24
set_option maxRecDepth 100000 in
set_option maxHeartbeats 4000000 in
theorem mt_X4_priceSet {G : GL} {l : Launch} {a0 : Nat} {x1 : Int32} {x2 : Int32} {μ : Mem} {μ' : Mem} (h : X4_priceSet a0 x1 x2 μ = some μ') : MtV G l yX4_priceSet cX4_priceSet 5 none rm_X4_priceSet false [.ref (gZ G + a0), .int x1, .int x2] μ μ' := met_V (by decide) rfl (Nat.le_of_ble_eq_true rfl) (fun X _ C _ _ hret => wk_X4_priceSet C h hret)
set_option maxRecDepth 100000 in
set_option maxHeartbeats 4000000 in
theorem X4_price_L25_ok {G : GL} {X : CX} (C : Ctx G X cX4_price 7 RX4 rm_X4_price) (a0 : Nat) (x1 : Int32) (x2 : Int32) : ∀ (n : Nat) (x4 : Int32) (μ : Mem) (z : Int32 × Mem), X4_price_L25 a0 x1 x2 n x4 μ = some z → AW G 7 X 0 0 62 [(0, .ref (gZ G + a0)), (1, .int x1), (2, .int x2), (4, .int z.1)] [] z.2 → AW G 7 X 0 0 25 [(0, .ref (gZ G + a0)), (1, .int x1), (2, .int x2), (4, .int x4)] [] μ := by
  intro n
  induction n with
  | zero =>
    intro x4 μ z h kx
    rw [X4_price_L25] at h
    cases h
  | succ n ih =>
    intro x4 μ z h kx
    rw [X4_price_L25] at h
    refine aw_iload C 3 dX4_price_25 rfl ?_
    refine aw_iconst C 4 dX4_price_27 (by decide) ?_
    refine aw_icmp_ge C 62 dX4_price_28 (by decide) (fun c1 => ?_) (fun c1 => ?_)
    · rw [if_pos c1] at h
      have e9 := inj1 h
      subst e9
      exact aw_sub [0, 1, 2, 3] rfl kx
    · rw [if_neg c1] at h
      refine aw_aload_n C 0 dX4_price_31 rfl rfl ?_
      obtain ⟨v2, hv2, h⟩ := bindE h
      refine aw_gR C fl_X4_37 rfl hv2 dX4_price_32 ?_
      refine aw_iload C 3 dX4_price_35 rfl ?_
      refine aw_aload_n C 0 dX4_price_37 rfl rfl ?_
      obtain ⟨v3, hv3, h⟩ := bindE h
      refine aw_gR C fl_X4_56 rfl hv3 dX4_price_38 ?_
      refine aw_iload C 3 dX4_price_41 rfl ?_
      refine aw_aload_n C 0 dX4_price_43 rfl rfl ?_
      obtain ⟨v4, hv4, h⟩ := bindE h
      refine aw_gR C fl_X4_52 rfl hv4 dX4_price_44 ?_
      obtain ⟨v5, hv5, h⟩ := bindE h
      refine aw_gR C fl_X4_143 rfl hv5 dX4_price_47 ?_
      refine aw_iload_n C 1 dX4_price_50 rfl rfl ?_
      obtain ⟨v6, hv6, h⟩ := bindE h
      refine aw_aR C (by decide) (ty := .array .int) rfl rfl hv6 dX4_price_51 ?_
      obtain ⟨g7, hg7, h⟩ := bindE h
      obtain ⟨v8, hv8, h⟩ := bindE h
      refine aw_cV_I C [.int x4, .ref (gZ G + v6)] _ (mt_X8_lossBy hv8) cs_X8_lossBy ml_X4_151 im_X8_lossBy se_X8_lossBy (ci := 8) rfl rfl hg7 ⟨by decide, by decide⟩ ⟨rfl, rfl⟩ ⟨Nat.zero_le _, Nat.zero_le _⟩ rfl rfl (Nat.le_of_ble_eq_true rfl) dX4_price_52 ?_
      obtain ⟨μ9, hμ9, h⟩ := bindE h
      refine aw_sI C hμ9 dX4_price_55 ?_
      refine aw_iinc C (x4 + 1) 3 [(4, .int (x4 + 1)), (0, .ref (gZ G + a0)), (1, .int x1), (2, .int x2)] dX4_price_56 rfl rfl (by decide) rfl ?_
      refine aw_goto C 25 dX4_price_59 (by decide) ?_
      exact aw_sub [1, 2, 3, 0] rfl (ih _ _ _ h kx)
set_option maxRecDepth 100000 in
set_option maxHeartbeats 4000000 in
theorem X4_price_L113_ok {G : GL} {X : CX} (C : Ctx G X cX4_price 7 RX4 rm_X4_price) (a0 : Nat) (x1 : Int32) (x2 : Int32) (x4 : Int32) (x5 : Int32) : ∀ (n : Nat) (x6 : Int32) (μ : Mem) (z : Int32 × Mem), X4_price_L113 a0 x1 x2 x4 x5 n x6 μ = some z → AW G 7 X 0 0 150 [(0, .ref (gZ G + a0)), (1, .int x1), (2, .int x2), (4, .int x4), (5, .int x5), (6, .int z.1)] [] z.2 → AW G 7 X 0 0 113 [(0, .ref (gZ G + a0)), (1, .int x1), (2, .int x2), (4, .int x4), (5, .int x5), (6, .int x6)] [] μ := by
  intro n
  induction n with
  | zero =>
    intro x6 μ z h kx
    rw [X4_price_L113] at h
    cases h
  | succ n ih =>
    intro x6 μ z h kx
    rw [X4_price_L113] at h
    refine aw_iload C 5 dX4_price_113 rfl ?_
    refine aw_iconst C 1 dX4_price_115 (by decide) ?_
    refine aw_iload C 3 dX4_price_116 rfl ?_
    refine aw_ishl C dX4_price_118 ?_
    refine aw_icmp_ge C 150 dX4_price_119 (by decide) (fun c1 => ?_) (fun c1 => ?_)
    · rw [if_pos c1] at h
      have e9 := inj1 h
      subst e9
      exact aw_sub [0, 1, 2, 3, 4, 5] rfl kx
    · rw [if_neg c1] at h
      refine aw_aload_n C 0 dX4_price_122 rfl rfl ?_
      obtain ⟨v2, hv2, h⟩ := bindE h
      refine aw_gR C fl_X4_34 rfl hv2 dX4_price_123 ?_
      refine aw_iload C 5 dX4_price_126 rfl ?_
      refine aw_iconst C 1 dX4_price_128 (by decide) ?_
      refine aw_iload C 3 dX4_price_129 rfl ?_
      refine aw_ishl C dX4_price_131 ?_
      refine aw_ior C dX4_price_132 ?_
      refine aw_aload_n C 0 dX4_price_133 rfl rfl ?_
      obtain ⟨v3, hv3, h⟩ := bindE h
      refine aw_gR C fl_X4_34 rfl hv3 dX4_price_134 ?_
      refine aw_iload C 5 dX4_price_137 rfl ?_
      obtain ⟨v4, hv4, h⟩ := bindE h
      refine aw_aI C hv4 dX4_price_139 ?_
      refine aw_iload C 4 dX4_price_140 rfl ?_
      refine aw_iadd C dX4_price_142 ?_
      obtain ⟨μ5, hμ5, h⟩ := bindE h
      refine aw_sI C hμ5 dX4_price_143 ?_
      refine aw_iinc C (x6 + 1) 5 [(6, .int (x6 + 1)), (0, .ref (gZ G + a0)), (1, .int x1), (2, .int x2), (4, .int x4), (5, .int x5)] dX4_price_144 rfl rfl (by decide) rfl ?_
      refine aw_goto C 113 dX4_price_147 (by decide) ?_
      exact aw_sub [1, 2, 3, 4, 5, 0] rfl (ih _ _ _ h kx)
set_option maxRecDepth 100000 in
set_option maxHeartbeats 4000000 in
theorem X4_price_L72_ok {G : GL} {X : CX} (C : Ctx G X cX4_price 7 RX4 rm_X4_price) (a0 : Nat) (x1 : Int32) (x2 : Int32) : ∀ (n : Nat) (x4 : Int32) (μ : Mem) (z : Int32 × Mem), X4_price_L72 a0 x1 x2 n x4 μ = some z → AW G 7 X 0 0 156 [(0, .ref (gZ G + a0)), (1, .int x1), (2, .int x2), (4, .int z.1)] [] z.2 → AW G 7 X 0 0 72 [(0, .ref (gZ G + a0)), (1, .int x1), (2, .int x2), (4, .int x4)] [] μ := by
  intro n
  induction n with
  | zero =>
    intro x4 μ z h kx
    rw [X4_price_L72] at h
    cases h
  | succ n ih =>
    intro x4 μ z h kx
    rw [X4_price_L72] at h
    refine aw_iload C 3 dX4_price_72 rfl ?_
    refine aw_aload_n C 0 dX4_price_74 rfl rfl ?_
    obtain ⟨v1, hv1, h⟩ := bindE h
    refine aw_gI C fl_X4_108 rfl hv1 dX4_price_75 ?_
    refine aw_icmp_ge C 156 dX4_price_78 (by decide) (fun c2 => ?_) (fun c2 => ?_)
    · rw [if_pos c2] at h
      have e9 := inj1 h
      subst e9
      exact aw_sub [0, 1, 2, 3] rfl kx
    · rw [if_neg c2] at h
      refine aw_aload_n C 0 dX4_price_81 rfl rfl ?_
      obtain ⟨v3, hv3, h⟩ := bindE h
      refine aw_gR C fl_X4_60 rfl hv3 dX4_price_82 ?_
      obtain ⟨v4, hv4, h⟩ := bindE h
      refine aw_gR C fl_X4_124 rfl hv4 dX4_price_85 ?_
      refine aw_aload_n C 0 dX4_price_88 rfl rfl ?_
      obtain ⟨v5, hv5, h⟩ := bindE h
      refine aw_gR C fl_X4_25 rfl hv5 dX4_price_89 ?_
      refine aw_iload C 3 dX4_price_92 rfl ?_
      obtain ⟨v6, hv6, h⟩ := bindE h
      refine aw_aI C hv6 dX4_price_94 ?_
      obtain ⟨v7, hv7, h⟩ := bindE h
      refine aw_aR C (by decide) (ty := .object RX6) rfl rfl hv7 dX4_price_95 ?_
      refine aw_iload_n C 2 dX4_price_96 rfl rfl ?_
      refine aw_aload_n C 0 dX4_price_97 rfl rfl ?_
      obtain ⟨v8, hv8, h⟩ := bindE h
      refine aw_gR C fl_X4_52 rfl hv8 dX4_price_98 ?_
      refine aw_iload_n C 1 dX4_price_101 rfl rfl ?_
      obtain ⟨g9, hg9, h⟩ := bindE h
      obtain ⟨v10, hv10, h⟩ := bindE h
      refine aw_cV_I C [.int x1] _ (mt_X9_seamOdds hv10) cs_X9_seamOdds ml_X4_157 im_X9_seamOdds se_X9_seamOdds (ci := 9) rfl rfl hg9 ⟨by decide, by decide⟩ ⟨rfl, rfl⟩ ⟨Nat.zero_le _, Nat.zero_le _⟩ rfl rfl (Nat.le_of_ble_eq_true rfl) dX4_price_102 ?_
      obtain ⟨g11, hg11, h⟩ := bindE h
      obtain ⟨v12, hv12, h⟩ := bindE h
      refine aw_cV_I C [.int x2, .int v10] _ (mt_X6_planValueIn hv12) cs_X6_planValueIn ml_X4_161 im_X6_planValueIn se_X6_planValueIn (ci := 6) rfl rfl hg11 ⟨by decide, by decide⟩ ⟨rfl, rfl⟩ ⟨Nat.zero_le _, Nat.zero_le _⟩ rfl rfl (Nat.le_of_ble_eq_true rfl) dX4_price_105 ?_
      refine aw_istore C [(5, .int v12), (0, .ref (gZ G + a0)), (1, .int x1), (2, .int x2), (4, .int x4)] dX4_price_108 (by decide) rfl ?_
      refine aw_iconst C 0 dX4_price_110 (by decide) ?_
      refine aw_istore C [(6, .int 0), (5, .int v12), (0, .ref (gZ G + a0)), (1, .int x1), (2, .int x2), (4, .int x4)] dX4_price_111 (by decide) rfl ?_
      obtain ⟨z13, hz13, h⟩ := bindE h
      refine aw_sub [2, 3, 4, 5, 1, 0] rfl ?_
      refine X4_price_L113_ok C _ _ _ _ _ _ _ _ _ hz13 ?_
      refine aw_iinc C (x4 + 1) 3 [(4, .int (x4 + 1)), (0, .ref (gZ G + a0)), (1, .int x1), (2, .int x2), (5, .int v12), (6, .int z13.1)] dX4_price_150 rfl rfl (by decide) rfl ?_
      refine aw_goto C 72 dX4_price_153 (by decide) ?_
      exact aw_sub [1, 2, 3, 0] rfl (ih _ _ _ h kx)
set_option maxRecDepth 100000 in
set_option maxHeartbeats 4000000 in
theorem X4_price_L159_ok {G : GL} {X : CX} (C : Ctx G X cX4_price 7 RX4 rm_X4_price) (a0 : Nat) (x1 : Int32) : ∀ (n : Nat) (x4 : Int32) (μ : Mem) (z : Int32 × Mem), X4_price_L159 a0 x1 n x4 μ = some z → AW G 7 X 0 0 189 [(0, .ref (gZ G + a0)), (1, .int x1), (4, .int z.1)] [] z.2 → AW G 7 X 0 0 159 [(0, .ref (gZ G + a0)), (1, .int x1), (4, .int x4)] [] μ := by
  intro n
  induction n with
  | zero =>
    intro x4 μ z h kx
    rw [X4_price_L159] at h
    cases h
  | succ n ih =>
    intro x4 μ z h kx
    rw [X4_price_L159] at h
    refine aw_iload C 2 dX4_price_159 rfl ?_
    refine aw_iconst C 1 dX4_price_161 (by decide) ?_
    refine aw_aload_n C 0 dX4_price_162 rfl rfl ?_
    obtain ⟨v1, hv1, h⟩ := bindE h
    refine aw_gI C fl_X4_108 rfl hv1 dX4_price_163 ?_
    refine aw_ishl C dX4_price_166 ?_
    refine aw_icmp_ge C 189 dX4_price_167 (by decide) (fun c2 => ?_) (fun c2 => ?_)
    · rw [if_pos c2] at h
      have e9 := inj1 h
      subst e9
      exact aw_sub [0, 1, 2] rfl kx
    · rw [if_neg c2] at h
      refine aw_aload_n C 0 dX4_price_170 rfl rfl ?_
      refine aw_iload_n C 1 dX4_price_171 rfl rfl ?_
      refine aw_bipush C 64 dX4_price_172 (by decide) ?_
      refine aw_imul C dX4_price_174 ?_
      refine aw_iload C 2 dX4_price_175 rfl ?_
      refine aw_iadd C dX4_price_177 ?_
      refine aw_iload C 2 dX4_price_178 rfl ?_
      obtain ⟨g3, hg3, h⟩ := bindE h
      obtain ⟨μ4, hμ4, h⟩ := bindE h
      refine aw_cV_V C [.int ((x1 * 64) + x4), .int x4] _ (mt_X4_priceSet hμ4) cs_X4_priceSet ml_X4_164 im_X4_priceSet se_X4_priceSet (ci := 4) rfl rfl hg3 ⟨by decide, by decide⟩ ⟨rfl, rfl⟩ ⟨Nat.zero_le _, Nat.zero_le _⟩ rfl rfl (Nat.le_of_ble_eq_true rfl) dX4_price_180 ?_
      refine aw_iinc C (x4 + 1) 2 [(4, .int (x4 + 1)), (0, .ref (gZ G + a0)), (1, .int x1)] dX4_price_183 rfl rfl (by decide) rfl ?_
      refine aw_goto C 159 dX4_price_186 (by decide) ?_
      exact aw_sub [1, 2, 0] rfl (ih _ _ _ h kx)
set_option maxRecDepth 100000 in
set_option maxHeartbeats 4000000 in
theorem wk_X4_price {G : GL} {X : CX} {a0 : Nat} {x1 : Int32} {x2 : Int32} {a3 : Nat} {μ : Mem} {μ' : Mem} (C : Ctx G X cX4_price 7 RX4 rm_X4_price) (h : X4_price a0 x1 x2 a3 μ = some μ') (hret : RtV G 7 X cX4_price 0 0 μ') : AW G 7 X 0 0 0 [(0, .ref (gZ G + a0)), (1, .int x1), (2, .int x2), (3, .ref (gZ G + a3))] [] μ := by
  unfold X4_price at h
  refine aw_aload_n C 0 dX4_price_0 rfl rfl ?_
  obtain ⟨v1, hv1, h⟩ := bindE h
  refine aw_gR C fl_X4_21 rfl hv1 dX4_price_1 ?_
  refine aw_aload_n C 3 dX4_price_4 rfl rfl ?_
  refine aw_aload_n C 0 dX4_price_5 rfl rfl ?_
  obtain ⟨v2, hv2, h⟩ := bindE h
  refine aw_gR C fl_X4_60 rfl hv2 dX4_price_6 ?_
  refine aw_iload_n C 2 dX4_price_9 rfl rfl ?_
  refine aw_aload_n C 0 dX4_price_10 rfl rfl ?_
  obtain ⟨v3, hv3, h⟩ := bindE h
  refine aw_gR C fl_X4_52 rfl hv3 dX4_price_11 ?_
  obtain ⟨v4, hv4, h⟩ := bindE h
  refine aw_gR C fl_X4_143 rfl hv4 dX4_price_14 ?_
  refine aw_iload_n C 1 dX4_price_17 rfl rfl ?_
  obtain ⟨v5, hv5, h⟩ := bindE h
  refine aw_aR C (by decide) (ty := .array .int) rfl rfl hv5 dX4_price_18 ?_
  obtain ⟨g6, hg6, h⟩ := bindE h
  obtain ⟨μ7, hμ7, h⟩ := bindE h
  refine aw_cV_V C [.ref (gZ G + a3), .ref (gZ G + v2), .int x2, .ref (gZ G + v5)] _ (mt_X1_open hμ7) cs_X1_open ml_X4_147 im_X1_open se_X1_open (ci := 1) rfl rfl hg6 ⟨by decide, by decide⟩ ⟨rfl, rfl⟩ ⟨Nat.zero_le _, Nat.zero_le _⟩ rfl rfl (Nat.le_of_ble_eq_true rfl) dX4_price_19 ?_
  refine aw_iconst C 0 dX4_price_22 (by decide) ?_
  refine aw_istore C [(4, .int 0), (0, .ref (gZ G + a0)), (1, .int x1), (2, .int x2), (3, .ref (gZ G + a3))] dX4_price_23 (by decide) rfl ?_
  obtain ⟨z8, hz8, h⟩ := bindE h
  refine aw_sub [1, 2, 3, 0] rfl ?_
  refine X4_price_L25_ok C _ _ _ _ _ _ _ hz8 ?_
  refine aw_aload_n C 0 dX4_price_62 rfl rfl ?_
  obtain ⟨v9, hv9, h⟩ := bindE h
  refine aw_gR C fl_X4_34 rfl hv9 dX4_price_63 ?_
  refine aw_iconst C 0 dX4_price_66 (by decide) ?_
  refine aw_iconst C 0 dX4_price_67 (by decide) ?_
  obtain ⟨μ10, hμ10, h⟩ := bindE h
  refine aw_sI C hμ10 dX4_price_68 ?_
  refine aw_iconst C 0 dX4_price_69 (by decide) ?_
  refine aw_istore C [(4, .int 0), (0, .ref (gZ G + a0)), (1, .int x1), (2, .int x2)] dX4_price_70 (by decide) rfl ?_
  obtain ⟨z11, hz11, h⟩ := bindE h
  refine aw_sub [1, 2, 3, 0] rfl ?_
  refine X4_price_L72_ok C _ _ _ _ _ _ _ hz11 ?_
  refine aw_iconst C 1 dX4_price_156 (by decide) ?_
  refine aw_istore C [(4, .int 1), (0, .ref (gZ G + a0)), (1, .int x1), (2, .int x2)] dX4_price_157 (by decide) rfl ?_
  obtain ⟨z12, hz12, h⟩ := bindE h
  refine aw_sub [1, 2, 0] rfl ?_
  refine X4_price_L159_ok C _ _ _ _ _ _ hz12 ?_
  have e9 := inj1 h
  subst e9
  exact hret _ _ dX4_price_189
set_option maxRecDepth 100000 in
set_option maxHeartbeats 4000000 in
theorem mt_X4_price {G : GL} {l : Launch} {a0 : Nat} {x1 : Int32} {x2 : Int32} {a3 : Nat} {μ : Mem} {μ' : Mem} (h : X4_price a0 x1 x2 a3 μ = some μ') : MtV G l yX4_price cX4_price 7 none rm_X4_price false [.ref (gZ G + a0), .int x1, .int x2, .ref (gZ G + a3)] μ μ' := met_V (by decide) rfl (Nat.le_of_ble_eq_true rfl) (fun X _ C _ _ hret => wk_X4_price C h hret)
set_option maxRecDepth 100000 in
set_option maxHeartbeats 4000000 in
theorem X4_mostBarsAt_L23_ok {G : GL} {X : CX} (C : Ctx G X cX4_mostBarsAt 7 RX4 rm_X4_mostBarsAt) (a0 : Nat) (x1 : Int32) (x2 : Int32) (x3 : Int32) (x4 : Int32) (a5 : Nat) : ∀ (n : Nat) (x6 : Int32) (μ : Mem) (z : Int32 × Mem), X4_mostBarsAt_L23 a0 x1 x2 x3 x4 a5 n x6 μ = some z → AW G 7 X 0 0 54 [(0, .ref (gZ G + a0)), (1, .int x1), (2, .int x2), (3, .int x3), (4, .int x4), (5, .ref (gZ G + a5)), (6, .int z.1)] [] z.2 → AW G 7 X 0 0 23 [(0, .ref (gZ G + a0)), (1, .int x1), (2, .int x2), (3, .int x3), (4, .int x4), (5, .ref (gZ G + a5)), (6, .int x6)] [] μ := by
  intro n
  induction n with
  | zero =>
    intro x6 μ z h kx
    rw [X4_mostBarsAt_L23] at h
    cases h
  | succ n ih =>
    intro x6 μ z h kx
    rw [X4_mostBarsAt_L23] at h
    refine aw_iload C 6 dX4_mostBarsAt_23 rfl ?_
    refine aw_iload_n C 2 dX4_mostBarsAt_25 rfl rfl ?_
    refine aw_icmp_ge C 54 dX4_mostBarsAt_26 (by decide) (fun c1 => ?_) (fun c1 => ?_)
    · rw [if_pos c1] at h
      have e9 := inj1 h
      subst e9
      exact aw_sub [0, 1, 2, 3, 4, 5, 6] rfl kx
    · rw [if_neg c1] at h
      refine aw_aload_n C 0 dX4_mostBarsAt_29 rfl rfl ?_
      obtain ⟨v2, hv2, h⟩ := bindE h
      refine aw_gR C fl_X4_49 rfl hv2 dX4_mostBarsAt_30 ?_
      refine aw_iload_n C 3 dX4_mostBarsAt_33 rfl rfl ?_
      refine aw_iload C 6 dX4_mostBarsAt_34 rfl ?_
      refine aw_iadd C dX4_mostBarsAt_36 ?_
      refine aw_iload_n C 1 dX4_mostBarsAt_37 rfl rfl ?_
      refine aw_iload_n C 2 dX4_mostBarsAt_38 rfl rfl ?_
      refine aw_iconst C 1 dX4_mostBarsAt_39 (by decide) ?_
      refine aw_isub C dX4_mostBarsAt_40 ?_
      refine aw_iload C 6 dX4_mostBarsAt_41 rfl ?_
      refine aw_isub C dX4_mostBarsAt_43 ?_
      refine aw_ishr C dX4_mostBarsAt_44 ?_
      refine aw_iconst C 1 dX4_mostBarsAt_45 (by decide) ?_
      refine aw_iand C dX4_mostBarsAt_46 ?_
      obtain ⟨μ3, hμ3, h⟩ := bindE h
      refine aw_sI C hμ3 dX4_mostBarsAt_47 ?_
      refine aw_iinc C (x6 + 1) 6 [(6, .int (x6 + 1)), (0, .ref (gZ G + a0)), (1, .int x1), (2, .int x2), (3, .int x3), (4, .int x4), (5, .ref (gZ G + a5))] dX4_mostBarsAt_48 rfl rfl (by decide) rfl ?_
      refine aw_goto C 23 dX4_mostBarsAt_51 (by decide) ?_
      exact aw_sub [1, 2, 3, 4, 5, 6, 0] rfl (ih _ _ _ h kx)
set_option maxRecDepth 100000 in
set_option maxHeartbeats 4000000 in
theorem wk_X4_mostBarsAt {G : GL} {X : CX} {a0 : Nat} {x1 : Int32} {x2 : Int32} {x3 : Int32} {x4 : Int32} {a5 : Nat} {μ : Mem} {r : Int32} {μ' : Mem} (C : Ctx G X cX4_mostBarsAt 7 RX4 rm_X4_mostBarsAt) (h : X4_mostBarsAt a0 x1 x2 x3 x4 a5 μ = some (r, μ')) (hret : RtZ G 7 X cX4_mostBarsAt 0 0 r μ') : AW G 7 X 0 0 0 [(0, .ref (gZ G + a0)), (1, .int x1), (2, .int x2), (3, .int x3), (4, .int x4), (5, .ref (gZ G + a5))] [] μ := by
  unfold X4_mostBarsAt at h
  refine aw_aload_n C 0 dX4_mostBarsAt_0 rfl rfl ?_
  obtain ⟨v1, hv1, h⟩ := bindE h
  refine aw_gI C fl_X4_80 rfl hv1 dX4_mostBarsAt_1 ?_
  refine aw_if_eq C 18 dX4_mostBarsAt_4 (by decide) (fun c2 => ?_) (fun c2 => ?_)
  · rw [if_pos c2] at h
    refine aw_iconst C 0 dX4_mostBarsAt_18 (by decide) ?_
    obtain ⟨e8, e9⟩ := inj2 h
    subst e8
    subst e9
    exact hret _ _ dX4_mostBarsAt_19 (Or.inl rfl)
  · rw [if_neg c2] at h
    refine aw_iload_n C 3 dX4_mostBarsAt_7 rfl rfl ?_
    refine aw_iload_n C 2 dX4_mostBarsAt_8 rfl rfl ?_
    refine aw_iadd C dX4_mostBarsAt_9 ?_
    refine aw_aload_n C 0 dX4_mostBarsAt_10 rfl rfl ?_
    obtain ⟨v3, hv3, h⟩ := bindE h
    refine aw_gR C fl_X4_49 rfl hv3 dX4_mostBarsAt_11 ?_
    obtain ⟨v4, hv4, h⟩ := bindE h
    refine aw_aL C hv4 dX4_mostBarsAt_14 ?_
    refine aw_icmp_lt C 20 dX4_mostBarsAt_15 (by decide) (fun c5 => ?_) (fun c5 => ?_)
    · rw [if_pos c5] at h
      refine aw_iconst C 0 dX4_mostBarsAt_20 (by decide) ?_
      refine aw_istore C [(6, .int 0), (0, .ref (gZ G + a0)), (1, .int x1), (2, .int x2), (3, .int x3), (4, .int x4), (5, .ref (gZ G + a5))] dX4_mostBarsAt_21 (by decide) rfl ?_
      obtain ⟨z6, hz6, h⟩ := bindE h
      refine aw_sub [1, 2, 3, 4, 5, 6, 0] rfl ?_
      refine X4_mostBarsAt_L23_ok C _ _ _ _ _ _ _ _ _ _ hz6 ?_
      refine aw_aload_n C 0 dX4_mostBarsAt_54 rfl rfl ?_
      obtain ⟨v7, hv7, h⟩ := bindE h
      refine aw_gR C fl_X4_49 rfl hv7 dX4_mostBarsAt_55 ?_
      refine aw_iload_n C 3 dX4_mostBarsAt_58 rfl rfl ?_
      refine aw_iload_n C 2 dX4_mostBarsAt_59 rfl rfl ?_
      refine aw_iadd C dX4_mostBarsAt_60 ?_
      refine aw_iconst C 0 dX4_mostBarsAt_61 (by decide) ?_
      obtain ⟨μ8, hμ8, h⟩ := bindE h
      refine aw_sI C hμ8 dX4_mostBarsAt_62 ?_
      refine aw_aload_n C 0 dX4_mostBarsAt_63 rfl rfl ?_
      obtain ⟨v9, hv9, h⟩ := bindE h
      refine aw_gR C fl_X4_49 rfl hv9 dX4_mostBarsAt_64 ?_
      refine aw_iload_n C 3 dX4_mostBarsAt_67 rfl rfl ?_
      refine aw_dup2 C dX4_mostBarsAt_68 rfl rfl ?_
      obtain ⟨v10, hv10, h⟩ := bindE h
      refine aw_aI C hv10 dX4_mostBarsAt_69 ?_
      refine aw_iload C 4 dX4_mostBarsAt_70 rfl ?_
      refine aw_iadd C dX4_mostBarsAt_72 ?_
      obtain ⟨μ11, hμ11, h⟩ := bindE h
      refine aw_sI C hμ11 dX4_mostBarsAt_73 ?_
      refine aw_aload C 5 dX4_mostBarsAt_74 rfl ?_
      refine aw_aload_n C 0 dX4_mostBarsAt_76 rfl rfl ?_
      obtain ⟨v12, hv12, h⟩ := bindE h
      refine aw_gR C fl_X4_49 rfl hv12 dX4_mostBarsAt_77 ?_
      refine aw_iload_n C 3 dX4_mostBarsAt_80 rfl rfl ?_
      refine aw_iload_n C 2 dX4_mostBarsAt_81 rfl rfl ?_
      refine aw_iadd C dX4_mostBarsAt_82 ?_
      obtain ⟨g13, hg13, h⟩ := bindE h
      obtain ⟨v14, hv14, h⟩ := bindE h
      refine aw_cV_I C [.ref (gZ G + v12), .int (x3 + x2)] _ (mt_X3_mostBars hv14) cs_X3_mostBars ml_X4_174 im_X3_mostBars se_X3_mostBars (ci := 3) rfl rfl hg13 ⟨by decide, by decide⟩ ⟨rfl, rfl⟩ ⟨Nat.zero_le _, Nat.zero_le _⟩ rfl rfl (Nat.le_of_ble_eq_true rfl) dX4_mostBarsAt_83 ?_
      obtain ⟨v15, hv15, h⟩ := bindE h
      obtain ⟨ev15, zv15⟩ := zzE hv15
      refine aw_topi ev15 ?_
      obtain ⟨e8, e9⟩ := inj2 h
      subst e8
      subst e9
      exact hret _ _ dX4_mostBarsAt_86 zv15
    · rw [if_neg c5] at h
      refine aw_iconst C 0 dX4_mostBarsAt_18 (by decide) ?_
      obtain ⟨e8, e9⟩ := inj2 h
      subst e8
      subst e9
      exact hret _ _ dX4_mostBarsAt_19 (Or.inl rfl)
set_option maxRecDepth 100000 in
set_option maxHeartbeats 4000000 in
theorem mt_X4_mostBarsAt {G : GL} {l : Launch} {a0 : Nat} {x1 : Int32} {x2 : Int32} {x3 : Int32} {x4 : Int32} {a5 : Nat} {μ : Mem} {r : Int32} {μ' : Mem} (h : X4_mostBarsAt a0 x1 x2 x3 x4 a5 μ = some (r, μ')) : MtI G l yX4_mostBarsAt cX4_mostBarsAt 7 (some .boolean) rm_X4_mostBarsAt false [.ref (gZ G + a0), .int x1, .int x2, .int x3, .int x4, .ref (gZ G + a5)] μ r μ' := met_Z (by decide) rfl (Nat.le_of_ble_eq_true rfl) (fun X _ C _ _ hret => wk_X4_mostBarsAt C h hret)
set_option maxRecDepth 100000 in
set_option maxHeartbeats 4000000 in
theorem wk_X4_nodeBehind {G : GL} {X : CX} {a0 : Nat} {x1 : Int32} {x2 : Int32} {μ : Mem} {r : Int32} (C : Ctx G X cX4_nodeBehind 3 RX4 rm_X4_nodeBehind) (h : X4_nodeBehind a0 x1 x2 μ = some r) (hret : RtI G 3 X cX4_nodeBehind 0 0 r μ) : AW G 3 X 0 0 0 [(0, .ref (gZ G + a0)), (1, .int x1), (2, .int x2)] [] μ := by
  unfold X4_nodeBehind at h
  refine aw_iload_n C 1 dX4_nodeBehind_0 rfl rfl ?_
  refine aw_iconst C 2 dX4_nodeBehind_1 (by decide) ?_
  refine aw_imul C dX4_nodeBehind_2 ?_
  refine aw_iload_n C 2 dX4_nodeBehind_3 rfl rfl ?_
  obtain ⟨z4, hz4, h⟩ := bindE h
  have kj4 : AW G 3 X 0 0 19 [] [.int z4, .int (x1 * 2)] μ := by
    refine aw_iadd C dX4_nodeBehind_19 ?_
    have e9 := inj1 h
    subst e9
    exact hret _ _ dX4_nodeBehind_20
  replace h := hz4
  refine aw_if_eq C 18 dX4_nodeBehind_4 (by decide) (fun c1 => ?_) (fun c1 => ?_)
  · rw [if_pos c1] at h
    refine aw_iconst C 0 dX4_nodeBehind_18 (by decide) ?_
    have e9 := inj1 h
    subst e9
    exact aw_sub [] rfl kj4
  · rw [if_neg c1] at h
    refine aw_aload_n C 0 dX4_nodeBehind_7 rfl rfl ?_
    obtain ⟨v2, hv2, h⟩ := bindE h
    refine aw_gI C fl_X4_80 rfl hv2 dX4_nodeBehind_8 ?_
    refine aw_if_eq C 18 dX4_nodeBehind_11 (by decide) (fun c3 => ?_) (fun c3 => ?_)
    · rw [if_pos c3] at h
      refine aw_iconst C 0 dX4_nodeBehind_18 (by decide) ?_
      have e9 := inj1 h
      subst e9
      exact aw_sub [] rfl kj4
    · rw [if_neg c3] at h
      refine aw_iconst C 1 dX4_nodeBehind_14 (by decide) ?_
      refine aw_goto C 19 dX4_nodeBehind_15 (by decide) ?_
      have e9 := inj1 h
      subst e9
      exact aw_sub [] rfl kj4
set_option maxRecDepth 100000 in
set_option maxHeartbeats 4000000 in
theorem mt_X4_nodeBehind {G : GL} {l : Launch} {a0 : Nat} {x1 : Int32} {x2 : Int32} {μ : Mem} {r : Int32} (h : X4_nodeBehind a0 x1 x2 μ = some r) : MtI G l yX4_nodeBehind cX4_nodeBehind 3 (some .int) rm_X4_nodeBehind false [.ref (gZ G + a0), .int x1, .int x2] μ r μ := met_I (by decide) rfl rfl (Nat.le_of_ble_eq_true rfl) (fun X _ C _ _ hret => wk_X4_nodeBehind C h hret)
set_option maxRecDepth 100000 in
set_option maxHeartbeats 4000000 in
theorem wk_X4_total {G : GL} {X : CX} {a0 : Nat} {x1 : Int32} {x2 : Int32} {μ : Mem} {r : Int32} (C : Ctx G X cX4_total 3 RX4 rm_X4_total) (h : X4_total a0 x1 x2 μ = some r) (hret : RtI G 3 X cX4_total 0 0 r μ) : AW G 3 X 0 0 0 [(0, .ref (gZ G + a0)), (1, .int x1), (2, .int x2)] [] μ := by
  unfold X4_total at h
  refine aw_iload_n C 1 dX4_total_0 rfl rfl ?_
  refine aw_iconst C 1 dX4_total_1 (by decide) ?_
  refine aw_aload_n C 0 dX4_total_2 rfl rfl ?_
  obtain ⟨v1, hv1, h⟩ := bindE h
  refine aw_gI C fl_X4_70 rfl hv1 dX4_total_3 ?_
  refine aw_ishl C dX4_total_6 ?_
  obtain ⟨z5, hz5, h⟩ := bindE h
  have kj7 : AW G 3 X 0 0 25 [] [.int z5] μ := by
    have e9 := inj1 h
    subst e9
    exact hret _ _ dX4_total_25
  replace h := hz5
  refine aw_icmp_lt C 14 dX4_total_7 (by decide) (fun c2 => ?_) (fun c2 => ?_)
  · rw [if_pos c2] at h
    refine aw_aload_n C 0 dX4_total_14 rfl rfl ?_
    obtain ⟨v3, hv3, h⟩ := bindE h
    refine aw_gR C fl_X4_46 rfl hv3 dX4_total_15 ?_
    refine aw_iload_n C 1 dX4_total_18 rfl rfl ?_
    refine aw_bipush C 64 dX4_total_19 (by decide) ?_
    refine aw_imul C dX4_total_21 ?_
    refine aw_iload_n C 2 dX4_total_22 rfl rfl ?_
    refine aw_iadd C dX4_total_23 ?_
    obtain ⟨v4, hv4, h⟩ := bindE h
    refine aw_aI C hv4 dX4_total_24 ?_
    have e9 := inj1 h
    subst e9
    exact aw_sub [] rfl kj7
  · rw [if_neg c2] at h
    refine aw_iconst C 0 dX4_total_10 (by decide) ?_
    refine aw_goto C 25 dX4_total_11 (by decide) ?_
    have e9 := inj1 h
    subst e9
    exact aw_sub [] rfl kj7
set_option maxRecDepth 100000 in
set_option maxHeartbeats 4000000 in
theorem mt_X4_total {G : GL} {l : Launch} {a0 : Nat} {x1 : Int32} {x2 : Int32} {μ : Mem} {r : Int32} (h : X4_total a0 x1 x2 μ = some r) : MtI G l yX4_total cX4_total 3 (some .int) rm_X4_total false [.ref (gZ G + a0), .int x1, .int x2] μ r μ := met_I (by decide) rfl rfl (Nat.le_of_ble_eq_true rfl) (fun X _ C _ _ hret => wk_X4_total C h hret)
set_option maxRecDepth 100000 in
set_option maxHeartbeats 4000000 in
theorem X4_decide_L45_ok {G : GL} {X : CX} (C : Ctx G X cX4_decide 13 RX4 rm_X4_decide) (a0 : Nat) (x1 : Int32) (x2 : Int32) (x3 : Int32) (x4 : Int32) (x5 : Int32) (x9 : Int32) (μ : Mem) : ∀ (n : Nat) (x6 : Int32) (x7 : Int32) (x8 : Int32) (x10 : Int32) (z : Int32 × Int32 × Int32 × Int32), X4_decide_L45 a0 x1 x2 x3 x4 x5 x9 μ n x6 x7 x8 x10 = some z → AW G 13 X 0 0 143 [(0, .ref (gZ G + a0)), (1, .int x1), (2, .int x2), (3, .int x3), (4, .int x4), (5, .int x5), (6, .int z.1), (7, .int z.2.1), (8, .int z.2.2.1), (9, .int x9), (10, .int z.2.2.2)] [] μ → AW G 13 X 0 0 45 [(0, .ref (gZ G + a0)), (1, .int x1), (2, .int x2), (3, .int x3), (4, .int x4), (5, .int x5), (6, .int x6), (7, .int x7), (8, .int x8), (9, .int x9), (10, .int x10)] [] μ := by
  intro n
  induction n with
  | zero =>
    intro x6 x7 x8 x10 z h kx
    rw [X4_decide_L45] at h
    cases h
  | succ n ih =>
    intro x6 x7 x8 x10 z h kx
    rw [X4_decide_L45] at h
    refine aw_iload C 10 dX4_decide_45 rfl ?_
    refine aw_iload C 9 dX4_decide_47 rfl ?_
    refine aw_icmp_ge C 143 dX4_decide_49 (by decide) (fun c1 => ?_) (fun c1 => ?_)
    · rw [if_pos c1] at h
      have e9 := inj1 h
      subst e9
      exact aw_sub [0, 1, 2, 3, 4, 5, 6, 7, 8, 9, 10] rfl kx
    · rw [if_neg c1] at h
      refine aw_iload C 8 dX4_decide_52 rfl ?_
      refine aw_iload C 5 dX4_decide_54 rfl ?_
      refine aw_isub C dX4_decide_56 ?_
      refine aw_iload C 5 dX4_decide_57 rfl ?_
      refine aw_iand C dX4_decide_59 ?_
      obtain ⟨v2, ev2, h⟩ := bindS h
      refine aw_topi ev2 ?_
      refine aw_istore C [(8, .int v2), (0, .ref (gZ G + a0)), (1, .int x1), (2, .int x2), (3, .int x3), (4, .int x4), (5, .int x5), (6, .int x6), (7, .int x7), (9, .int x9), (10, .int x10)] dX4_decide_60 (by decide) rfl ?_
      refine aw_aload_n C 1 dX4_decide_62 rfl rfl ?_
      obtain ⟨v3, hv3, h⟩ := bindE h
      refine aw_gR C fl_X4_40 rfl hv3 dX4_decide_63 ?_
      refine aw_iload_n C 3 dX4_decide_66 rfl rfl ?_
      refine aw_bipush C 64 dX4_decide_67 (by decide) ?_
      refine aw_imul C dX4_decide_69 ?_
      refine aw_iload C 0 dX4_decide_70 rfl ?_
      refine aw_iadd C dX4_decide_72 ?_
      obtain ⟨v4, hv4, h⟩ := bindE h
      refine aw_aI C hv4 dX4_decide_73 ?_
      refine aw_istore C [(11, .int v4), (8, .int v2), (0, .ref (gZ G + a0)), (1, .int x1), (2, .int x2), (3, .int x3), (4, .int x4), (5, .int x5), (6, .int x6), (7, .int x7), (9, .int x9), (10, .int x10)] dX4_decide_74 (by decide) rfl ?_
      refine aw_iload C 0 dX4_decide_76 rfl ?_
      obtain ⟨z23, hz23, h⟩ := bindE h
      have kj78 : AW G 13 X 0 0 137 [(0, .ref (gZ G + a0)), (1, .int x1), (2, .int x2), (3, .int x3), (4, .int x4), (5, .int x5), (6, .int z23.1), (7, .int z23.2), (8, .int v2), (9, .int x9), (10, .int x10)] [] μ := by
        refine aw_iinc C (x10 + 1) 10 [(10, .int (x10 + 1)), (0, .ref (gZ G + a0)), (1, .int x1), (2, .int x2), (3, .int x3), (4, .int x4), (5, .int x5), (6, .int z23.1), (7, .int z23.2), (8, .int v2), (9, .int x9)] dX4_decide_137 rfl rfl (by decide) rfl ?_
        refine aw_goto C 45 dX4_decide_140 (by decide) ?_
        exact aw_sub [1, 2, 3, 4, 5, 6, 7, 8, 9, 10, 0] rfl (ih _ _ _ _ _ h kx)
      replace h := hz23
      refine aw_if_le C 137 dX4_decide_78 (by decide) (fun c5 => ?_) (fun c5 => ?_)
      · rw [if_pos c5] at h
        have e9 := inj1 h
        subst e9
        exact aw_sub [2, 3, 4, 5, 6, 7, 8, 9, 1, 10, 11] rfl kj78
      · rw [if_neg c5] at h
        refine aw_iload C 6 dX4_decide_81 rfl ?_
        refine aw_if_eq C 103 dX4_decide_83 (by decide) (fun c6 => ?_) (fun c6 => ?_)
        · rw [if_pos c6] at h
          refine aw_iload C 0 dX4_decide_103 rfl ?_
          refine aw_aload_n C 2 dX4_decide_105 rfl rfl ?_
          refine aw_aload_n C 2 dX4_decide_106 rfl rfl ?_
          refine aw_iload_n C 3 dX4_decide_107 rfl rfl ?_
          refine aw_iconst C 1 dX4_decide_108 (by decide) ?_
          obtain ⟨g7, hg7, h⟩ := bindE h
          obtain ⟨v8, hv8, h⟩ := bindE h
          refine aw_cV_I C [.int x1, .int 1] _ (mt_X4_nodeBehind hv8) cs_X4_nodeBehind ml_X4_178 im_X4_nodeBehind se_X4_nodeBehind (ci := 4) rfl rfl hg7 ⟨by decide, by decide⟩ ⟨rfl, rfl⟩ ⟨Nat.zero_le _, Nat.zero_le _⟩ rfl rfl (Nat.le_of_ble_eq_true rfl) dX4_decide_109 ?_
          refine aw_iload_n C 5 dX4_decide_112 rfl rfl ?_
          refine aw_iload C 1 dX4_decide_113 rfl ?_
          refine aw_ior C dX4_decide_115 ?_
          obtain ⟨g9, hg9, h⟩ := bindE h
          obtain ⟨v10, hv10, h⟩ := bindE h
          refine aw_cV_I C [.int v8, .int (x3 ||| v2)] _ (mt_X4_total hv10) cs_X4_total ml_X4_182 im_X4_total se_X4_total (ci := 4) rfl rfl hg9 ⟨by decide, by decide⟩ ⟨rfl, rfl⟩ ⟨Nat.zero_le _, Nat.zero_le _⟩ rfl rfl (Nat.le_of_ble_eq_true rfl) dX4_decide_116 ?_
          refine aw_iadd C dX4_decide_119 ?_
          refine aw_istore C [(12, .int (v4 + v10)), (11, .int v4), (8, .int v2), (0, .ref (gZ G + a0)), (1, .int x1), (2, .int x2), (3, .int x3), (4, .int x4), (5, .int x5), (6, .int x6), (7, .int x7), (9, .int x9), (10, .int x10)] dX4_decide_120 (by decide) rfl ?_
          refine aw_iload C 0 dX4_decide_122 rfl ?_
          refine aw_iload C 10 dX4_decide_124 rfl ?_
          refine aw_icmp_le C 137 dX4_decide_126 (by decide) (fun c11 => ?_) (fun c11 => ?_)
          · rw [if_pos c11] at h
            have e9 := inj1 h
            subst e9
            exact aw_sub [3, 4, 5, 6, 7, 8, 9, 10, 2, 11, 12] rfl kj78
          · rw [if_neg c11] at h
            refine aw_iload C 0 dX4_decide_129 rfl ?_
            refine aw_istore C [(7, .int (v4 + v10)), (12, .int (v4 + v10)), (11, .int v4), (8, .int v2), (0, .ref (gZ G + a0)), (1, .int x1), (2, .int x2), (3, .int x3), (4, .int x4), (5, .int x5), (6, .int x6), (9, .int x9), (10, .int x10)] dX4_decide_131 (by decide) rfl ?_
            refine aw_iload C 3 dX4_decide_133 rfl ?_
            refine aw_istore C [(6, .int v2), (7, .int (v4 + v10)), (12, .int (v4 + v10)), (11, .int v4), (8, .int v2), (0, .ref (gZ G + a0)), (1, .int x1), (2, .int x2), (3, .int x3), (4, .int x4), (5, .int x5), (9, .int x9), (10, .int x10)] dX4_decide_135 (by decide) rfl ?_
            have e9 := inj1 h
            subst e9
            exact aw_sub [5, 6, 7, 8, 9, 10, 0, 1, 4, 11, 12] rfl kj78
        · rw [if_neg c6] at h
          refine aw_aload_n C 2 dX4_decide_86 rfl rfl ?_
          obtain ⟨v12, hv12, h⟩ := bindE h
          refine aw_gR C fl_X4_21 rfl hv12 dX4_decide_87 ?_
          refine aw_aload_n C 2 dX4_decide_90 rfl rfl ?_
          obtain ⟨v13, hv13, h⟩ := bindE h
          refine aw_gR C fl_X4_28 rfl hv13 dX4_decide_91 ?_
          refine aw_iload C 1 dX4_decide_94 rfl ?_
          obtain ⟨v14, hv14, h⟩ := bindE h
          refine aw_aI C hv14 dX4_decide_96 ?_
          obtain ⟨g15, hg15, h⟩ := bindE h
          obtain ⟨v16, hv16, h⟩ := bindE h
          refine aw_cV_I C [.int v14] _ (mt_X1_isAlways hv16) cs_X1_isAlways ml_X4_190 im_X1_isAlways se_X1_isAlways (ci := 1) rfl rfl hg15 ⟨by decide, by decide⟩ ⟨rfl, rfl⟩ ⟨Nat.zero_le _, Nat.zero_le _⟩ rfl rfl (Nat.le_of_ble_eq_true rfl) dX4_decide_97 ?_
          refine aw_if_eq C 137 dX4_decide_100 (by decide) (fun c17 => ?_) (fun c17 => ?_)
          · rw [if_pos c17] at h
            have e9 := inj1 h
            subst e9
            exact aw_sub [2, 3, 4, 5, 6, 7, 8, 9, 1, 10, 11] rfl kj78
          · rw [if_neg c17] at h
            refine aw_iload C 0 dX4_decide_103 rfl ?_
            refine aw_aload_n C 2 dX4_decide_105 rfl rfl ?_
            refine aw_aload_n C 2 dX4_decide_106 rfl rfl ?_
            refine aw_iload_n C 3 dX4_decide_107 rfl rfl ?_
            refine aw_iconst C 1 dX4_decide_108 (by decide) ?_
            obtain ⟨g18, hg18, h⟩ := bindE h
            obtain ⟨v19, hv19, h⟩ := bindE h
            refine aw_cV_I C [.int x1, .int 1] _ (mt_X4_nodeBehind hv19) cs_X4_nodeBehind ml_X4_178 im_X4_nodeBehind se_X4_nodeBehind (ci := 4) rfl rfl hg18 ⟨by decide, by decide⟩ ⟨rfl, rfl⟩ ⟨Nat.zero_le _, Nat.zero_le _⟩ rfl rfl (Nat.le_of_ble_eq_true rfl) dX4_decide_109 ?_
            refine aw_iload_n C 5 dX4_decide_112 rfl rfl ?_
            refine aw_iload C 1 dX4_decide_113 rfl ?_
            refine aw_ior C dX4_decide_115 ?_
            obtain ⟨g20, hg20, h⟩ := bindE h
            obtain ⟨v21, hv21, h⟩ := bindE h
            refine aw_cV_I C [.int v19, .int (x3 ||| v2)] _ (mt_X4_total hv21) cs_X4_total ml_X4_182 im_X4_total se_X4_total (ci := 4) rfl rfl hg20 ⟨by decide, by decide⟩ ⟨rfl, rfl⟩ ⟨Nat.zero_le _, Nat.zero_le _⟩ rfl rfl (Nat.le_of_ble_eq_true rfl) dX4_decide_116 ?_
            refine aw_iadd C dX4_decide_119 ?_
            refine aw_istore C [(12, .int (v4 + v21)), (11, .int v4), (8, .int v2), (0, .ref (gZ G + a0)), (1, .int x1), (2, .int x2), (3, .int x3), (4, .int x4), (5, .int x5), (6, .int x6), (7, .int x7), (9, .int x9), (10, .int x10)] dX4_decide_120 (by decide) rfl ?_
            refine aw_iload C 0 dX4_decide_122 rfl ?_
            refine aw_iload C 10 dX4_decide_124 rfl ?_
            refine aw_icmp_le C 137 dX4_decide_126 (by decide) (fun c22 => ?_) (fun c22 => ?_)
            · rw [if_pos c22] at h
              have e9 := inj1 h
              subst e9
              exact aw_sub [3, 4, 5, 6, 7, 8, 9, 10, 2, 11, 12] rfl kj78
            · rw [if_neg c22] at h
              refine aw_iload C 0 dX4_decide_129 rfl ?_
              refine aw_istore C [(7, .int (v4 + v21)), (12, .int (v4 + v21)), (11, .int v4), (8, .int v2), (0, .ref (gZ G + a0)), (1, .int x1), (2, .int x2), (3, .int x3), (4, .int x4), (5, .int x5), (6, .int x6), (9, .int x9), (10, .int x10)] dX4_decide_131 (by decide) rfl ?_
              refine aw_iload C 3 dX4_decide_133 rfl ?_
              refine aw_istore C [(6, .int v2), (7, .int (v4 + v21)), (12, .int (v4 + v21)), (11, .int v4), (8, .int v2), (0, .ref (gZ G + a0)), (1, .int x1), (2, .int x2), (3, .int x3), (4, .int x4), (5, .int x5), (9, .int x9), (10, .int x10)] dX4_decide_135 (by decide) rfl ?_
              have e9 := inj1 h
              subst e9
              exact aw_sub [5, 6, 7, 8, 9, 10, 0, 1, 4, 11, 12] rfl kj78
set_option maxRecDepth 100000 in
set_option maxHeartbeats 4000000 in
theorem wk_X4_decide {G : GL} {X : CX} {a0 : Nat} {x1 : Int32} {x2 : Int32} {x3 : Int32} {x4 : Int32} {μ : Mem} {r : Int32} {μ' : Mem} (C : Ctx G X cX4_decide 13 RX4 rm_X4_decide) (h : X4_decide a0 x1 x2 x3 x4 μ = some (r, μ')) (hret : RtI G 13 X cX4_decide 0 0 r μ') : AW G 13 X 0 0 0 [(0, .ref (gZ G + a0)), (1, .int x1), (2, .int x2), (3, .int x3), (4, .int x4)] [] μ := by
  unfold X4_decide at h
  refine aw_iconst C 1 dX4_decide_0 (by decide) ?_
  refine aw_aload_n C 0 dX4_decide_1 rfl rfl ?_
  obtain ⟨v1, hv1, h⟩ := bindE h
  refine aw_gI C fl_X4_108 rfl hv1 dX4_decide_2 ?_
  refine aw_ishl C dX4_decide_5 ?_
  refine aw_iconst C 1 dX4_decide_6 (by decide) ?_
  refine aw_isub C dX4_decide_7 ?_
  refine aw_iload_n C 3 dX4_decide_8 rfl rfl ?_
  refine aw_iconst C ((-1)) dX4_decide_9 (by decide) ?_
  refine aw_ixor C dX4_decide_10 ?_
  refine aw_iand C dX4_decide_11 ?_
  obtain ⟨v2, ev2, h⟩ := bindS h
  refine aw_topi ev2 ?_
  refine aw_istore C [(5, .int v2), (0, .ref (gZ G + a0)), (1, .int x1), (2, .int x2), (3, .int x3), (4, .int x4)] dX4_decide_12 (by decide) rfl ?_
  refine aw_iconst C 0 dX4_decide_14 (by decide) ?_
  refine aw_istore C [(6, .int 0), (5, .int v2), (0, .ref (gZ G + a0)), (1, .int x1), (2, .int x2), (3, .int x3), (4, .int x4)] dX4_decide_15 (by decide) rfl ?_
  refine aw_aload_n C 2 dX4_decide_17 rfl rfl ?_
  refine aw_aload_n C 2 dX4_decide_18 rfl rfl ?_
  refine aw_iload_n C 3 dX4_decide_19 rfl rfl ?_
  refine aw_iconst C 0 dX4_decide_20 (by decide) ?_
  obtain ⟨g3, hg3, h⟩ := bindE h
  obtain ⟨v4, hv4, h⟩ := bindE h
  refine aw_cV_I C [.int x1, .int 0] _ (mt_X4_nodeBehind hv4) cs_X4_nodeBehind ml_X4_178 im_X4_nodeBehind se_X4_nodeBehind (ci := 4) rfl rfl hg3 ⟨by decide, by decide⟩ ⟨rfl, rfl⟩ ⟨Nat.zero_le _, Nat.zero_le _⟩ rfl rfl (Nat.le_of_ble_eq_true rfl) dX4_decide_21 ?_
  refine aw_iload_n C 5 dX4_decide_24 rfl rfl ?_
  obtain ⟨g5, hg5, h⟩ := bindE h
  obtain ⟨v6, hv6, h⟩ := bindE h
  refine aw_cV_I C [.int v4, .int x3] _ (mt_X4_total hv6) cs_X4_total ml_X4_182 im_X4_total se_X4_total (ci := 4) rfl rfl hg5 ⟨by decide, by decide⟩ ⟨rfl, rfl⟩ ⟨Nat.zero_le _, Nat.zero_le _⟩ rfl rfl (Nat.le_of_ble_eq_true rfl) dX4_decide_25 ?_
  refine aw_istore C [(7, .int v6), (6, .int 0), (5, .int v2), (0, .ref (gZ G + a0)), (1, .int x1), (2, .int x2), (3, .int x3), (4, .int x4)] dX4_decide_28 (by decide) rfl ?_
  refine aw_iconst C 0 dX4_decide_30 (by decide) ?_
  refine aw_istore C [(8, .int 0), (7, .int v6), (6, .int 0), (5, .int v2), (0, .ref (gZ G + a0)), (1, .int x1), (2, .int x2), (3, .int x3), (4, .int x4)] dX4_decide_31 (by decide) rfl ?_
  refine aw_iconst C 1 dX4_decide_33 (by decide) ?_
  refine aw_iload C 3 dX4_decide_34 rfl ?_
  refine aw_cS_I C [.int v2] _ (mt_J6_bitCount_0f7a4 _) cs_J6_bitCount_0f7a4 ml_X4_185 st_J6_bitCount_0f7a4 ⟨by decide, by decide⟩ ⟨rfl, rfl⟩ ⟨Nat.zero_le _, Nat.zero_le _⟩ rfl rfl (Nat.le_of_ble_eq_true rfl) dX4_decide_36 ?_
  refine aw_ishl C dX4_decide_39 ?_
  obtain ⟨v7, ev7, h⟩ := bindS h
  refine aw_topi ev7 ?_
  refine aw_istore C [(9, .int v7), (8, .int 0), (7, .int v6), (6, .int 0), (5, .int v2), (0, .ref (gZ G + a0)), (1, .int x1), (2, .int x2), (3, .int x3), (4, .int x4)] dX4_decide_40 (by decide) rfl ?_
  refine aw_iconst C 1 dX4_decide_42 (by decide) ?_
  refine aw_istore C [(10, .int 1), (9, .int v7), (8, .int 0), (7, .int v6), (6, .int 0), (5, .int v2), (0, .ref (gZ G + a0)), (1, .int x1), (2, .int x2), (3, .int x3), (4, .int x4)] dX4_decide_43 (by decide) rfl ?_
  obtain ⟨z8, hz8, h⟩ := bindE h
  refine aw_sub [6, 7, 8, 9, 10, 5, 4, 3, 2, 1, 0] rfl ?_
  refine X4_decide_L45_ok C _ _ _ _ _ _ _ _ _ _ _ _ _ _ hz8 ?_
  refine aw_aload_n C 0 dX4_decide_143 rfl rfl ?_
  obtain ⟨v9, hv9, h⟩ := bindE h
  refine aw_gR C fl_X4_46 rfl hv9 dX4_decide_144 ?_
  refine aw_iload_n C 1 dX4_decide_147 rfl rfl ?_
  refine aw_bipush C 64 dX4_decide_148 (by decide) ?_
  refine aw_imul C dX4_decide_150 ?_
  refine aw_iload_n C 3 dX4_decide_151 rfl rfl ?_
  refine aw_iadd C dX4_decide_152 ?_
  refine aw_iload C 7 dX4_decide_153 rfl ?_
  obtain ⟨μ10, hμ10, h⟩ := bindE h
  refine aw_sI C hμ10 dX4_decide_155 ?_
  refine aw_iload C 6 dX4_decide_156 rfl ?_
  obtain ⟨e8, e9⟩ := inj2 h
  subst e8
  subst e9
  exact hret _ _ dX4_decide_158
set_option maxRecDepth 100000 in
set_option maxHeartbeats 4000000 in
theorem mt_X4_decide {G : GL} {l : Launch} {a0 : Nat} {x1 : Int32} {x2 : Int32} {x3 : Int32} {x4 : Int32} {μ : Mem} {r : Int32} {μ' : Mem} (h : X4_decide a0 x1 x2 x3 x4 μ = some (r, μ')) : MtI G l yX4_decide cX4_decide 13 (some .int) rm_X4_decide false [.ref (gZ G + a0), .int x1, .int x2, .int x3, .int x4] μ r μ' := met_I (by decide) rfl rfl (Nat.le_of_ble_eq_true rfl) (fun X _ C _ _ hret => wk_X4_decide C h hret)
set_option maxRecDepth 100000 in
set_option maxHeartbeats 4000000 in
theorem X4_tell_L9_ok {G : GL} {X : CX} (C : Ctx G X cX4_tell 8 RX4 rm_X4_tell) (a0 : Nat) (x1 : Int32) (x2 : Int32) (a3 : Nat) : ∀ (n : Nat) (x4 : Int32) (x5 : Int32) (x6 : Int32) (μ : Mem) (z : Int32 × Int32 × Int32 × Mem), X4_tell_L9 a0 x1 x2 a3 n x4 x5 x6 μ = some z → AW G 8 X 0 0 115 [(0, .ref (gZ G + a0)), (1, .int x1), (2, .int x2), (3, .ref (gZ G + a3)), (4, .int z.1), (5, .int z.2.1), (6, .int z.2.2.1)] [] z.2.2.2 → AW G 8 X 0 0 9 [(0, .ref (gZ G + a0)), (1, .int x1), (2, .int x2), (3, .ref (gZ G + a3)), (4, .int x4), (5, .int x5), (6, .int x6)] [] μ := by
  intro n
  induction n with
  | zero =>
    intro x4 x5 x6 μ z h kx
    rw [X4_tell_L9] at h
    cases h
  | succ n ih =>
    intro x4 x5 x6 μ z h kx
    rw [X4_tell_L9] at h
    refine aw_iload C 6 dX4_tell_9 rfl ?_
    refine aw_aload_n C 0 dX4_tell_11 rfl rfl ?_
    obtain ⟨v1, hv1, h⟩ := bindE h
    refine aw_gI C fl_X4_70 rfl hv1 dX4_tell_12 ?_
    refine aw_icmp_ge C 115 dX4_tell_15 (by decide) (fun c2 => ?_) (fun c2 => ?_)
    · rw [if_pos c2] at h
      have e9 := inj1 h
      subst e9
      exact aw_sub [0, 1, 2, 3, 4, 5, 6] rfl kx
    · rw [if_neg c2] at h
      refine aw_aload_n C 0 dX4_tell_18 rfl rfl ?_
      refine aw_iload C 4 dX4_tell_19 rfl ?_
      refine aw_iload C 6 dX4_tell_21 rfl ?_
      refine aw_iload C 5 dX4_tell_23 rfl ?_
      refine aw_aload_n C 0 dX4_tell_25 rfl rfl ?_
      refine aw_iload C 4 dX4_tell_26 rfl ?_
      refine aw_iload C 6 dX4_tell_28 rfl ?_
      refine aw_iload_n C 1 dX4_tell_30 rfl rfl ?_
      refine aw_iload_n C 2 dX4_tell_31 rfl rfl ?_
      refine aw_aload_n C 3 dX4_tell_32 rfl rfl ?_
      obtain ⟨g3, hg3, h⟩ := bindE h
      obtain ⟨z4, hz4, h⟩ := bindE h
      refine aw_cV_I C [.int x4, .int x6, .int x1, .int x2, .ref (gZ G + a3)] _ (mt_X4_mostBarsAt hz4) cs_X4_mostBarsAt ml_X4_104 im_X4_mostBarsAt se_X4_mostBarsAt (ci := 4) rfl rfl hg3 ⟨by decide, by decide⟩ ⟨rfl, rfl⟩ ⟨Nat.zero_le _, Nat.zero_le _⟩ rfl rfl (Nat.le_of_ble_eq_true rfl) dX4_tell_33 ?_
      obtain ⟨g5, hg5, h⟩ := bindE h
      obtain ⟨z6, hz6, h⟩ := bindE h
      refine aw_cV_I C [.int x4, .int x6, .int x5, .int z4.1] _ (mt_X4_decide hz6) cs_X4_decide ml_X4_111 im_X4_decide se_X4_decide (ci := 4) rfl rfl hg5 ⟨by decide, by decide⟩ ⟨rfl, rfl⟩ ⟨Nat.zero_le _, Nat.zero_le _⟩ rfl rfl (Nat.le_of_ble_eq_true rfl) dX4_tell_36 ?_
      refine aw_istore C [(7, .int z6.1), (0, .ref (gZ G + a0)), (1, .int x1), (2, .int x2), (3, .ref (gZ G + a3)), (4, .int x4), (5, .int x5), (6, .int x6)] dX4_tell_39 (by decide) rfl ?_
      refine aw_aload_n C 1 dX4_tell_41 rfl rfl ?_
      obtain ⟨v7, hv7, h⟩ := bindE h
      refine aw_gR C fl_X4_9 rfl hv7 dX4_tell_42 ?_
      refine aw_iload C 7 dX4_tell_45 rfl ?_
      refine aw_aload_n C 1 dX4_tell_47 rfl rfl ?_
      obtain ⟨v8, hv8, h⟩ := bindE h
      refine aw_gR C fl_X4_28 rfl hv8 dX4_tell_48 ?_
      refine aw_iload C 0 dX4_tell_51 rfl ?_
      obtain ⟨v9, hv9, h⟩ := bindE h
      refine aw_aI C hv9 dX4_tell_53 ?_
      obtain ⟨μ10, hμ10, h⟩ := bindE h
      refine aw_sI C hμ10 dX4_tell_54 ?_
      refine aw_aload_n C 1 dX4_tell_55 rfl rfl ?_
      obtain ⟨v11, hv11, h⟩ := bindE h
      refine aw_gR C fl_X4_15 rfl hv11 dX4_tell_56 ?_
      refine aw_iload C 7 dX4_tell_59 rfl ?_
      refine aw_iload C 0 dX4_tell_61 rfl ?_
      obtain ⟨z15, hz15, h⟩ := bindE h
      have kj63 : AW G 8 X 0 0 83 [(0, .ref (gZ G + a0)), (1, .int x1), (2, .int x2), (3, .ref (gZ G + a3)), (4, .int x4), (5, .int x5), (6, .int x6), (7, .int z6.1)] [.int z15, .int x6, .ref (gZ G + v11)] μ10 := by
        obtain ⟨μ16, hμ16, h⟩ := bindE h
        refine aw_sI C hμ16 dX4_tell_83 ?_
        refine aw_iload C 5 dX4_tell_84 rfl ?_
        refine aw_iload C 7 dX4_tell_86 rfl ?_
        refine aw_ior C dX4_tell_88 ?_
        obtain ⟨v17, ev17, h⟩ := bindS h
        refine aw_topi ev17 ?_
        refine aw_istore C [(5, .int v17), (0, .ref (gZ G + a0)), (1, .int x1), (2, .int x2), (3, .ref (gZ G + a3)), (4, .int x4), (6, .int x6), (7, .int z6.1)] dX4_tell_89 (by decide) rfl ?_
        refine aw_aload_n C 1 dX4_tell_91 rfl rfl ?_
        refine aw_iload C 5 dX4_tell_92 rfl ?_
        refine aw_iload C 7 dX4_tell_94 rfl ?_
        obtain ⟨v19, ev19, h⟩ := bindS h
        have kj96 : AW G 8 X 0 0 104 [(0, .ref (gZ G + a0)), (1, .int x1), (2, .int x2), (3, .ref (gZ G + a3)), (5, .int v17), (6, .int x6)] [.int v19, .int x4, .ref (gZ G + a0)] μ16 := by
          obtain ⟨g20, hg20, h⟩ := bindE h
          obtain ⟨v21, hv21, h⟩ := bindE h
          refine aw_cV_I C [.int x4, .int v19] _ (mt_X4_nodeBehind hv21) cs_X4_nodeBehind ml_X4_178 im_X4_nodeBehind se_X4_nodeBehind (ci := 4) rfl rfl hg20 ⟨by decide, by decide⟩ ⟨rfl, rfl⟩ ⟨Nat.zero_le _, Nat.zero_le _⟩ rfl rfl (Nat.le_of_ble_eq_true rfl) dX4_tell_104 ?_
          refine aw_istore C [(4, .int v21), (0, .ref (gZ G + a0)), (1, .int x1), (2, .int x2), (3, .ref (gZ G + a3)), (5, .int v17), (6, .int x6)] dX4_tell_107 (by decide) rfl ?_
          refine aw_iinc C (x6 + 1) 6 [(6, .int (x6 + 1)), (4, .int v21), (0, .ref (gZ G + a0)), (1, .int x1), (2, .int x2), (3, .ref (gZ G + a3)), (5, .int v17)] dX4_tell_109 rfl rfl (by decide) rfl ?_
          refine aw_goto C 9 dX4_tell_112 (by decide) ?_
          exact aw_sub [2, 3, 4, 5, 1, 6, 0] rfl (ih _ _ _ _ _ h kx)
        clear h
        refine aw_if_eq C 103 dX4_tell_96 (by decide) (fun c18 => ?_) (fun c18 => ?_)
        · refine aw_iconst C 0 dX4_tell_103 (by decide) ?_
          rw [if_pos c18] at ev19
          subst ev19
          exact aw_sub [1, 2, 3, 4, 0, 6] rfl kj96
        · refine aw_iconst C 1 dX4_tell_99 (by decide) ?_
          refine aw_goto C 104 dX4_tell_100 (by decide) ?_
          rw [if_neg c18] at ev19
          subst ev19
          exact aw_sub [1, 2, 3, 4, 0, 6] rfl kj96
      replace h := hz15
      refine aw_if_ne C 70 dX4_tell_63 (by decide) (fun c12 => ?_) (fun c12 => ?_)
      · rw [if_neg c12] at h
        refine aw_aload_n C 1 dX4_tell_70 rfl rfl ?_
        obtain ⟨v13, hv13, h⟩ := bindE h
        refine aw_gR C fl_X4_43 rfl hv13 dX4_tell_71 ?_
        refine aw_iload C 7 dX4_tell_74 rfl ?_
        refine aw_bipush C 64 dX4_tell_76 (by decide) ?_
        refine aw_imul C dX4_tell_78 ?_
        refine aw_iload C 0 dX4_tell_79 rfl ?_
        refine aw_iadd C dX4_tell_81 ?_
        obtain ⟨v14, hv14, h⟩ := bindE h
        refine aw_aI C hv14 dX4_tell_82 ?_
        have e9 := inj1 h
        subst e9
        exact aw_sub [1, 2, 3, 4, 5, 6, 7, 0] rfl kj63
      · rw [if_pos c12] at h
        refine aw_iconst C ((-1)) dX4_tell_66 (by decide) ?_
        refine aw_goto C 83 dX4_tell_67 (by decide) ?_
        have e9 := inj1 h
        subst e9
        exact aw_sub [1, 2, 3, 4, 5, 6, 7, 0] rfl kj63
set_option maxRecDepth 100000 in
set_option maxHeartbeats 4000000 in
theorem wk_X4_tell {G : GL} {X : CX} {a0 : Nat} {x1 : Int32} {x2 : Int32} {a3 : Nat} {μ : Mem} {μ' : Mem} (C : Ctx G X cX4_tell 8 RX4 rm_X4_tell) (h : X4_tell a0 x1 x2 a3 μ = some μ') (hret : RtV G 8 X cX4_tell 0 0 μ') : AW G 8 X 0 0 0 [(0, .ref (gZ G + a0)), (1, .int x1), (2, .int x2), (3, .ref (gZ G + a3))] [] μ := by
  unfold X4_tell at h
  refine aw_iconst C 1 dX4_tell_0 (by decide) ?_
  refine aw_istore C [(4, .int 1), (0, .ref (gZ G + a0)), (1, .int x1), (2, .int x2), (3, .ref (gZ G + a3))] dX4_tell_1 (by decide) rfl ?_
  refine aw_iconst C 0 dX4_tell_3 (by decide) ?_
  refine aw_istore C [(5, .int 0), (4, .int 1), (0, .ref (gZ G + a0)), (1, .int x1), (2, .int x2), (3, .ref (gZ G + a3))] dX4_tell_4 (by decide) rfl ?_
  refine aw_iconst C 0 dX4_tell_6 (by decide) ?_
  refine aw_istore C [(6, .int 0), (5, .int 0), (4, .int 1), (0, .ref (gZ G + a0)), (1, .int x1), (2, .int x2), (3, .ref (gZ G + a3))] dX4_tell_7 (by decide) rfl ?_
  obtain ⟨z1, hz1, h⟩ := bindE h
  refine aw_sub [3, 4, 5, 6, 2, 1, 0] rfl ?_
  refine X4_tell_L9_ok C _ _ _ _ _ _ _ _ _ _ hz1 ?_
  have e9 := inj1 h
  subst e9
  exact hret _ _ dX4_tell_115
set_option maxRecDepth 100000 in
set_option maxHeartbeats 4000000 in
theorem mt_X4_tell {G : GL} {l : Launch} {a0 : Nat} {x1 : Int32} {x2 : Int32} {a3 : Nat} {μ : Mem} {μ' : Mem} (h : X4_tell a0 x1 x2 a3 μ = some μ') : MtV G l yX4_tell cX4_tell 8 none rm_X4_tell false [.ref (gZ G + a0), .int x1, .int x2, .ref (gZ G + a3)] μ μ' := met_V (by decide) rfl (Nat.le_of_ble_eq_true rfl) (fun X _ C _ _ hret => wk_X4_tell C h hret)
set_option maxRecDepth 100000 in
set_option maxHeartbeats 4000000 in
theorem X4_make_L43_ok {G : GL} {X : CX} (C : Ctx G X cX4_make 11 RX4 rm_X4_make) (a0 : Nat) (x1 : Int32) (x3 : Int32) (a4 : Nat) : ∀ (n : Nat) (x5 : Int32) (μ : Mem) (z : Int32 × Mem), X4_make_L43 a0 x1 x3 a4 n x5 μ = some z → AW G 11 X 0 0 70 [(0, .ref (gZ G + a0)), (1, .int x1), (3, .int x3), (4, .ref (gZ G + a4)), (5, .int z.1)] [] z.2 → AW G 11 X 0 0 43 [(0, .ref (gZ G + a0)), (1, .int x1), (3, .int x3), (4, .ref (gZ G + a4)), (5, .int x5)] [] μ := by
  intro n
  induction n with
  | zero =>
    intro x5 μ z h kx
    rw [X4_make_L43] at h
    cases h
  | succ n ih =>
    intro x5 μ z h kx
    rw [X4_make_L43] at h
    refine aw_iload C 4 dX4_make_43 rfl ?_
    refine aw_aload_n C 0 dX4_make_45 rfl rfl ?_
    obtain ⟨v1, hv1, h⟩ := bindE h
    refine aw_gI C fl_X4_70 rfl hv1 dX4_make_46 ?_
    refine aw_icmp_ge C 70 dX4_make_49 (by decide) (fun c2 => ?_) (fun c2 => ?_)
    · rw [if_pos c2] at h
      have e9 := inj1 h
      subst e9
      exact aw_sub [0, 1, 2, 3, 4] rfl kx
    · rw [if_neg c2] at h
      refine aw_aload_n C 0 dX4_make_52 rfl rfl ?_
      refine aw_iload C 4 dX4_make_53 rfl ?_
      refine aw_iload_n C 2 dX4_make_55 rfl rfl ?_
      refine aw_iload C 4 dX4_make_56 rfl ?_
      refine aw_iadd C dX4_make_58 ?_
      refine aw_aload C 3 dX4_make_59 rfl ?_
      obtain ⟨g3, hg3, h⟩ := bindE h
      obtain ⟨μ4, hμ4, h⟩ := bindE h
      refine aw_cV_V C [.int x5, .int (x3 + x5), .ref (gZ G + a4)] _ (mt_X4_price hμ4) cs_X4_price ml_X4_94 im_X4_price se_X4_price (ci := 4) rfl rfl hg3 ⟨by decide, by decide⟩ ⟨rfl, rfl⟩ ⟨Nat.zero_le _, Nat.zero_le _⟩ rfl rfl (Nat.le_of_ble_eq_true rfl) dX4_make_61 ?_
      refine aw_iinc C (x5 + 1) 4 [(5, .int (x5 + 1)), (0, .ref (gZ G + a0)), (1, .int x1), (3, .int x3), (4, .ref (gZ G + a4))] dX4_make_64 rfl rfl (by decide) rfl ?_
      refine aw_goto C 43 dX4_make_67 (by decide) ?_
      exact aw_sub [1, 2, 3, 4, 0] rfl (ih _ _ _ h kx)
set_option maxRecDepth 100000 in
set_option maxHeartbeats 4000000 in
theorem X4_make_L156_ok {G : GL} {X : CX} (C : Ctx G X cX4_make 11 RX4 rm_X4_make) (a0 : Nat) (x3 : Int32) (a4 : Nat) (x5 : Int32) (x6 : Int32) (x7 : Int32) (x8 : Int32) (x9 : Int32) : ∀ (n : Nat) (x10 : Int32) (μ : Mem) (z : Int32 × Mem), X4_make_L156 a0 x3 a4 x5 x6 x7 x8 x9 n x10 μ = some z → AW G 11 X 0 0 186 [(0, .ref (gZ G + a0)), (3, .int x3), (4, .ref (gZ G + a4)), (5, .int x5), (6, .int x6), (7, .int x7), (8, .int x8), (9, .int x9), (10, .int z.1)] [] z.2 → AW G 11 X 0 0 156 [(0, .ref (gZ G + a0)), (3, .int x3), (4, .ref (gZ G + a4)), (5, .int x5), (6, .int x6), (7, .int x7), (8, .int x8), (9, .int x9), (10, .int x10)] [] μ := by
  intro n
  induction n with
  | zero =>
    intro x10 μ z h kx
    rw [X4_make_L156] at h
    cases h
  | succ n ih =>
    intro x10 μ z h kx
    rw [X4_make_L156] at h
    refine aw_iload C 8 dX4_make_156 rfl ?_
    refine aw_iconst C 1 dX4_make_158 (by decide) ?_
    refine aw_aload_n C 0 dX4_make_159 rfl rfl ?_
    obtain ⟨v1, hv1, h⟩ := bindE h
    refine aw_gI C fl_X4_108 rfl hv1 dX4_make_160 ?_
    refine aw_ishl C dX4_make_163 ?_
    refine aw_icmp_ge C 186 dX4_make_164 (by decide) (fun c2 => ?_) (fun c2 => ?_)
    · rw [if_pos c2] at h
      have e9 := inj1 h
      subst e9
      exact aw_sub [0, 1, 2, 3, 4, 5, 6, 7, 8] rfl kx
    · rw [if_neg c2] at h
      refine aw_aload_n C 0 dX4_make_167 rfl rfl ?_
      refine aw_iload C 6 dX4_make_168 rfl ?_
      refine aw_iload C 4 dX4_make_170 rfl ?_
      refine aw_iload C 8 dX4_make_172 rfl ?_
      refine aw_iload C 7 dX4_make_174 rfl ?_
      obtain ⟨g3, hg3, h⟩ := bindE h
      obtain ⟨z4, hz4, h⟩ := bindE h
      refine aw_cV_I C [.int x8, .int x6, .int x10, .int x9] _ (mt_X4_decide hz4) cs_X4_decide ml_X4_111 im_X4_decide se_X4_decide (ci := 4) rfl rfl hg3 ⟨by decide, by decide⟩ ⟨rfl, rfl⟩ ⟨Nat.zero_le _, Nat.zero_le _⟩ rfl rfl (Nat.le_of_ble_eq_true rfl) dX4_make_176 ?_
      refine aw_pop C dX4_make_179 rfl ?_
      refine aw_iinc C (x10 + 1) 8 [(10, .int (x10 + 1)), (0, .ref (gZ G + a0)), (3, .int x3), (4, .ref (gZ G + a4)), (5, .int x5), (6, .int x6), (7, .int x7), (8, .int x8), (9, .int x9)] dX4_make_180 rfl rfl (by decide) rfl ?_
      refine aw_goto C 156 dX4_make_183 (by decide) ?_
      exact aw_sub [1, 2, 3, 4, 5, 6, 7, 8, 0] rfl (ih _ _ _ h kx)
set_option maxRecDepth 100000 in
set_option maxHeartbeats 4000000 in
theorem X4_make_L126_ok {G : GL} {X : CX} (C : Ctx G X cX4_make 11 RX4 rm_X4_make) (a0 : Nat) (x3 : Int32) (a4 : Nat) (x5 : Int32) (x6 : Int32) (x7 : Int32) : ∀ (n : Nat) (x8 : Int32) (μ : Mem) (z : Int32 × Mem), X4_make_L126 a0 x3 a4 x5 x6 x7 n x8 μ = some z → AW G 11 X 0 0 192 [(0, .ref (gZ G + a0)), (3, .int x3), (4, .ref (gZ G + a4)), (5, .int x5), (6, .int x6), (7, .int x7), (8, .int z.1)] [] z.2 → AW G 11 X 0 0 126 [(0, .ref (gZ G + a0)), (3, .int x3), (4, .ref (gZ G + a4)), (5, .int x5), (6, .int x6), (7, .int x7), (8, .int x8)] [] μ := by
  intro n
  induction n with
  | zero =>
    intro x8 μ z h kx
    rw [X4_make_L126] at h
    cases h
  | succ n ih =>
    intro x8 μ z h kx
    rw [X4_make_L126] at h
    refine aw_iload C 6 dX4_make_126 rfl ?_
    refine aw_iconst C 1 dX4_make_128 (by decide) ?_
    refine aw_iload C 4 dX4_make_129 rfl ?_
    refine aw_ishl C dX4_make_131 ?_
    refine aw_iload C 5 dX4_make_132 rfl ?_
    refine aw_iadd C dX4_make_134 ?_
    refine aw_icmp_ge C 192 dX4_make_135 (by decide) (fun c1 => ?_) (fun c1 => ?_)
    · rw [if_pos c1] at h
      have e9 := inj1 h
      subst e9
      exact aw_sub [0, 1, 2, 3, 4, 5, 6] rfl kx
    · rw [if_neg c1] at h
      refine aw_aload_n C 0 dX4_make_138 rfl rfl ?_
      refine aw_iload C 6 dX4_make_139 rfl ?_
      refine aw_iload C 4 dX4_make_141 rfl ?_
      refine aw_iload_n C 1 dX4_make_143 rfl rfl ?_
      refine aw_iload C 3 dX4_make_144 rfl ?_
      refine aw_aload C 2 dX4_make_146 rfl ?_
      obtain ⟨g2, hg2, h⟩ := bindE h
      obtain ⟨z3, hz3, h⟩ := bindE h
      refine aw_cV_I C [.int x8, .int x6, .int x3, .int x5, .ref (gZ G + a4)] _ (mt_X4_mostBarsAt hz3) cs_X4_mostBarsAt ml_X4_104 im_X4_mostBarsAt se_X4_mostBarsAt (ci := 4) rfl rfl hg2 ⟨by decide, by decide⟩ ⟨rfl, rfl⟩ ⟨Nat.zero_le _, Nat.zero_le _⟩ rfl rfl (Nat.le_of_ble_eq_true rfl) dX4_make_148 ?_
      refine aw_istore C [(9, .int z3.1), (0, .ref (gZ G + a0)), (3, .int x3), (4, .ref (gZ G + a4)), (5, .int x5), (6, .int x6), (7, .int x7), (8, .int x8)] dX4_make_151 (by decide) rfl ?_
      refine aw_iconst C 0 dX4_make_153 (by decide) ?_
      refine aw_istore C [(10, .int 0), (9, .int z3.1), (0, .ref (gZ G + a0)), (3, .int x3), (4, .ref (gZ G + a4)), (5, .int x5), (6, .int x6), (7, .int x7), (8, .int x8)] dX4_make_154 (by decide) rfl ?_
      obtain ⟨z4, hz4, h⟩ := bindE h
      refine aw_sub [2, 3, 4, 5, 6, 7, 8, 1, 0] rfl ?_
      refine X4_make_L156_ok C _ _ _ _ _ _ _ _ _ _ _ _ hz4 ?_
      refine aw_iinc C (x8 + 1) 6 [(8, .int (x8 + 1)), (0, .ref (gZ G + a0)), (3, .int x3), (4, .ref (gZ G + a4)), (5, .int x5), (6, .int x6), (7, .int x7), (9, .int z3.1), (10, .int z4.1)] dX4_make_186 rfl rfl (by decide) rfl ?_
      refine aw_goto C 126 dX4_make_189 (by decide) ?_
      exact aw_sub [1, 2, 3, 4, 5, 6, 0] rfl (ih _ _ _ h kx)
set_option maxRecDepth 100000 in
set_option maxHeartbeats 4000000 in
theorem X4_make_L98_ok {G : GL} {X : CX} (C : Ctx G X cX4_make 11 RX4 rm_X4_make) (a0 : Nat) (x3 : Int32) (a4 : Nat) (x5 : Int32) : ∀ (n : Nat) (x6 : Int32) (μ : Mem) (z : Int32 × Mem), X4_make_L98 a0 x3 a4 x5 n x6 μ = some z → AW G 11 X 0 0 198 [(0, .ref (gZ G + a0)), (3, .int x3), (4, .ref (gZ G + a4)), (5, .int x5), (6, .int z.1)] [] z.2 → AW G 11 X 0 0 98 [(0, .ref (gZ G + a0)), (3, .int x3), (4, .ref (gZ G + a4)), (5, .int x5), (6, .int x6)] [] μ := by
  intro n
  induction n with
  | zero =>
    intro x6 μ z h kx
    rw [X4_make_L98] at h
    cases h
  | succ n ih =>
    intro x6 μ z h kx
    rw [X4_make_L98] at h
    refine aw_iload C 4 dX4_make_98 rfl ?_
    refine aw_if_lt C 198 dX4_make_100 (by decide) (fun c1 => ?_) (fun c1 => ?_)
    · rw [if_pos c1] at h
      have e9 := inj1 h
      subst e9
      exact aw_sub [0, 1, 2, 3, 4] rfl kx
    · rw [if_neg c1] at h
      refine aw_aload_n C 0 dX4_make_103 rfl rfl ?_
      obtain ⟨v2, hv2, h⟩ := bindE h
      refine aw_gI C fl_X4_80 rfl hv2 dX4_make_104 ?_
      obtain ⟨v4, ev4, h⟩ := bindS h
      have kj107 : AW G 11 X 0 0 118 [(0, .ref (gZ G + a0)), (3, .int x3), (4, .ref (gZ G + a4)), (5, .int x5), (6, .int x6)] [.int v4] μ := by
        refine aw_istore C [(7, .int v4), (0, .ref (gZ G + a0)), (3, .int x3), (4, .ref (gZ G + a4)), (5, .int x5), (6, .int x6)] dX4_make_118 (by decide) rfl ?_
        refine aw_iconst C 1 dX4_make_120 (by decide) ?_
        refine aw_iload C 5 dX4_make_121 rfl ?_
        refine aw_ishl C dX4_make_123 ?_
        obtain ⟨v5, ev5, h⟩ := bindS h
        refine aw_topi ev5 ?_
        refine aw_istore C [(8, .int v5), (7, .int v4), (0, .ref (gZ G + a0)), (3, .int x3), (4, .ref (gZ G + a4)), (5, .int x5), (6, .int x6)] dX4_make_124 (by decide) rfl ?_
        obtain ⟨z6, hz6, h⟩ := bindE h
        refine aw_sub [2, 3, 4, 5, 6, 1, 0] rfl ?_
        refine X4_make_L126_ok C _ _ _ _ _ _ _ _ _ _ hz6 ?_
        refine aw_iinc C (x6 + (-1)) 4 [(6, .int (x6 + (-1))), (0, .ref (gZ G + a0)), (3, .int x3), (4, .ref (gZ G + a4)), (5, .int x5), (7, .int v4), (8, .int z6.1)] dX4_make_192 rfl rfl (by decide) rfl ?_
        refine aw_goto C 98 dX4_make_195 (by decide) ?_
        exact aw_sub [1, 2, 3, 4, 0] rfl (ih _ _ _ h kx)
      clear h
      refine aw_if_eq C 117 dX4_make_107 (by decide) (fun c3 => ?_) (fun c3 => ?_)
      · refine aw_iconst C 1 dX4_make_117 (by decide) ?_
        rw [if_pos c3] at ev4
        subst ev4
        exact aw_sub [0, 1, 2, 3, 4] rfl kj107
      · refine aw_iconst C 1 dX4_make_110 (by decide) ?_
        refine aw_iload C 4 dX4_make_111 rfl ?_
        refine aw_ishl C dX4_make_113 ?_
        refine aw_goto C 118 dX4_make_114 (by decide) ?_
        rw [if_neg c3] at ev4
        subst ev4
        exact aw_sub [0, 1, 2, 3, 4] rfl kj107
set_option maxRecDepth 100000 in
set_option maxHeartbeats 4000000 in
theorem wk_X4_make {G : GL} {X : CX} {a0 : Nat} {x1 : Int32} {x2 : Int32} {x3 : Int32} {a4 : Nat} {μ : Mem} {μ' : Mem} (C : Ctx G X cX4_make 11 RX4 rm_X4_make) (h : X4_make a0 x1 x2 x3 a4 μ = some μ') (hret : RtV G 11 X cX4_make 0 0 μ') : AW G 11 X 0 0 0 [(0, .ref (gZ G + a0)), (1, .int x1), (2, .int x2), (3, .int x3), (4, .ref (gZ G + a4))] [] μ := by
  unfold X4_make at h
  refine aw_aload_n C 0 dX4_make_0 rfl rfl ?_
  refine aw_iload_n C 2 dX4_make_1 rfl rfl ?_
  refine aw_bipush C 6 dX4_make_2 (by decide) ?_
  refine aw_mmin C ml_X4_64 (by decide) (by decide) ⟨Nat.zero_le _, Nat.zero_le _⟩ (Nat.le_of_ble_eq_true rfl) dX4_make_4 ?_
  obtain ⟨μ1, hμ1, h⟩ := bindE h
  refine aw_pI C fl_X4_70 rfl hμ1 dX4_make_7 ?_
  refine aw_aload_n C 0 dX4_make_10 rfl rfl ?_
  refine aw_aload C 4 dX4_make_11 rfl ?_
  obtain ⟨g2, hg2, h⟩ := bindE h
  obtain ⟨v3, hv3, h⟩ := bindE h
  refine aw_cV_I C [] _ (mt_X3_countsSayings hv3) cs_X3_countsSayings ml_X4_74 im_X3_countsSayings se_X3_countsSayings (ci := 3) rfl rfl hg2 ⟨by decide, by decide⟩ ⟨rfl, rfl⟩ ⟨Nat.zero_le _, Nat.zero_le _⟩ rfl rfl (Nat.le_of_ble_eq_true rfl) dX4_make_13 ?_
  obtain ⟨μ4, hμ4, h⟩ := bindE h
  refine aw_pZ C fl_X4_80 rfl hμ4 dX4_make_16 ?_
  refine aw_aload_n C 0 dX4_make_19 rfl rfl ?_
  refine aw_iload_n C 1 dX4_make_20 rfl rfl ?_
  refine aw_iload_n C 3 dX4_make_21 rfl rfl ?_
  obtain ⟨g5, hg5, h⟩ := bindE h
  obtain ⟨μ6, hμ6, h⟩ := bindE h
  refine aw_cV_V C [.int x1, .int x3] _ (mt_X4_pick hμ6) cs_X4_pick ml_X4_84 im_X4_pick se_X4_pick (ci := 4) rfl rfl hg5 ⟨by decide, by decide⟩ ⟨rfl, rfl⟩ ⟨Nat.zero_le _, Nat.zero_le _⟩ rfl rfl (Nat.le_of_ble_eq_true rfl) dX4_make_22 ?_
  refine aw_aload_n C 0 dX4_make_25 rfl rfl ?_
  obtain ⟨v7, hv7, h⟩ := bindE h
  refine aw_gR C fl_X4_52 rfl hv7 dX4_make_26 ?_
  refine aw_iload_n C 1 dX4_make_29 rfl rfl ?_
  refine aw_iload_n C 3 dX4_make_30 rfl rfl ?_
  refine aw_aload_n C 0 dX4_make_31 rfl rfl ?_
  obtain ⟨v8, hv8, h⟩ := bindE h
  refine aw_gI C fl_X4_70 rfl hv8 dX4_make_32 ?_
  refine aw_iconst C 1 dX4_make_35 (by decide) ?_
  refine aw_isub C dX4_make_36 ?_
  obtain ⟨g9, hg9, h⟩ := bindE h
  obtain ⟨μ10, hμ10, h⟩ := bindE h
  refine aw_cV_V C [.int x1, .int x3, .int (v8 - 1)] _ (mt_X9_lookAhead hμ10) cs_X9_lookAhead ml_X4_88 im_X9_lookAhead se_X9_lookAhead (ci := 9) rfl rfl hg9 ⟨by decide, by decide⟩ ⟨rfl, rfl⟩ ⟨Nat.zero_le _, Nat.zero_le _⟩ rfl rfl (Nat.le_of_ble_eq_true rfl) dX4_make_37 ?_
  refine aw_iconst C 0 dX4_make_40 (by decide) ?_
  refine aw_istore C [(5, .int 0), (0, .ref (gZ G + a0)), (1, .int x1), (2, .int x2), (3, .int x3), (4, .ref (gZ G + a4))] dX4_make_41 (by decide) rfl ?_
  obtain ⟨z11, hz11, h⟩ := bindE h
  refine aw_sub [1, 2, 4, 5, 0] rfl ?_
  refine X4_make_L43_ok C _ _ _ _ _ _ _ _ hz11 ?_
  refine aw_aload_n C 0 dX4_make_70 rfl rfl ?_
  obtain ⟨v12, hv12, h⟩ := bindE h
  refine aw_gR C fl_X4_60 rfl hv12 dX4_make_71 ?_
  refine aw_iload_n C 1 dX4_make_74 rfl rfl ?_
  refine aw_aload_n C 0 dX4_make_75 rfl rfl ?_
  obtain ⟨v13, hv13, h⟩ := bindE h
  refine aw_gR C fl_X4_49 rfl hv13 dX4_make_76 ?_
  obtain ⟨g14, hg14, h⟩ := bindE h
  obtain ⟨μ15, hμ15, h⟩ := bindE h
  refine aw_cV_V C [.int x1, .ref (gZ G + v13)] _ (mt_X0_countSaid hμ15) cs_X0_countSaid ml_X4_98 im_X0_countSaid se_X0_countSaid (ci := 0) rfl rfl hg14 ⟨by decide, by decide⟩ ⟨rfl, rfl⟩ ⟨Nat.zero_le _, Nat.zero_le _⟩ rfl rfl (Nat.le_of_ble_eq_true rfl) dX4_make_79 ?_
  refine aw_aload_n C 0 dX4_make_82 rfl rfl ?_
  obtain ⟨v16, hv16, h⟩ := bindE h
  refine aw_gR C fl_X4_49 rfl hv16 dX4_make_83 ?_
  refine aw_iload_n C 2 dX4_make_86 rfl rfl ?_
  obtain ⟨v17, hv17, h⟩ := bindE h
  refine aw_aI C hv17 dX4_make_87 ?_
  refine aw_istore C [(5, .int v17), (0, .ref (gZ G + a0)), (1, .int x1), (3, .int x3), (4, .ref (gZ G + a4))] dX4_make_88 (by decide) rfl ?_
  refine aw_aload_n C 1 dX4_make_90 rfl rfl ?_
  obtain ⟨v18, hv18, h⟩ := bindE h
  refine aw_gI C fl_X4_70 rfl hv18 dX4_make_91 ?_
  refine aw_iconst C 1 dX4_make_94 (by decide) ?_
  refine aw_isub C dX4_make_95 ?_
  obtain ⟨v19, ev19, h⟩ := bindS h
  refine aw_topi ev19 ?_
  refine aw_istore C [(6, .int v19), (5, .int v17), (0, .ref (gZ G + a0)), (1, .int x1), (3, .int x3), (4, .ref (gZ G + a4))] dX4_make_96 (by decide) rfl ?_
  obtain ⟨z20, hz20, h⟩ := bindE h
  refine aw_sub [2, 4, 5, 1, 0] rfl ?_
  refine X4_make_L98_ok C _ _ _ _ _ _ _ _ hz20 ?_
  refine aw_aload_n C 0 dX4_make_198 rfl rfl ?_
  refine aw_aload_n C 0 dX4_make_199 rfl rfl ?_
  obtain ⟨v21, hv21, h⟩ := bindE h
  refine aw_gR C fl_X4_46 rfl hv21 dX4_make_200 ?_
  refine aw_bipush C 64 dX4_make_203 (by decide) ?_
  obtain ⟨v22, hv22, h⟩ := bindE h
  refine aw_aI C hv22 dX4_make_205 ?_
  obtain ⟨μ23, hμ23, h⟩ := bindE h
  refine aw_pI C fl_X4_115 rfl hμ23 dX4_make_206 ?_
  refine aw_aload_n C 0 dX4_make_209 rfl rfl ?_
  refine aw_iload_n C 1 dX4_make_210 rfl rfl ?_
  refine aw_iload C 3 dX4_make_211 rfl ?_
  refine aw_aload C 2 dX4_make_213 rfl ?_
  obtain ⟨g24, hg24, h⟩ := bindE h
  obtain ⟨μ25, hμ25, h⟩ := bindE h
  refine aw_cV_V C [.int x3, .int v17, .ref (gZ G + a4)] _ (mt_X4_tell hμ25) cs_X4_tell ml_X4_118 im_X4_tell se_X4_tell (ci := 4) rfl rfl hg24 ⟨by decide, by decide⟩ ⟨rfl, rfl⟩ ⟨Nat.zero_le _, Nat.zero_le _⟩ rfl rfl (Nat.le_of_ble_eq_true rfl) dX4_make_215 ?_
  have e9 := inj1 h
  subst e9
  exact hret _ _ dX4_make_218
set_option maxRecDepth 100000 in
set_option maxHeartbeats 4000000 in
theorem mt_X4_make {G : GL} {l : Launch} {a0 : Nat} {x1 : Int32} {x2 : Int32} {x3 : Int32} {a4 : Nat} {μ : Mem} {μ' : Mem} (h : X4_make a0 x1 x2 x3 a4 μ = some μ') : MtV G l yX4_make cX4_make 11 none rm_X4_make false [.ref (gZ G + a0), .int x1, .int x2, .int x3, .ref (gZ G + a4)] μ μ' := met_V (by decide) rfl (Nat.le_of_ble_eq_true rfl) (fun X _ C _ _ hret => wk_X4_make C h hret)
set_option maxRecDepth 100000 in
set_option maxHeartbeats 4000000 in
theorem wk_X7_init {G : GL} {X : CX} {a0 : Nat} {a1 : Nat} {a2 : Nat} {a3 : Nat} {μ : Mem} {μ' : Mem} (C : Ctx G X cX7_init 4 RX7 rm_X7_init) (hi : (xT X).name = "<init>") (hb : (xS X).heap.size = gZ G + mN μ) (h : X7_init a0 a1 a2 a3 μ = some μ') (hret : RtV G 4 X cX7_init 0 0 μ') : AW G 4 X 0 0 0 [(0, .ref (gZ G + a0)), (1, .ref (gZ G + a1)), (2, .ref (gZ G + a2)), (3, .ref (gZ G + a3))] [] μ := by
  unfold X7_init at h
  refine aw_aload_n C 0 dX7_init_0 rfl rfl ?_
  refine aw_oinit C mo_X7_1 ob_im ob_co (by decide) (by decide) (Nat.le_of_ble_eq_true rfl) dX7_init_1 ?_
  refine aw_aload_n C 0 dX7_init_4 rfl rfl ?_
  refine aw_aload_n C 1 dX7_init_5 rfl rfl ?_
  obtain ⟨μ1, hμ1, h⟩ := bindE h
  refine aw_pRF C fl_X7_7 hi rfl rfl rfl rfl hμ1 dX7_init_6 ?_
  refine aw_aload_n C 0 dX7_init_9 rfl rfl ?_
  refine aw_aload_n C 2 dX7_init_10 rfl rfl ?_
  obtain ⟨μ2, hμ2, h⟩ := bindE h
  refine aw_pRF C fl_X7_13 hi rfl rfl rfl rfl hμ2 dX7_init_11 ?_
  refine aw_aload_n C 0 dX7_init_14 rfl rfl ?_
  refine aw_aload_n C 3 dX7_init_15 rfl rfl ?_
  obtain ⟨μ3, hμ3, h⟩ := bindE h
  refine aw_pRF C fl_X7_17 hi rfl rfl rfl rfl hμ3 dX7_init_16 ?_
  have e9 := inj1 h
  subst e9
  exact hret _ _ dX7_init_19
set_option maxRecDepth 100000 in
set_option maxHeartbeats 4000000 in
theorem mt_X7_init {G : GL} {l : Launch} {a0 : Nat} {a1 : Nat} {a2 : Nat} {a3 : Nat} {μ : Mem} {μ' : Mem} (h : X7_init a0 a1 a2 a3 μ = some μ') : MtV G l yX7_init cX7_init 4 none rm_X7_init true [.ref (gZ G + a0), .ref (gZ G + a1), .ref (gZ G + a2), .ref (gZ G + a3)] μ μ' := met_V (by decide) rfl (Nat.le_of_ble_eq_true rfl) (fun X _ C hi hb hret => wk_X7_init C hi (hb rfl) h hret)
set_option maxRecDepth 100000 in
set_option maxHeartbeats 4000000 in
theorem wk_X7_isLeft {G : GL} {X : CX} {a0 : Nat} {x1 : Int32} {x2 : Int32} {μ : Mem} {r : Int32} (C : Ctx G X cX7_isLeft 3 RX7 rm_X7_isLeft) (h : X7_isLeft a0 x1 x2 μ = some r) (hret : RtZ G 3 X cX7_isLeft 0 0 r μ) : AW G 3 X 0 0 0 [(0, .ref (gZ G + a0)), (1, .int x1), (2, .int x2)] [] μ := by
  unfold X7_isLeft at h
  refine aw_aload_n C 0 dX7_isLeft_0 rfl rfl ?_
  obtain ⟨v1, hv1, h⟩ := bindE h
  refine aw_gR C fl_X7_17 rfl hv1 dX7_isLeft_1 ?_
  obtain ⟨v2, hv2, h⟩ := bindE h
  refine aw_gR C fl_X7_70 rfl hv2 dX7_isLeft_4 ?_
  refine aw_iload_n C 1 dX7_isLeft_7 rfl rfl ?_
  obtain ⟨v3, hv3, h⟩ := bindE h
  refine aw_aR C (by decide) (ty := .object RX6) rfl rfl hv3 dX7_isLeft_8 ?_
  obtain ⟨v4, hv4, h⟩ := bindE h
  refine aw_gI C fl_X7_86 rfl hv4 dX7_isLeft_9 ?_
  refine aw_iload_n C 2 dX7_isLeft_12 rfl rfl ?_
  refine aw_cSN_I C [.int v4, .int x2] _ (mt_X10_contains _ _) cs_X10_contains ml_X7_89 st_X10_contains ⟨by decide, by decide⟩ ⟨rfl, rfl⟩ ⟨Nat.zero_le _, Nat.zero_le _⟩ rfl rfl (Nat.le_of_ble_eq_true rfl) dX7_isLeft_13 ?_
  obtain ⟨z8, hz8, h⟩ := bindE h
  have kj16 : AW G 3 X 0 0 35 [] [.int z8] μ := by
    obtain ⟨v9, hv9, h⟩ := bindE h
    obtain ⟨ev9, zv9⟩ := zzE hv9
    refine aw_topi ev9 ?_
    have e9 := inj1 h
    subst e9
    exact hret _ _ dX7_isLeft_35 zv9
  replace h := hz8
  refine aw_if_eq C 34 dX7_isLeft_16 (by decide) (fun c5 => ?_) (fun c5 => ?_)
  · rw [if_pos c5] at h
    refine aw_iconst C 0 dX7_isLeft_34 (by decide) ?_
    have e9 := inj1 h
    subst e9
    exact aw_sub [] rfl kj16
  · rw [if_neg c5] at h
    refine aw_aload_n C 0 dX7_isLeft_19 rfl rfl ?_
    obtain ⟨v6, hv6, h⟩ := bindE h
    refine aw_gI C fl_X7_34 rfl hv6 dX7_isLeft_20 ?_
    refine aw_iload_n C 1 dX7_isLeft_23 rfl rfl ?_
    refine aw_cSN_I C [.int v6, .int x1] _ (mt_X10_contains _ _) cs_X10_contains ml_X7_89 st_X10_contains ⟨by decide, by decide⟩ ⟨rfl, rfl⟩ ⟨Nat.zero_le _, Nat.zero_le _⟩ rfl rfl (Nat.le_of_ble_eq_true rfl) dX7_isLeft_24 ?_
    refine aw_if_ne C 34 dX7_isLeft_27 (by decide) (fun c7 => ?_) (fun c7 => ?_)
    · rw [if_neg c7] at h
      refine aw_iconst C 0 dX7_isLeft_34 (by decide) ?_
      have e9 := inj1 h
      subst e9
      exact aw_sub [] rfl kj16
    · rw [if_pos c7] at h
      refine aw_iconst C 1 dX7_isLeft_30 (by decide) ?_
      refine aw_goto C 35 dX7_isLeft_31 (by decide) ?_
      have e9 := inj1 h
      subst e9
      exact aw_sub [] rfl kj16
set_option maxRecDepth 100000 in
set_option maxHeartbeats 4000000 in
theorem mt_X7_isLeft {G : GL} {l : Launch} {a0 : Nat} {x1 : Int32} {x2 : Int32} {μ : Mem} {r : Int32} (h : X7_isLeft a0 x1 x2 μ = some r) : MtI G l yX7_isLeft cX7_isLeft 3 (some .boolean) rm_X7_isLeft false [.ref (gZ G + a0), .int x1, .int x2] μ r μ := met_Z (by decide) rfl (Nat.le_of_ble_eq_true rfl) (fun X _ C _ _ hret => wk_X7_isLeft C h hret)
