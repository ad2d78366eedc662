set_option maxRecDepth 100000 in
set_option maxHeartbeats 4000000 in
theorem X7_sayIn_L3_ok {G : GL} {X : CX} (C : Ctx G X cX7_sayIn 7 RX7 rm_X7_sayIn) (a0 : Nat) (x1 : Int32) (x2 : Int32) (x3 : Int32) : ∀ (n : Nat) (x4 : Int32) (μ : Mem) (z : Int32 × Mem), X7_sayIn_L3 a0 x1 x2 x3 n x4 μ = some z → AW G 7 X 0 0 143 [(0, .ref (gZ G + a0)), (1, .int x1), (2, .int x2), (3, .int x3), (4, .int z.1)] [] z.2 → AW G 7 X 0 0 3 [(0, .ref (gZ G + a0)), (1, .int x1), (2, .int x2), (3, .int x3), (4, .int x4)] [] μ := by
  intro n
  induction n with
  | zero =>
    intro x4 μ z h kx
    rw [X7_sayIn_L3] at h
    cases h
  | succ n ih =>
    intro x4 μ z h kx
    rw [X7_sayIn_L3] at h
    refine aw_iload C 4 dX7_sayIn_3 rfl ?_
    refine aw_aload_n C 0 dX7_sayIn_5 rfl rfl ?_
    obtain ⟨v1, hv1, h⟩ := bindE h
    refine aw_gR C fl_X7_17 rfl hv1 dX7_sayIn_6 ?_
    obtain ⟨v2, hv2, h⟩ := bindE h
    refine aw_gI C fl_X7_61 rfl hv2 dX7_sayIn_9 ?_
    refine aw_icmp_ge C 143 dX7_sayIn_12 (by decide) (fun c3 => ?_) (fun c3 => ?_)
    · rw [if_pos c3] at h
      have e9 := inj1 h
      subst e9
      exact aw_sub [0, 1, 2, 3, 4] rfl kx
    · rw [if_neg c3] at h
      refine aw_aload_n C 0 dX7_sayIn_15 rfl rfl ?_
      obtain ⟨v4, hv4, h⟩ := bindE h
      refine aw_gR C fl_X7_17 rfl hv4 dX7_sayIn_16 ?_
      obtain ⟨v5, hv5, h⟩ := bindE h
      refine aw_gR C fl_X7_70 rfl hv5 dX7_sayIn_19 ?_
      refine aw_iload C 4 dX7_sayIn_22 rfl ?_
      obtain ⟨v6, hv6, h⟩ := bindE h
      refine aw_aR C (by decide) (ty := .object RX6) rfl rfl hv6 dX7_sayIn_24 ?_
      refine aw_astore C [(5, .ref (gZ G + v6)), (0, .ref (gZ G + a0)), (1, .int x1), (2, .int x2), (3, .int x3), (4, .int x4)] dX7_sayIn_25 (by decide) rfl ?_
      refine aw_aload C 0 dX7_sayIn_27 rfl ?_
      obtain ⟨g7, hg7, h⟩ := bindE h
      obtain ⟨v8, hv8, h⟩ := bindE h
      refine aw_cV_I C [] _ (mt_X6_isMust hv8) cs_X6_isMust ml_X7_79 im_X6_isMust se_X6_isMust (ci := 6) rfl rfl hg7 ⟨by decide, by decide⟩ ⟨rfl, rfl⟩ ⟨Nat.zero_le _, Nat.zero_le _⟩ rfl rfl (Nat.le_of_ble_eq_true rfl) dX7_sayIn_29 ?_
      obtain ⟨z12, hz12, h⟩ := bindE h
      have kj32 : AW G 7 X 0 0 49 [(0, .ref (gZ G + a0)), (1, .int x1), (2, .int x2), (3, .int x3), (4, .int x4), (5, .ref (gZ G + v6))] [.int z12] μ := by
        refine aw_istore C [(6, .int z12), (0, .ref (gZ G + a0)), (1, .int x1), (2, .int x2), (3, .int x3), (4, .int x4), (5, .ref (gZ G + v6))] dX7_sayIn_49 (by decide) rfl ?_
        refine aw_aload_n C 1 dX7_sayIn_51 rfl rfl ?_
        refine aw_iload C 5 dX7_sayIn_52 rfl ?_
        refine aw_iload_n C 3 dX7_sayIn_54 rfl rfl ?_
        obtain ⟨g13, hg13, h⟩ := bindE h
        obtain ⟨v14, hv14, h⟩ := bindE h
        refine aw_cV_I C [.int x4, .int x2] _ (mt_X7_isLeft hv14) cs_X7_isLeft ml_X7_66 im_X7_isLeft se_X7_isLeft (ci := 7) rfl rfl hg13 ⟨by decide, by decide⟩ ⟨rfl, rfl⟩ ⟨Nat.zero_le _, Nat.zero_le _⟩ rfl rfl (Nat.le_of_ble_eq_true rfl) dX7_sayIn_55 ?_
        obtain ⟨z42, hz42, h⟩ := bindE h
        have kj58 : AW G 7 X 0 0 137 [(0, .ref (gZ G + a0)), (1, .int x1), (2, .int x2), (3, .int x3), (4, .int x4)] [] z42 := by
          refine aw_iinc C (x4 + 1) 4 [(4, .int (x4 + 1)), (0, .ref (gZ G + a0)), (1, .int x1), (2, .int x2), (3, .int x3)] dX7_sayIn_137 rfl rfl (by decide) rfl ?_
          refine aw_goto C 3 dX7_sayIn_140 (by decide) ?_
          exact aw_sub [1, 2, 3, 4, 0] rfl (ih _ _ _ h kx)
        replace h := hz42
        refine aw_if_eq C 137 dX7_sayIn_58 (by decide) (fun c15 => ?_) (fun c15 => ?_)
        · rw [if_pos c15] at h
          have e9 := inj1 h
          subst e9
          exact aw_sub [1, 2, 3, 4, 5] rfl kj58
        · rw [if_neg c15] at h
          refine aw_aload C 6 dX7_sayIn_61 rfl ?_
          obtain ⟨v16, hv16, h⟩ := bindE h
          refine aw_gI C fl_X7_83 rfl hv16 dX7_sayIn_63 ?_
          refine aw_iload_n C 2 dX7_sayIn_66 rfl rfl ?_
          refine aw_icmp_gt C 137 dX7_sayIn_67 (by decide) (fun c17 => ?_) (fun c17 => ?_)
          · rw [if_pos c17] at h
            have e9 := inj1 h
            subst e9
            exact aw_sub [1, 2, 3, 4, 5] rfl kj58
          · rw [if_neg c17] at h
            refine aw_iload_n C 4 dX7_sayIn_70 rfl rfl ?_
            refine aw_if_ne C 79 dX7_sayIn_71 (by decide) (fun c18 => ?_) (fun c18 => ?_)
            · rw [if_neg c18] at h
              refine aw_aload_n C 1 dX7_sayIn_79 rfl rfl ?_
              refine aw_dup C dX7_sayIn_80 rfl ?_
              obtain ⟨v19, hv19, h⟩ := bindE h
              refine aw_gI C fl_X7_34 rfl hv19 dX7_sayIn_81 ?_
              refine aw_iconst C 1 dX7_sayIn_84 (by decide) ?_
              refine aw_iload C 5 dX7_sayIn_85 rfl ?_
              refine aw_ishl C dX7_sayIn_87 ?_
              refine aw_ior C dX7_sayIn_88 ?_
              obtain ⟨μ20, hμ20, h⟩ := bindE h
              refine aw_pI C fl_X7_34 rfl hμ20 dX7_sayIn_89 ?_
              refine aw_aload_n C 1 dX7_sayIn_92 rfl rfl ?_
              refine aw_dup C dX7_sayIn_93 rfl ?_
              obtain ⟨v21, hv21, h⟩ := bindE h
              refine aw_gI C fl_X7_31 rfl hv21 dX7_sayIn_94 ?_
              refine aw_iconst C 1 dX7_sayIn_97 (by decide) ?_
              refine aw_iadd C dX7_sayIn_98 ?_
              obtain ⟨μ22, hμ22, h⟩ := bindE h
              refine aw_pI C fl_X7_31 rfl hμ22 dX7_sayIn_99 ?_
              refine aw_aload_n C 1 dX7_sayIn_102 rfl rfl ?_
              refine aw_dup C dX7_sayIn_103 rfl ?_
              obtain ⟨v23, hv23, h⟩ := bindE h
              refine aw_gI C fl_X7_25 rfl hv23 dX7_sayIn_104 ?_
              refine aw_iload_n C 2 dX7_sayIn_107 rfl rfl ?_
              refine aw_aload C 6 dX7_sayIn_108 rfl ?_
              obtain ⟨v24, hv24, h⟩ := bindE h
              refine aw_gI C fl_X7_83 rfl hv24 dX7_sayIn_110 ?_
              refine aw_isub C dX7_sayIn_113 ?_
              refine aw_iadd C dX7_sayIn_114 ?_
              obtain ⟨μ25, hμ25, h⟩ := bindE h
              refine aw_pI C fl_X7_25 rfl hμ25 dX7_sayIn_115 ?_
              refine aw_iload_n C 2 dX7_sayIn_118 rfl rfl ?_
              refine aw_aload C 6 dX7_sayIn_119 rfl ?_
              obtain ⟨v26, hv26, h⟩ := bindE h
              refine aw_gI C fl_X7_74 rfl hv26 dX7_sayIn_121 ?_
              refine aw_icmp_le C 137 dX7_sayIn_124 (by decide) (fun c27 => ?_) (fun c27 => ?_)
              · rw [if_pos c27] at h
                have e9 := inj1 h
                subst e9
                exact aw_sub [1, 2, 3, 4, 5] rfl kj58
              · rw [if_neg c27] at h
                refine aw_aload_n C 1 dX7_sayIn_127 rfl rfl ?_
                refine aw_dup C dX7_sayIn_128 rfl ?_
                obtain ⟨v28, hv28, h⟩ := bindE h
                refine aw_gI C fl_X7_21 rfl hv28 dX7_sayIn_129 ?_
                refine aw_iconst C 1 dX7_sayIn_132 (by decide) ?_
                refine aw_iadd C dX7_sayIn_133 ?_
                obtain ⟨μ29, hμ29, h⟩ := bindE h
                refine aw_pI C fl_X7_21 rfl hμ29 dX7_sayIn_134 ?_
                have e9 := inj1 h
                subst e9
                exact aw_sub [1, 2, 3, 4, 5] rfl kj58
            · rw [if_pos c18] at h
              refine aw_iload C 0 dX7_sayIn_74 rfl ?_
              refine aw_if_eq C 137 dX7_sayIn_76 (by decide) (fun c30 => ?_) (fun c30 => ?_)
              · rw [if_pos c30] at h
                have e9 := inj1 h
                subst e9
                exact aw_sub [1, 2, 3, 4, 5] rfl kj58
              · rw [if_neg c30] at h
                refine aw_aload_n C 1 dX7_sayIn_79 rfl rfl ?_
                refine aw_dup C dX7_sayIn_80 rfl ?_
                obtain ⟨v31, hv31, h⟩ := bindE h
                refine aw_gI C fl_X7_34 rfl hv31 dX7_sayIn_81 ?_
                refine aw_iconst C 1 dX7_sayIn_84 (by decide) ?_
                refine aw_iload C 5 dX7_sayIn_85 rfl ?_
                refine aw_ishl C dX7_sayIn_87 ?_
                refine aw_ior C dX7_sayIn_88 ?_
                obtain ⟨μ32, hμ32, h⟩ := bindE h
                refine aw_pI C fl_X7_34 rfl hμ32 dX7_sayIn_89 ?_
                refine aw_aload_n C 1 dX7_sayIn_92 rfl rfl ?_
                refine aw_dup C dX7_sayIn_93 rfl ?_
                obtain ⟨v33, hv33, h⟩ := bindE h
                refine aw_gI C fl_X7_31 rfl hv33 dX7_sayIn_94 ?_
                refine aw_iconst C 1 dX7_sayIn_97 (by decide) ?_
                refine aw_iadd C dX7_sayIn_98 ?_
                obtain ⟨μ34, hμ34, h⟩ := bindE h
                refine aw_pI C fl_X7_31 rfl hμ34 dX7_sayIn_99 ?_
                refine aw_aload_n C 1 dX7_sayIn_102 rfl rfl ?_
                refine aw_dup C dX7_sayIn_103 rfl ?_
                obtain ⟨v35, hv35, h⟩ := bindE h
                refine aw_gI C fl_X7_25 rfl hv35 dX7_sayIn_104 ?_
                refine aw_iload_n C 2 dX7_sayIn_107 rfl rfl ?_
                refine aw_aload C 6 dX7_sayIn_108 rfl ?_
                obtain ⟨v36, hv36, h⟩ := bindE h
                refine aw_gI C fl_X7_83 rfl hv36 dX7_sayIn_110 ?_
                refine aw_isub C dX7_sayIn_113 ?_
                refine aw_iadd C dX7_sayIn_114 ?_
                obtain ⟨μ37, hμ37, h⟩ := bindE h
                refine aw_pI C fl_X7_25 rfl hμ37 dX7_sayIn_115 ?_
                refine aw_iload_n C 2 dX7_sayIn_118 rfl rfl ?_
                refine aw_aload C 6 dX7_sayIn_119 rfl ?_
                obtain ⟨v38, hv38, h⟩ := bindE h
                refine aw_gI C fl_X7_74 rfl hv38 dX7_sayIn_121 ?_
                refine aw_icmp_le C 137 dX7_sayIn_124 (by decide) (fun c39 => ?_) (fun c39 => ?_)
                · rw [if_pos c39] at h
                  have e9 := inj1 h
                  subst e9
                  exact aw_sub [1, 2, 3, 4, 5] rfl kj58
                · rw [if_neg c39] at h
                  refine aw_aload_n C 1 dX7_sayIn_127 rfl rfl ?_
                  refine aw_dup C dX7_sayIn_128 rfl ?_
                  obtain ⟨v40, hv40, h⟩ := bindE h
                  refine aw_gI C fl_X7_21 rfl hv40 dX7_sayIn_129 ?_
                  refine aw_iconst C 1 dX7_sayIn_132 (by decide) ?_
                  refine aw_iadd C dX7_sayIn_133 ?_
                  obtain ⟨μ41, hμ41, h⟩ := bindE h
                  refine aw_pI C fl_X7_21 rfl hμ41 dX7_sayIn_134 ?_
                  have e9 := inj1 h
                  subst e9
                  exact aw_sub [1, 2, 3, 4, 5] rfl kj58
      replace h := hz12
      refine aw_if_eq C 48 dX7_sayIn_32 (by decide) (fun c9 => ?_) (fun c9 => ?_)
      · rw [if_pos c9] at h
        refine aw_iconst C 0 dX7_sayIn_48 (by decide) ?_
        have e9 := inj1 h
        subst e9
        exact aw_sub [1, 2, 3, 4, 5, 0] rfl kj32
      · rw [if_neg c9] at h
        refine aw_iload_n C 2 dX7_sayIn_35 rfl rfl ?_
        refine aw_aload C 0 dX7_sayIn_36 rfl ?_
        obtain ⟨v10, hv10, h⟩ := bindE h
        refine aw_gI C fl_X7_74 rfl hv10 dX7_sayIn_38 ?_
        refine aw_icmp_ne C 48 dX7_sayIn_41 (by decide) (fun c11 => ?_) (fun c11 => ?_)
        · rw [if_neg c11] at h
          refine aw_iconst C 0 dX7_sayIn_48 (by decide) ?_
          have e9 := inj1 h
          subst e9
          exact aw_sub [1, 2, 3, 4, 5, 0] rfl kj32
        · rw [if_pos c11] at h
          refine aw_iconst C 1 dX7_sayIn_44 (by decide) ?_
          refine aw_goto C 49 dX7_sayIn_45 (by decide) ?_
          have e9 := inj1 h
          subst e9
          exact aw_sub [1, 2, 3, 4, 5, 0] rfl kj32
set_option maxRecDepth 100000 in
set_option maxHeartbeats 4000000 in
theorem wk_X7_sayIn {G : GL} {X : CX} {a0 : Nat} {x1 : Int32} {x2 : Int32} {x3 : Int32} {μ : Mem} {μ' : Mem} (C : Ctx G X cX7_sayIn 7 RX7 rm_X7_sayIn) (h : X7_sayIn a0 x1 x2 x3 μ = some μ') (hret : RtV G 7 X cX7_sayIn 0 0 μ') : AW G 7 X 0 0 0 [(0, .ref (gZ G + a0)), (1, .int x1), (2, .int x2), (3, .int x3)] [] μ := by
  unfold X7_sayIn at h
  refine aw_iconst C 0 dX7_sayIn_0 (by decide) ?_
  refine aw_istore C [(4, .int 0), (0, .ref (gZ G + a0)), (1, .int x1), (2, .int x2), (3, .int x3)] dX7_sayIn_1 (by decide) rfl ?_
  obtain ⟨z1, hz1, h⟩ := bindE h
  refine aw_sub [1, 2, 3, 4, 0] rfl ?_
  refine X7_sayIn_L3_ok C _ _ _ _ _ _ _ _ hz1 ?_
  have e9 := inj1 h
  subst e9
  exact hret _ _ dX7_sayIn_143
set_option maxRecDepth 100000 in
set_option maxHeartbeats 4000000 in
theorem mt_X7_sayIn {G : GL} {l : Launch} {a0 : Nat} {x1 : Int32} {x2 : Int32} {x3 : Int32} {μ : Mem} {μ' : Mem} (h : X7_sayIn a0 x1 x2 x3 μ = some μ') : MtV G l yX7_sayIn cX7_sayIn 7 none rm_X7_sayIn false [.ref (gZ G + a0), .int x1, .int x2, .int x3] μ μ' := met_V (by decide) rfl (Nat.le_of_ble_eq_true rfl) (fun X _ C _ _ hret => wk_X7_sayIn C h hret)
set_option maxRecDepth 100000 in
set_option maxHeartbeats 4000000 in
theorem X7_run_L28_ok {G : GL} {X : CX} (C : Ctx G X cX7_run 7 RX7 rm_X7_run) (a0 : Nat) (x1 : Int32) (x2 : Int32) (x3 : Int32) (x4 : Int32) : ∀ (n : Nat) (x5 : Int32) (μ : Mem) (z : Int32 × Mem), X7_run_L28 a0 x1 x2 x3 x4 n x5 μ = some z → AW G 7 X 0 0 117 [(0, .ref (gZ G + a0)), (1, .int x1), (2, .int x2), (3, .int x3), (4, .int x4), (5, .int z.1)] [] z.2 → AW G 7 X 0 0 28 [(0, .ref (gZ G + a0)), (1, .int x1), (2, .int x2), (3, .int x3), (4, .int x4), (5, .int x5)] [] μ := by
  intro n
  induction n with
  | zero =>
    intro x5 μ z h kx
    rw [X7_run_L28] at h
    cases h
  | succ n ih =>
    intro x5 μ z h kx
    rw [X7_run_L28] at h
    refine aw_iload C 5 dX7_run_28 rfl ?_
    refine aw_iload C 4 dX7_run_30 rfl ?_
    refine aw_icmp_ge C 117 dX7_run_32 (by decide) (fun c1 => ?_) (fun c1 => ?_)
    · rw [if_pos c1] at h
      have e9 := inj1 h
      subst e9
      exact aw_sub [0, 1, 2, 3, 4, 5] rfl kx
    · rw [if_neg c1] at h
      refine aw_aload_n C 0 dX7_run_35 rfl rfl ?_
      obtain ⟨v2, hv2, h⟩ := bindE h
      refine aw_gR C fl_X7_7 rfl hv2 dX7_run_36 ?_
      refine aw_iload_n C 1 dX7_run_39 rfl rfl ?_
      refine aw_iload C 5 dX7_run_40 rfl ?_
      refine aw_iconst C 0 dX7_run_42 (by decide) ?_
      obtain ⟨g3, hg3, h⟩ := bindE h
      obtain ⟨μ4, hμ4, h⟩ := bindE h
      refine aw_cV_V C [.int x1, .int x5, .int 0] _ (mt_X9_lookAhead hμ4) cs_X9_lookAhead ml_X7_37 im_X9_lookAhead se_X9_lookAhead (ci := 9) rfl rfl hg3 ⟨by decide, by decide⟩ ⟨rfl, rfl⟩ ⟨Nat.zero_le _, Nat.zero_le _⟩ rfl rfl (Nat.le_of_ble_eq_true rfl) dX7_run_43 ?_
      refine aw_aload_n C 0 dX7_run_46 rfl rfl ?_
      obtain ⟨v5, hv5, h⟩ := bindE h
      refine aw_gI C fl_X7_31 rfl hv5 dX7_run_47 ?_
      refine aw_istore C [(6, .int v5), (0, .ref (gZ G + a0)), (1, .int x1), (2, .int x2), (3, .int x3), (4, .int x4), (5, .int x5)] dX7_run_50 (by decide) rfl ?_
      refine aw_aload_n C 1 dX7_run_52 rfl rfl ?_
      refine aw_iload C 6 dX7_run_53 rfl ?_
      refine aw_iload_n C 2 dX7_run_55 rfl rfl ?_
      refine aw_aload_n C 1 dX7_run_56 rfl rfl ?_
      obtain ⟨v6, hv6, h⟩ := bindE h
      refine aw_gR C fl_X7_7 rfl hv6 dX7_run_57 ?_
      refine aw_iconst C 0 dX7_run_60 (by decide) ?_
      obtain ⟨g7, hg7, h⟩ := bindE h
      obtain ⟨v8, hv8, h⟩ := bindE h
      refine aw_cV_I C [.int 0] _ (mt_X9_seamOdds hv8) cs_X9_seamOdds ml_X7_43 im_X9_seamOdds se_X9_seamOdds (ci := 9) rfl rfl hg7 ⟨by decide, by decide⟩ ⟨rfl, rfl⟩ ⟨Nat.zero_le _, Nat.zero_le _⟩ rfl rfl (Nat.le_of_ble_eq_true rfl) dX7_run_61 ?_
      refine aw_iload_n C 3 dX7_run_64 rfl rfl ?_
      obtain ⟨v10, ev10, h⟩ := bindS h
      have kj65 : AW G 7 X 0 0 73 [(0, .ref (gZ G + a0)), (1, .int x1), (2, .int x2), (3, .int x3), (4, .int x4), (5, .int x5), (6, .int v5)] [.int v10, .int x1, .int x5, .ref (gZ G + a0)] μ4 := by
        obtain ⟨g11, hg11, h⟩ := bindE h
        obtain ⟨μ12, hμ12, h⟩ := bindE h
        refine aw_cV_V C [.int x5, .int x1, .int v10] _ (mt_X7_sayIn hμ12) cs_X7_sayIn ml_X7_47 im_X7_sayIn se_X7_sayIn (ci := 7) rfl rfl hg11 ⟨by decide, by decide⟩ ⟨rfl, rfl⟩ ⟨Nat.zero_le _, Nat.zero_le _⟩ rfl rfl (Nat.le_of_ble_eq_true rfl) dX7_run_73 ?_
        refine aw_aload_n C 0 dX7_run_76 rfl rfl ?_
        obtain ⟨v13, hv13, h⟩ := bindE h
        refine aw_gI C fl_X7_31 rfl hv13 dX7_run_77 ?_
        refine aw_iload C 6 dX7_run_80 rfl ?_
        obtain ⟨z23, hz23, h⟩ := bindE h
        have kj82 : AW G 7 X 0 0 111 [(0, .ref (gZ G + a0)), (1, .int x1), (2, .int x2), (3, .int x3), (4, .int x4), (5, .int x5)] [] z23 := by
          refine aw_iinc C (x5 + 1) 5 [(5, .int (x5 + 1)), (0, .ref (gZ G + a0)), (1, .int x1), (2, .int x2), (3, .int x3), (4, .int x4)] dX7_run_111 rfl rfl (by decide) rfl ?_
          refine aw_goto C 28 dX7_run_114 (by decide) ?_
          exact aw_sub [1, 2, 3, 4, 5, 0] rfl (ih _ _ _ h kx)
        replace h := hz23
        refine aw_icmp_le C 111 dX7_run_82 (by decide) (fun c14 => ?_) (fun c14 => ?_)
        · rw [if_pos c14] at h
          have e9 := inj1 h
          subst e9
          exact aw_sub [0, 1, 2, 3, 4, 5] rfl kj82
        · rw [if_neg c14] at h
          refine aw_aload_n C 0 dX7_run_85 rfl rfl ?_
          refine aw_dup C dX7_run_86 rfl ?_
          obtain ⟨v15, hv15, h⟩ := bindE h
          refine aw_gI C fl_X7_28 rfl hv15 dX7_run_87 ?_
          refine aw_aload_n C 0 dX7_run_90 rfl rfl ?_
          obtain ⟨v16, hv16, h⟩ := bindE h
          refine aw_gR C fl_X7_13 rfl hv16 dX7_run_91 ?_
          refine aw_iload_n C 3 dX7_run_94 rfl rfl ?_
          refine aw_aload_n C 0 dX7_run_95 rfl rfl ?_
          obtain ⟨v17, hv17, h⟩ := bindE h
          refine aw_gR C fl_X7_7 rfl hv17 dX7_run_96 ?_
          obtain ⟨v18, hv18, h⟩ := bindE h
          refine aw_gR C fl_X7_51 rfl hv18 dX7_run_99 ?_
          refine aw_iconst C 0 dX7_run_102 (by decide) ?_
          obtain ⟨v19, hv19, h⟩ := bindE h
          refine aw_aR C (by decide) (ty := .array .int) rfl rfl hv19 dX7_run_103 ?_
          obtain ⟨g20, hg20, h⟩ := bindE h
          obtain ⟨v21, hv21, h⟩ := bindE h
          refine aw_cV_I C [.int x3, .ref (gZ G + v19)] _ (mt_X8_lossBy hv21) cs_X8_lossBy ml_X7_55 im_X8_lossBy se_X8_lossBy (ci := 8) rfl rfl hg20 ⟨by decide, by decide⟩ ⟨rfl, rfl⟩ ⟨Nat.zero_le _, Nat.zero_le _⟩ rfl rfl (Nat.le_of_ble_eq_true rfl) dX7_run_104 ?_
          refine aw_iadd C dX7_run_107 ?_
          obtain ⟨μ22, hμ22, h⟩ := bindE h
          refine aw_pI C fl_X7_28 rfl hμ22 dX7_run_108 ?_
          have e9 := inj1 h
          subst e9
          exact aw_sub [0, 1, 2, 3, 4, 5] rfl kj82
      clear h
      refine aw_icmp_lt C 72 dX7_run_65 (by decide) (fun c9 => ?_) (fun c9 => ?_)
      · refine aw_iconst C 0 dX7_run_72 (by decide) ?_
        rw [if_pos c9] at ev10
        subst ev10
        exact aw_sub [1, 2, 3, 4, 5, 6, 0] rfl kj65
      · refine aw_iconst C 1 dX7_run_68 (by decide) ?_
        refine aw_goto C 73 dX7_run_69 (by decide) ?_
        rw [if_neg c9] at ev10
        subst ev10
        exact aw_sub [1, 2, 3, 4, 5, 6, 0] rfl kj65
set_option maxRecDepth 100000 in
set_option maxHeartbeats 4000000 in
theorem X7_run_L120_ok {G : GL} {X : CX} (C : Ctx G X cX7_run 7 RX7 rm_X7_run) (a0 : Nat) (x1 : Int32) (x4 : Int32) : ∀ (n : Nat) (x5 : Int32) (μ : Mem) (z : Int32 × Mem), X7_run_L120 a0 x1 x4 n x5 μ = some z → AW G 7 X 0 0 176 [(0, .ref (gZ G + a0)), (1, .int x1), (4, .int x4), (5, .int z.1)] [] z.2 → AW G 7 X 0 0 120 [(0, .ref (gZ G + a0)), (1, .int x1), (4, .int x4), (5, .int x5)] [] μ := by
  intro n
  induction n with
  | zero =>
    intro x5 μ z h kx
    rw [X7_run_L120] at h
    cases h
  | succ n ih =>
    intro x5 μ z h kx
    rw [X7_run_L120] at h
    refine aw_iload C 3 dX7_run_120 rfl ?_
    refine aw_aload_n C 0 dX7_run_122 rfl rfl ?_
    obtain ⟨v1, hv1, h⟩ := bindE h
    refine aw_gR C fl_X7_17 rfl hv1 dX7_run_123 ?_
    obtain ⟨v2, hv2, h⟩ := bindE h
    refine aw_gI C fl_X7_61 rfl hv2 dX7_run_126 ?_
    refine aw_icmp_ge C 176 dX7_run_129 (by decide) (fun c3 => ?_) (fun c3 => ?_)
    · rw [if_pos c3] at h
      have e9 := inj1 h
      subst e9
      exact aw_sub [0, 1, 2, 3] rfl kx
    · rw [if_neg c3] at h
      refine aw_aload_n C 0 dX7_run_132 rfl rfl ?_
      refine aw_iload C 3 dX7_run_133 rfl ?_
      refine aw_iload_n C 1 dX7_run_135 rfl rfl ?_
      obtain ⟨g4, hg4, h⟩ := bindE h
      obtain ⟨v5, hv5, h⟩ := bindE h
      refine aw_cV_I C [.int x5, .int x1] _ (mt_X7_isLeft hv5) cs_X7_isLeft ml_X7_66 im_X7_isLeft se_X7_isLeft (ci := 7) rfl rfl hg4 ⟨by decide, by decide⟩ ⟨rfl, rfl⟩ ⟨Nat.zero_le _, Nat.zero_le _⟩ rfl rfl (Nat.le_of_ble_eq_true rfl) dX7_run_136 ?_
      obtain ⟨z14, hz14, h⟩ := bindE h
      have kj139 : AW G 7 X 0 0 170 [(0, .ref (gZ G + a0)), (1, .int x1), (4, .int x4), (5, .int x5)] [] z14 := by
        refine aw_iinc C (x5 + 1) 3 [(5, .int (x5 + 1)), (0, .ref (gZ G + a0)), (1, .int x1), (4, .int x4)] dX7_run_170 rfl rfl (by decide) rfl ?_
        refine aw_goto C 120 dX7_run_173 (by decide) ?_
        exact aw_sub [1, 2, 3, 0] rfl (ih _ _ _ h kx)
      replace h := hz14
      refine aw_if_eq C 170 dX7_run_139 (by decide) (fun c6 => ?_) (fun c6 => ?_)
      · rw [if_pos c6] at h
        have e9 := inj1 h
        subst e9
        exact aw_sub [0, 1, 2, 3] rfl kj139
      · rw [if_neg c6] at h
        refine aw_aload_n C 0 dX7_run_142 rfl rfl ?_
        obtain ⟨v7, hv7, h⟩ := bindE h
        refine aw_gR C fl_X7_17 rfl hv7 dX7_run_143 ?_
        obtain ⟨v8, hv8, h⟩ := bindE h
        refine aw_gR C fl_X7_70 rfl hv8 dX7_run_146 ?_
        refine aw_iload C 3 dX7_run_149 rfl ?_
        obtain ⟨v9, hv9, h⟩ := bindE h
        refine aw_aR C (by decide) (ty := .object RX6) rfl rfl hv9 dX7_run_151 ?_
        obtain ⟨v10, hv10, h⟩ := bindE h
        refine aw_gI C fl_X7_74 rfl hv10 dX7_run_152 ?_
        refine aw_iload C 2 dX7_run_155 rfl ?_
        refine aw_icmp_ge C 170 dX7_run_157 (by decide) (fun c11 => ?_) (fun c11 => ?_)
        · rw [if_pos c11] at h
          have e9 := inj1 h
          subst e9
          exact aw_sub [0, 1, 2, 3] rfl kj139
        · rw [if_neg c11] at h
          refine aw_aload_n C 0 dX7_run_160 rfl rfl ?_
          refine aw_dup C dX7_run_161 rfl ?_
          obtain ⟨v12, hv12, h⟩ := bindE h
          refine aw_gI C fl_X7_21 rfl hv12 dX7_run_162 ?_
          refine aw_iconst C 1 dX7_run_165 (by decide) ?_
          refine aw_iadd C dX7_run_166 ?_
          obtain ⟨μ13, hμ13, h⟩ := bindE h
          refine aw_pI C fl_X7_21 rfl hμ13 dX7_run_167 ?_
          have e9 := inj1 h
          subst e9
          exact aw_sub [0, 1, 2, 3] rfl kj139
set_option maxRecDepth 100000 in
set_option maxHeartbeats 4000000 in
theorem wk_X7_run {G : GL} {X : CX} {a0 : Nat} {x1 : Int32} {x2 : Int32} {x3 : Int32} {x4 : Int32} {μ : Mem} {μ' : Mem} (C : Ctx G X cX7_run 7 RX7 rm_X7_run) (h : X7_run a0 x1 x2 x3 x4 μ = some μ') (hret : RtV G 7 X cX7_run 0 0 μ') : AW G 7 X 0 0 0 [(0, .ref (gZ G + a0)), (1, .int x1), (2, .int x2), (3, .int x3), (4, .int x4)] [] μ := by
  unfold X7_run at h
  refine aw_aload_n C 0 dX7_run_0 rfl rfl ?_
  refine aw_iconst C 0 dX7_run_1 (by decide) ?_
  obtain ⟨μ1, hμ1, h⟩ := bindE h
  refine aw_pI C fl_X7_21 rfl hμ1 dX7_run_2 ?_
  refine aw_aload_n C 0 dX7_run_5 rfl rfl ?_
  refine aw_iconst C 0 dX7_run_6 (by decide) ?_
  obtain ⟨μ2, hμ2, h⟩ := bindE h
  refine aw_pI C fl_X7_25 rfl hμ2 dX7_run_7 ?_
  refine aw_aload_n C 0 dX7_run_10 rfl rfl ?_
  refine aw_iconst C 0 dX7_run_11 (by decide) ?_
  obtain ⟨μ3, hμ3, h⟩ := bindE h
  refine aw_pI C fl_X7_28 rfl hμ3 dX7_run_12 ?_
  refine aw_aload_n C 0 dX7_run_15 rfl rfl ?_
  refine aw_iconst C 0 dX7_run_16 (by decide) ?_
  obtain ⟨μ4, hμ4, h⟩ := bindE h
  refine aw_pI C fl_X7_31 rfl hμ4 dX7_run_17 ?_
  refine aw_aload_n C 0 dX7_run_20 rfl rfl ?_
  refine aw_iconst C 0 dX7_run_21 (by decide) ?_
  obtain ⟨μ5, hμ5, h⟩ := bindE h
  refine aw_pI C fl_X7_34 rfl hμ5 dX7_run_22 ?_
  refine aw_iconst C 0 dX7_run_25 (by decide) ?_
  refine aw_istore C [(5, .int 0), (0, .ref (gZ G + a0)), (1, .int x1), (2, .int x2), (3, .int x3), (4, .int x4)] dX7_run_26 (by decide) rfl ?_
  obtain ⟨z6, hz6, h⟩ := bindE h
  refine aw_sub [1, 2, 3, 4, 5, 0] rfl ?_
  refine X7_run_L28_ok C _ _ _ _ _ _ _ _ _ hz6 ?_
  refine aw_iconst C 0 dX7_run_117 (by decide) ?_
  refine aw_istore C [(5, .int 0), (0, .ref (gZ G + a0)), (1, .int x1), (2, .int x2), (3, .int x3), (4, .int x4)] dX7_run_118 (by decide) rfl ?_
  obtain ⟨z7, hz7, h⟩ := bindE h
  refine aw_sub [1, 2, 5, 0] rfl ?_
  refine X7_run_L120_ok C _ _ _ _ _ _ _ hz7 ?_
  have e9 := inj1 h
  subst e9
  exact hret _ _ dX7_run_176
set_option maxRecDepth 100000 in
set_option maxHeartbeats 4000000 in
theorem mt_X7_run {G : GL} {l : Launch} {a0 : Nat} {x1 : Int32} {x2 : Int32} {x3 : Int32} {x4 : Int32} {μ : Mem} {μ' : Mem} (h : X7_run a0 x1 x2 x3 x4 μ = some μ') : MtV G l yX7_run cX7_run 7 none rm_X7_run false [.ref (gZ G + a0), .int x1, .int x2, .int x3, .int x4] μ μ' := met_V (by decide) rfl (Nat.le_of_ble_eq_true rfl) (fun X _ C _ _ hret => wk_X7_run C h hret)
set_option maxRecDepth 100000 in
set_option maxHeartbeats 4000000 in
theorem X8_init_L38_ok {G : GL} {X : CX} {cells slots : Nat} (C : Ctx G X cX8_init 3 RX8 rm_X8_init) (a0 : Nat) (x1 : Int32) : ∀ (n : Nat) (x2 : Int32) (μ : Mem) (z : Int32 × Mem), X8_init_L38 a0 x1 n x2 μ = some z → AW G 3 X cells slots 59 [(0, .ref (gZ G + a0)), (1, .int x1), (2, .int z.1)] [] z.2 → AW G 3 X cells slots 38 [(0, .ref (gZ G + a0)), (1, .int x1), (2, .int x2)] [] μ := by
  intro n
  induction n with
  | zero =>
    intro x2 μ z h kx
    rw [X8_init_L38] at h
    cases h
  | succ n ih =>
    intro x2 μ z h kx
    rw [X8_init_L38] at h
    refine aw_iload_n C 2 dX8_init_38 rfl rfl ?_
    refine aw_iconst C 4 dX8_init_39 (by decide) ?_
    refine aw_icmp_ge C 59 dX8_init_40 (by decide) (fun c1 => ?_) (fun c1 => ?_)
    · rw [if_pos c1] at h
      have e9 := inj1 h
      subst e9
      exact aw_sub [0, 1, 2] rfl kx
    · rw [if_neg c1] at h
      refine aw_aload_n C 0 dX8_init_43 rfl rfl ?_
      obtain ⟨v2, hv2, h⟩ := bindE h
      refine aw_gR C fl_X8_11 rfl hv2 dX8_init_44 ?_
      refine aw_iload_n C 1 dX8_init_47 rfl rfl ?_
      obtain ⟨v3, hv3, h⟩ := bindE h
      refine aw_aR C (by decide) (ty := .array .int) rfl rfl hv3 dX8_init_48 ?_
      refine aw_iload_n C 2 dX8_init_49 rfl rfl ?_
      refine aw_bipush C 10 dX8_init_50 (by decide) ?_
      obtain ⟨μ4, hμ4, h⟩ := bindE h
      refine aw_sI C hμ4 dX8_init_52 ?_
      refine aw_iinc C (x2 + 1) 2 [(2, .int (x2 + 1)), (0, .ref (gZ G + a0)), (1, .int x1)] dX8_init_53 rfl rfl (by decide) rfl ?_
      refine aw_goto C 38 dX8_init_56 (by decide) ?_
      exact aw_sub [1, 2, 0] rfl (ih _ _ _ h kx)
set_option maxRecDepth 100000 in
set_option maxHeartbeats 4000000 in
theorem X8_init_L23_ok {G : GL} {X : CX} {cells slots : Nat} (C : Ctx G X cX8_init 3 RX8 rm_X8_init) (a0 : Nat) : ∀ (n : Nat) (x1 : Int32) (μ : Mem) (z : Int32 × Mem), X8_init_L23 a0 n x1 μ = some z → AW G 3 X cells slots 65 [(0, .ref (gZ G + a0)), (1, .int z.1)] [] z.2 → AW G 3 X cells slots 23 [(0, .ref (gZ G + a0)), (1, .int x1)] [] μ := by
  intro n
  induction n with
  | zero =>
    intro x1 μ z h kx
    rw [X8_init_L23] at h
    cases h
  | succ n ih =>
    intro x1 μ z h kx
    rw [X8_init_L23] at h
    refine aw_iload_n C 1 dX8_init_23 rfl rfl ?_
    refine aw_iconst C 4 dX8_init_24 (by decide) ?_
    refine aw_icmp_ge C 65 dX8_init_25 (by decide) (fun c1 => ?_) (fun c1 => ?_)
    · rw [if_pos c1] at h
      have e9 := inj1 h
      subst e9
      exact aw_sub [0, 1] rfl kx
    · rw [if_neg c1] at h
      refine aw_aload_n C 0 dX8_init_28 rfl rfl ?_
      obtain ⟨v2, hv2, h⟩ := bindE h
      refine aw_gR C fl_X8_16 rfl hv2 dX8_init_29 ?_
      refine aw_iload_n C 1 dX8_init_32 rfl rfl ?_
      refine aw_bipush C 50 dX8_init_33 (by decide) ?_
      obtain ⟨μ3, hμ3, h⟩ := bindE h
      refine aw_sI C hμ3 dX8_init_35 ?_
      refine aw_iconst C 0 dX8_init_36 (by decide) ?_
      refine aw_istore_n C [(2, .int 0), (0, .ref (gZ G + a0)), (1, .int x1)] dX8_init_37 rfl (by decide) rfl ?_
      obtain ⟨z4, hz4, h⟩ := bindE h
      refine aw_sub [1, 2, 0] rfl ?_
      refine X8_init_L38_ok C _ _ _ _ _ _ hz4 ?_
      refine aw_iinc C (x1 + 1) 1 [(1, .int (x1 + 1)), (0, .ref (gZ G + a0)), (2, .int z4.1)] dX8_init_59 rfl rfl (by decide) rfl ?_
      refine aw_goto C 23 dX8_init_62 (by decide) ?_
      exact aw_sub [1, 0] rfl (ih _ _ _ h kx)
set_option maxRecDepth 100000 in
set_option maxHeartbeats 4000000 in
theorem wk_X8_init {G : GL} {X : CX} {a0 : Nat} {μ : Mem} {μ' : Mem} (C : Ctx G X cX8_init 3 RX8 rm_X8_init) (hi : (xT X).name = "<init>") (hb : (xS X).heap.size = gZ G + mN μ) (h : X8_init a0 μ = some μ') (hret : RtV G 3 X cX8_init 6 24 μ') : AW G 3 X 0 0 0 [(0, .ref (gZ G + a0))] [] μ := by
  unfold X8_init at h
  refine aw_aload_n C 0 dX8_init_0 rfl rfl ?_
  refine aw_oinit C mo_X8_3 ob_im ob_co (by decide) (by decide) (Nat.le_of_ble_eq_true rfl) dX8_init_1 ?_
  refine aw_aload_n C 0 dX8_init_4 rfl rfl ?_
  refine aw_iconst C 4 dX8_init_5 (by decide) ?_
  refine aw_iconst C 4 dX8_init_6 (by decide) ?_
  obtain ⟨μ1, hμ1, h⟩ := bindE h
  refine aw_mna C (N := 4) (K := 4) 5 20 clg_X8_9 ac_int hb hμ1 (by decide) (by decide) (by decide) (by decide) (by decide) (by decide) (by decide) rfl rfl dX8_init_7 ?_
  obtain ⟨μ2, hμ2, h⟩ := bindE h
  refine aw_pRF C fl_X8_11 hi rfl rfl rfl rfl hμ2 dX8_init_11 ?_
  refine aw_aload_n C 0 dX8_init_14 rfl rfl ?_
  refine aw_iconst C 4 dX8_init_15 (by decide) ?_
  obtain ⟨μ3, hμ3, h⟩ := bindE h
  refine aw_newaI C (N' := 4) 6 24 ac_int hb hμ3 (by decide) (by decide) (by decide) (by decide) rfl rfl dX8_init_16 ?_
  obtain ⟨μ4, hμ4, h⟩ := bindE h
  refine aw_pRF C fl_X8_16 hi rfl rfl rfl rfl hμ4 dX8_init_18 ?_
  refine aw_iconst C 0 dX8_init_21 (by decide) ?_
  refine aw_istore_n C [(1, .int 0), (0, .ref (gZ G + a0))] dX8_init_22 rfl (by decide) rfl ?_
  obtain ⟨z5, hz5, h⟩ := bindE h
  refine aw_sub [1, 0] rfl ?_
  refine X8_init_L23_ok C _ _ _ _ _ hz5 ?_
  have e9 := inj1 h
  subst e9
  exact hret _ _ dX8_init_65
set_option maxRecDepth 100000 in
set_option maxHeartbeats 4000000 in
theorem mt_X8_init {G : GL} {l : Launch} {a0 : Nat} {μ : Mem} {μ' : Mem} (h : X8_init a0 μ = some μ') : MtV G l yX8_init cX8_init 3 none rm_X8_init true [.ref (gZ G + a0)] μ μ' := met_V (by decide) rfl (Nat.le_of_ble_eq_true rfl) (fun X _ C hi hb hret => wk_X8_init C hi (hb rfl) h hret)
set_option maxRecDepth 100000 in
set_option maxHeartbeats 4000000 in
theorem X9_init_L83_ok {G : GL} {X : CX} {cells slots : Nat} (C : Ctx G X cX9_init 3 RX9 rm_X9_init) (a0 : Nat) (x1 : Int32) : ∀ (n : Nat) (x2 : Int32) (μ : Mem) (z : Int32 × Mem), X9_init_L83 a0 x1 n x2 μ = some z → AW G 3 X cells slots 103 [(0, .ref (gZ G + a0)), (1, .int x1), (2, .int z.1)] [] z.2 → AW G 3 X cells slots 83 [(0, .ref (gZ G + a0)), (1, .int x1), (2, .int x2)] [] μ := by
  intro n
  induction n with
  | zero =>
    intro x2 μ z h kx
    rw [X9_init_L83] at h
    cases h
  | succ n ih =>
    intro x2 μ z h kx
    rw [X9_init_L83] at h
    refine aw_iload_n C 2 dX9_init_83 rfl rfl ?_
    refine aw_iconst C 4 dX9_init_84 (by decide) ?_
    refine aw_icmp_ge C 103 dX9_init_85 (by decide) (fun c1 => ?_) (fun c1 => ?_)
    · rw [if_pos c1] at h
      have e9 := inj1 h
      subst e9
      exact aw_sub [0, 1, 2] rfl kx
    · rw [if_neg c1] at h
      refine aw_aload_n C 0 dX9_init_88 rfl rfl ?_
      obtain ⟨v2, hv2, h⟩ := bindE h
      refine aw_gR C fl_X9_11 rfl hv2 dX9_init_89 ?_
      refine aw_iload_n C 1 dX9_init_92 rfl rfl ?_
      obtain ⟨v3, hv3, h⟩ := bindE h
      refine aw_aR C (by decide) (ty := .array .int) rfl rfl hv3 dX9_init_93 ?_
      refine aw_iload_n C 2 dX9_init_94 rfl rfl ?_
      refine aw_iconst C 1 dX9_init_95 (by decide) ?_
      obtain ⟨μ4, hμ4, h⟩ := bindE h
      refine aw_sI C hμ4 dX9_init_96 ?_
      refine aw_iinc C (x2 + 1) 2 [(2, .int (x2 + 1)), (0, .ref (gZ G + a0)), (1, .int x1)] dX9_init_97 rfl rfl (by decide) rfl ?_
      refine aw_goto C 83 dX9_init_100 (by decide) ?_
      exact aw_sub [1, 2, 0] rfl (ih _ _ _ h kx)
set_option maxRecDepth 100000 in
set_option maxHeartbeats 4000000 in
theorem X9_init_L105_ok {G : GL} {X : CX} {cells slots : Nat} (C : Ctx G X cX9_init 3 RX9 rm_X9_init) (a0 : Nat) (x1 : Int32) : ∀ (n : Nat) (x2 : Int32) (μ : Mem) (z : Int32 × Mem), X9_init_L105 a0 x1 n x2 μ = some z → AW G 3 X cells slots 125 [(0, .ref (gZ G + a0)), (1, .int x1), (2, .int z.1)] [] z.2 → AW G 3 X cells slots 105 [(0, .ref (gZ G + a0)), (1, .int x1), (2, .int x2)] [] μ := by
  intro n
  induction n with
  | zero =>
    intro x2 μ z h kx
    rw [X9_init_L105] at h
    cases h
  | succ n ih =>
    intro x2 μ z h kx
    rw [X9_init_L105] at h
    refine aw_iload_n C 2 dX9_init_105 rfl rfl ?_
    refine aw_iconst C 4 dX9_init_106 (by decide) ?_
    refine aw_icmp_ge C 125 dX9_init_107 (by decide) (fun c1 => ?_) (fun c1 => ?_)
    · rw [if_pos c1] at h
      have e9 := inj1 h
      subst e9
      exact aw_sub [0, 1, 2] rfl kx
    · rw [if_neg c1] at h
      refine aw_aload_n C 0 dX9_init_110 rfl rfl ?_
      obtain ⟨v2, hv2, h⟩ := bindE h
      refine aw_gR C fl_X9_16 rfl hv2 dX9_init_111 ?_
      refine aw_iload_n C 1 dX9_init_114 rfl rfl ?_
      obtain ⟨v3, hv3, h⟩ := bindE h
      refine aw_aR C (by decide) (ty := .array .int) rfl rfl hv3 dX9_init_115 ?_
      refine aw_iload_n C 2 dX9_init_116 rfl rfl ?_
      refine aw_iconst C 1 dX9_init_117 (by decide) ?_
      obtain ⟨μ4, hμ4, h⟩ := bindE h
      refine aw_sI C hμ4 dX9_init_118 ?_
      refine aw_iinc C (x2 + 1) 2 [(2, .int (x2 + 1)), (0, .ref (gZ G + a0)), (1, .int x1)] dX9_init_119 rfl rfl (by decide) rfl ?_
      refine aw_goto C 105 dX9_init_122 (by decide) ?_
      exact aw_sub [1, 2, 0] rfl (ih _ _ _ h kx)
set_option maxRecDepth 100000 in
set_option maxHeartbeats 4000000 in
theorem X9_init_L69_ok {G : GL} {X : CX} {cells slots : Nat} (C : Ctx G X cX9_init 3 RX9 rm_X9_init) (a0 : Nat) : ∀ (n : Nat) (x1 : Int32) (μ : Mem) (z : Int32 × Mem), X9_init_L69 a0 n x1 μ = some z → AW G 3 X cells slots 131 [(0, .ref (gZ G + a0)), (1, .int z.1)] [] z.2 → AW G 3 X cells slots 69 [(0, .ref (gZ G + a0)), (1, .int x1)] [] μ := by
  intro n
  induction n with
  | zero =>
    intro x1 μ z h kx
    rw [X9_init_L69] at h
    cases h
  | succ n ih =>
    intro x1 μ z h kx
    rw [X9_init_L69] at h
    refine aw_iload_n C 1 dX9_init_69 rfl rfl ?_
    refine aw_iconst C 4 dX9_init_70 (by decide) ?_
    refine aw_icmp_ge C 131 dX9_init_71 (by decide) (fun c1 => ?_) (fun c1 => ?_)
    · rw [if_pos c1] at h
      have e9 := inj1 h
      subst e9
      exact aw_sub [0, 1] rfl kx
    · rw [if_neg c1] at h
      refine aw_aload_n C 0 dX9_init_74 rfl rfl ?_
      obtain ⟨v2, hv2, h⟩ := bindE h
      refine aw_gR C fl_X9_19 rfl hv2 dX9_init_75 ?_
      refine aw_iload_n C 1 dX9_init_78 rfl rfl ?_
      refine aw_iconst C 1 dX9_init_79 (by decide) ?_
      obtain ⟨μ3, hμ3, h⟩ := bindE h
      refine aw_sI C hμ3 dX9_init_80 ?_
      refine aw_iconst C 0 dX9_init_81 (by decide) ?_
      refine aw_istore_n C [(2, .int 0), (0, .ref (gZ G + a0)), (1, .int x1)] dX9_init_82 rfl (by decide) rfl ?_
      obtain ⟨z4, hz4, h⟩ := bindE h
      refine aw_sub [1, 2, 0] rfl ?_
      refine X9_init_L83_ok C _ _ _ _ _ _ hz4 ?_
      refine aw_iconst C 0 dX9_init_103 (by decide) ?_
      refine aw_istore_n C [(2, .int 0), (0, .ref (gZ G + a0)), (1, .int x1)] dX9_init_104 rfl (by decide) rfl ?_
      obtain ⟨z5, hz5, h⟩ := bindE h
      refine aw_sub [1, 2, 0] rfl ?_
      refine X9_init_L105_ok C _ _ _ _ _ _ hz5 ?_
      refine aw_iinc C (x1 + 1) 1 [(1, .int (x1 + 1)), (0, .ref (gZ G + a0)), (2, .int z5.1)] dX9_init_125 rfl rfl (by decide) rfl ?_
      refine aw_goto C 69 dX9_init_128 (by decide) ?_
      exact aw_sub [1, 0] rfl (ih _ _ _ h kx)
set_option maxRecDepth 100000 in
set_option maxHeartbeats 4000000 in
theorem X9_init_L140_ok {G : GL} {X : CX} {cells slots : Nat} (C : Ctx G X cX9_init 3 RX9 rm_X9_init) (a0 : Nat) (x1 : Int32) : ∀ (n : Nat) (x2 : Int32) (μ : Mem) (z : Int32 × Mem), X9_init_L140 a0 x1 n x2 μ = some z → AW G 3 X cells slots 161 [(0, .ref (gZ G + a0)), (1, .int x1), (2, .int z.1)] [] z.2 → AW G 3 X cells slots 140 [(0, .ref (gZ G + a0)), (1, .int x1), (2, .int x2)] [] μ := by
  intro n
  induction n with
  | zero =>
    intro x2 μ z h kx
    rw [X9_init_L140] at h
    cases h
  | succ n ih =>
    intro x2 μ z h kx
    rw [X9_init_L140] at h
    refine aw_iload_n C 2 dX9_init_140 rfl rfl ?_
    refine aw_bipush C 60 dX9_init_141 (by decide) ?_
    refine aw_icmp_gt C 161 dX9_init_143 (by decide) (fun c1 => ?_) (fun c1 => ?_)
    · rw [if_pos c1] at h
      have e9 := inj1 h
      subst e9
      exact aw_sub [0, 1, 2] rfl kx
    · rw [if_neg c1] at h
      refine aw_aload_n C 0 dX9_init_146 rfl rfl ?_
      obtain ⟨v2, hv2, h⟩ := bindE h
      refine aw_gR C fl_X9_23 rfl hv2 dX9_init_147 ?_
      refine aw_iload_n C 1 dX9_init_150 rfl rfl ?_
      obtain ⟨v3, hv3, h⟩ := bindE h
      refine aw_aR C (by decide) (ty := .array .int) rfl rfl hv3 dX9_init_151 ?_
      refine aw_iload_n C 2 dX9_init_152 rfl rfl ?_
      refine aw_iconst C ((-1)) dX9_init_153 (by decide) ?_
      obtain ⟨μ4, hμ4, h⟩ := bindE h
      refine aw_sI C hμ4 dX9_init_154 ?_
      refine aw_iinc C (x2 + 1) 2 [(2, .int (x2 + 1)), (0, .ref (gZ G + a0)), (1, .int x1)] dX9_init_155 rfl rfl (by decide) rfl ?_
      refine aw_goto C 140 dX9_init_158 (by decide) ?_
      exact aw_sub [1, 2, 0] rfl (ih _ _ _ h kx)
set_option maxRecDepth 100000 in
set_option maxHeartbeats 4000000 in
theorem X9_init_L133_ok {G : GL} {X : CX} {cells slots : Nat} (C : Ctx G X cX9_init 3 RX9 rm_X9_init) (a0 : Nat) : ∀ (n : Nat) (x1 : Int32) (μ : Mem) (z : Int32 × Mem), X9_init_L133 a0 n x1 μ = some z → AW G 3 X cells slots 167 [(0, .ref (gZ G + a0)), (1, .int z.1)] [] z.2 → AW G 3 X cells slots 133 [(0, .ref (gZ G + a0)), (1, .int x1)] [] μ := by
  intro n
  induction n with
  | zero =>
    intro x1 μ z h kx
    rw [X9_init_L133] at h
    cases h
  | succ n ih =>
    intro x1 μ z h kx
    rw [X9_init_L133] at h
    refine aw_iload_n C 1 dX9_init_133 rfl rfl ?_
    refine aw_iconst C 4 dX9_init_134 (by decide) ?_
    refine aw_icmp_ge C 167 dX9_init_135 (by decide) (fun c1 => ?_) (fun c1 => ?_)
    · rw [if_pos c1] at h
      have e9 := inj1 h
      subst e9
      exact aw_sub [0, 1] rfl kx
    · rw [if_neg c1] at h
      refine aw_iconst C 0 dX9_init_138 (by decide) ?_
      refine aw_istore_n C [(2, .int 0), (0, .ref (gZ G + a0)), (1, .int x1)] dX9_init_139 rfl (by decide) rfl ?_
      obtain ⟨z2, hz2, h⟩ := bindE h
      refine aw_sub [1, 2, 0] rfl ?_
      refine X9_init_L140_ok C _ _ _ _ _ _ hz2 ?_
      refine aw_iinc C (x1 + 1) 1 [(1, .int (x1 + 1)), (0, .ref (gZ G + a0)), (2, .int z2.1)] dX9_init_161 rfl rfl (by decide) rfl ?_
      refine aw_goto C 133 dX9_init_164 (by decide) ?_
      exact aw_sub [1, 0] rfl (ih _ _ _ h kx)
set_option maxRecDepth 100000 in
set_option maxHeartbeats 4000000 in
theorem wk_X9_init {G : GL} {X : CX} {a0 : Nat} {μ : Mem} {μ' : Mem} (C : Ctx G X cX9_init 3 RX9 rm_X9_init) (hi : (xT X).name = "<init>") (hb : (xS X).heap.size = gZ G + mN μ) (h : X9_init a0 μ = some μ') (hret : RtV G 3 X cX9_init 28 345 μ') : AW G 3 X 0 0 0 [(0, .ref (gZ G + a0))] [] μ := by
  unfold X9_init at h
  refine aw_aload_n C 0 dX9_init_0 rfl rfl ?_
  refine aw_oinit C mo_X9_3 ob_im ob_co (by decide) (by decide) (Nat.le_of_ble_eq_true rfl) dX9_init_1 ?_
  refine aw_aload_n C 0 dX9_init_4 rfl rfl ?_
  refine aw_iconst C 4 dX9_init_5 (by decide) ?_
  refine aw_iconst C 4 dX9_init_6 (by decide) ?_
  obtain ⟨μ1, hμ1, h⟩ := bindE h
  refine aw_mna C (N := 4) (K := 4) 5 20 clg_X9_9 ac_int hb hμ1 (by decide) (by decide) (by decide) (by decide) (by decide) (by decide) (by decide) rfl rfl dX9_init_7 ?_
  obtain ⟨μ2, hμ2, h⟩ := bindE h
  refine aw_pRF C fl_X9_11 hi rfl rfl rfl rfl hμ2 dX9_init_11 ?_
  refine aw_aload_n C 0 dX9_init_14 rfl rfl ?_
  refine aw_iconst C 4 dX9_init_15 (by decide) ?_
  refine aw_iconst C 4 dX9_init_16 (by decide) ?_
  obtain ⟨μ3, hμ3, h⟩ := bindE h
  refine aw_mna C (N := 4) (K := 4) 10 40 clg_X9_9 ac_int hb hμ3 (by decide) (by decide) (by decide) (by decide) (by decide) (by decide) (by decide) rfl rfl dX9_init_17 ?_
  obtain ⟨μ4, hμ4, h⟩ := bindE h
  refine aw_pRF C fl_X9_16 hi rfl rfl rfl rfl hμ4 dX9_init_21 ?_
  refine aw_aload_n C 0 dX9_init_24 rfl rfl ?_
  refine aw_iconst C 4 dX9_init_25 (by decide) ?_
  obtain ⟨μ5, hμ5, h⟩ := bindE h
  refine aw_newaI C (N' := 4) 11 44 ac_int hb hμ5 (by decide) (by decide) (by decide) (by decide) rfl rfl dX9_init_26 ?_
  obtain ⟨μ6, hμ6, h⟩ := bindE h
  refine aw_pRF C fl_X9_19 hi rfl rfl rfl rfl hμ6 dX9_init_28 ?_
  refine aw_aload_n C 0 dX9_init_31 rfl rfl ?_
  refine aw_iconst C 4 dX9_init_32 (by decide) ?_
  refine aw_bipush C 61 dX9_init_33 (by decide) ?_
  obtain ⟨μ7, hμ7, h⟩ := bindE h
  refine aw_mna C (N := 4) (K := 61) 16 292 clg_X9_9 ac_int hb hμ7 (by decide) (by decide) (by decide) (by decide) (by decide) (by decide) (by decide) rfl rfl dX9_init_35 ?_
  obtain ⟨μ8, hμ8, h⟩ := bindE h
  refine aw_pRF C fl_X9_23 hi rfl rfl rfl rfl hμ8 dX9_init_39 ?_
  refine aw_aload_n C 0 dX9_init_42 rfl rfl ?_
  refine aw_bipush C 9 dX9_init_43 (by decide) ?_
  refine aw_iconst C 4 dX9_init_45 (by decide) ?_
  obtain ⟨μ9, hμ9, h⟩ := bindE h
  refine aw_mna C (N := 9) (K := 4) 26 337 clg_X9_9 ac_int hb hμ9 (by decide) (by decide) (by decide) (by decide) (by decide) (by decide) (by decide) rfl rfl dX9_init_46 ?_
  obtain ⟨μ10, hμ10, h⟩ := bindE h
  refine aw_pRF C fl_X9_26 hi rfl rfl rfl rfl hμ10 dX9_init_50 ?_
  refine aw_aload_n C 0 dX9_init_53 rfl rfl ?_
  refine aw_iconst C 4 dX9_init_54 (by decide) ?_
  obtain ⟨μ11, hμ11, h⟩ := bindE h
  refine aw_newaJ C (N' := 4) 27 341 ac_long hb hμ11 (by decide) (by decide) (by decide) (by decide) rfl rfl dX9_init_55 ?_
  obtain ⟨μ12, hμ12, h⟩ := bindE h
  refine aw_pR C fl_X9_29 rfl rfl rfl hμ12 dX9_init_57 ?_
  refine aw_aload_n C 0 dX9_init_60 rfl rfl ?_
  refine aw_iconst C 4 dX9_init_61 (by decide) ?_
  obtain ⟨μ13, hμ13, h⟩ := bindE h
  refine aw_newaJ C (N' := 4) 28 345 ac_long hb hμ13 (by decide) (by decide) (by decide) (by decide) rfl rfl dX9_init_62 ?_
  obtain ⟨μ14, hμ14, h⟩ := bindE h
  refine aw_pR C fl_X9_33 rfl rfl rfl hμ14 dX9_init_64 ?_
  refine aw_iconst C 0 dX9_init_67 (by decide) ?_
  refine aw_istore_n C [(1, .int 0), (0, .ref (gZ G + a0))] dX9_init_68 rfl (by decide) rfl ?_
  obtain ⟨z15, hz15, h⟩ := bindE h
  refine aw_sub [1, 0] rfl ?_
  refine X9_init_L69_ok C _ _ _ _ _ hz15 ?_
  refine aw_iconst C 0 dX9_init_131 (by decide) ?_
  refine aw_istore_n C [(1, .int 0), (0, .ref (gZ G + a0))] dX9_init_132 rfl (by decide) rfl ?_
  obtain ⟨z16, hz16, h⟩ := bindE h
  refine aw_sub [1, 0] rfl ?_
  refine X9_init_L133_ok C _ _ _ _ _ hz16 ?_
  have e9 := inj1 h
  subst e9
  exact hret _ _ dX9_init_167
set_option maxRecDepth 100000 in
set_option maxHeartbeats 4000000 in
theorem mt_X9_init {G : GL} {l : Launch} {a0 : Nat} {μ : Mem} {μ' : Mem} (h : X9_init a0 μ = some μ') : MtV G l yX9_init cX9_init 3 none rm_X9_init true [.ref (gZ G + a0)] μ μ' := met_V (by decide) rfl (Nat.le_of_ble_eq_true rfl) (fun X _ C hi hb hret => wk_X9_init C hi (hb rfl) h hret)
set_option maxRecDepth 100000 in
set_option maxHeartbeats 4000000 in
theorem wk_X9_fittingRows {G : GL} {X : CX} {a0 : Nat} {x1 : Int32} {x2 : Int32} {μ : Mem} {r : Int32} {μ' : Mem} (C : Ctx G X cX9_fittingRows 3 RX9 rm_X9_fittingRows) (h : X9_fittingRows a0 x1 x2 μ = some (r, μ')) (hret : RtI G 3 X cX9_fittingRows 0 0 r μ') : AW G 3 X 0 0 0 [(0, .ref (gZ G + a0)), (1, .int x1), (2, .int x2)] [] μ := by
  unfold X9_fittingRows at h
  refine aw_aload_n C 0 dX9_fittingRows_0 rfl rfl ?_
  refine aw_iload_n C 1 dX9_fittingRows_1 rfl rfl ?_
  refine aw_iload_n C 2 dX9_fittingRows_2 rfl rfl ?_
  refine aw_iconst C 1 dX9_fittingRows_3 (by decide) ?_
  obtain ⟨g1, hg1, h⟩ := bindE h
  obtain ⟨μ2, hμ2, h⟩ := bindE h
  refine aw_cV_V C [.int x1, .int x2, .int 1] _ (mt_X9_weigh hμ2) cs_X9_weigh ml_X9_36 im_X9_weigh se_X9_weigh (ci := 9) rfl rfl hg1 ⟨by decide, by decide⟩ ⟨rfl, rfl⟩ ⟨Nat.zero_le _, Nat.zero_le _⟩ rfl rfl (Nat.le_of_ble_eq_true rfl) dX9_fittingRows_4 ?_
  refine aw_aload_n C 0 dX9_fittingRows_7 rfl rfl ?_
  obtain ⟨g3, hg3, h⟩ := bindE h
  obtain ⟨v4, hv4, h⟩ := bindE h
  refine aw_cV_J C [] _ (mt_X9_allWeights hv4) cs_X9_allWeights ml_X9_40 im_X9_allWeights se_X9_allWeights (ci := 9) rfl rfl hg3 ⟨by decide, by decide⟩ ⟨rfl, rfl⟩ ⟨Nat.zero_le _, Nat.zero_le _⟩ rfl rfl (Nat.le_of_ble_eq_true rfl) dX9_fittingRows_8 ?_
  refine aw_l2i C dX9_fittingRows_11 ?_
  obtain ⟨e8, e9⟩ := inj2 h
  subst e8
  subst e9
  exact hret _ _ dX9_fittingRows_12
set_option maxRecDepth 100000 in
set_option maxHeartbeats 4000000 in
theorem mt_X9_fittingRows {G : GL} {l : Launch} {a0 : Nat} {x1 : Int32} {x2 : Int32} {μ : Mem} {r : Int32} {μ' : Mem} (h : X9_fittingRows a0 x1 x2 μ = some (r, μ')) : MtI G l yX9_fittingRows cX9_fittingRows 3 (some .int) rm_X9_fittingRows false [.ref (gZ G + a0), .int x1, .int x2] μ r μ' := met_I (by decide) rfl rfl (Nat.le_of_ble_eq_true rfl) (fun X _ C _ _ hret => wk_X9_fittingRows C h hret)
set_option maxRecDepth 100000 in
set_option maxHeartbeats 4000000 in
theorem wk_X10_init {G : GL} {X : CX} {a0 : Nat} {μ : Mem} {μ' : Mem} (C : Ctx G X cX10_init 2 RX10 rm_X10_init) (hi : (xT X).name = "<init>") (hb : (xS X).heap.size = gZ G + mN μ) (h : X10_init a0 μ = some μ') (hret : RtV G 2 X cX10_init 133 6320 μ') : AW G 2 X 0 0 0 [(0, .ref (gZ G + a0))] [] μ := by
  unfold X10_init at h
  refine aw_aload_n C 0 dX10_init_0 rfl rfl ?_
  refine aw_oinit C mo_X10_3 ob_im ob_co (by decide) (by decide) (Nat.le_of_ble_eq_true rfl) dX10_init_1 ?_
  refine aw_aload_n C 0 dX10_init_4 rfl rfl ?_
  obtain ⟨μ1, hμ1, h⟩ := bindE h
  refine aw_new C 1 8 tyX9 rfl ingX9 tyX9_ok rfl dfX9 cl_X10_9 it_X9 ii_X9 hb hμ1 (by decide) (by decide) rfl rfl dX10_init_5 ?_
  refine aw_dup C dX10_init_8 rfl ?_
  obtain ⟨g2, hg2, h⟩ := bindE h
  obtain ⟨μ3, hμ3, h⟩ := bindE h
  refine aw_cI_V C 29 353 [] _ (mt_X9_init hμ3) cs_X9_init ml_X10_11 im_X9_init rfl ⟨by decide, by decide⟩ hb hg2 (by decide) (by decide) rfl rfl rfl rfl (Nat.le_of_ble_eq_true rfl) dX10_init_9 ?_
  obtain ⟨μ4, hμ4, h⟩ := bindE h
  refine aw_pRF C fl_X10_12 hi rfl rfl rfl rfl hμ4 dX10_init_12 ?_
  refine aw_aload_n C 0 dX10_init_15 rfl rfl ?_
  obtain ⟨μ5, hμ5, h⟩ := bindE h
  refine aw_new C 30 355 tyX8 rfl ingX8 tyX8_ok rfl dfX8 cl_X10_16 it_X8 ii_X8 hb hμ5 (by decide) (by decide) rfl rfl dX10_init_16 ?_
  refine aw_dup C dX10_init_19 rfl ?_
  obtain ⟨g6, hg6, h⟩ := bindE h
  obtain ⟨μ7, hμ7, h⟩ := bindE h
  refine aw_cI_V C 36 379 [] _ (mt_X8_init hμ7) cs_X8_init ml_X10_18 im_X8_init rfl ⟨by decide, by decide⟩ hb hg6 (by decide) (by decide) rfl rfl rfl rfl (Nat.le_of_ble_eq_true rfl) dX10_init_20 ?_
  obtain ⟨μ8, hμ8, h⟩ := bindE h
  refine aw_pRF C fl_X10_19 hi rfl rfl rfl rfl hμ8 dX10_init_23 ?_
  refine aw_aload_n C 0 dX10_init_26 rfl rfl ?_
  obtain ⟨μ9, hμ9, h⟩ := bindE h
  refine aw_new C 37 383 tyX0 rfl ingX0 tyX0_ok rfl dfX0 cl_X10_23 it_X0 ii_X0 hb hμ9 (by decide) (by decide) rfl rfl dX10_init_27 ?_
  refine aw_dup C dX10_init_30 rfl ?_
  obtain ⟨g10, hg10, h⟩ := bindE h
  obtain ⟨μ11, hμ11, h⟩ := bindE h
  refine aw_cI_V C 89 723 [] _ (mt_X0_init hμ11) cs_X0_init ml_X10_25 im_X0_init rfl ⟨by decide, by decide⟩ hb hg10 (by decide) (by decide) rfl rfl rfl rfl (Nat.le_of_ble_eq_true rfl) dX10_init_31 ?_
  obtain ⟨μ12, hμ12, h⟩ := bindE h
  refine aw_pRF C fl_X10_26 hi rfl rfl rfl rfl hμ12 dX10_init_34 ?_
  refine aw_aload_n C 0 dX10_init_37 rfl rfl ?_
  obtain ⟨μ13, hμ13, h⟩ := bindE h
  refine aw_new C 90 728 tyX2 rfl ingX2 tyX2_ok rfl dfX2 cl_X10_30 it_X2 ii_X2 hb hμ13 (by decide) (by decide) rfl rfl dX10_init_38 ?_
  refine aw_dup C dX10_init_41 rfl ?_
  obtain ⟨g14, hg14, h⟩ := bindE h
  obtain ⟨μ15, hμ15, h⟩ := bindE h
  refine aw_cIN_V C 91 888 [] _ (mt_X2_init hμ15) cs_X2_init ml_X10_32 im_X2_init rfl ⟨by decide, by decide⟩ hb hg14 (by decide) (by decide) rfl rfl rfl rfl (Nat.le_of_ble_eq_true rfl) dX10_init_42 ?_
  obtain ⟨μ16, hμ16, h⟩ := bindE h
  refine aw_pRF C fl_X10_33 hi rfl rfl rfl rfl hμ16 dX10_init_45 ?_
  refine aw_aload_n C 0 dX10_init_48 rfl rfl ?_
  refine aw_iconst C 4 dX10_init_49 (by decide) ?_
  obtain ⟨μ17, hμ17, h⟩ := bindE h
  refine aw_anew C (kd := 4) (N' := 4) 92 892 (by decide) rfl (fun q => q.2.2.1.1) cl_X10_37 hb hμ17 (by decide) (by decide) (by decide) (by decide) rfl rfl dX10_init_50 ?_
  obtain ⟨μ18, hμ18, h⟩ := bindE h
  refine aw_pRF C fl_X10_39 hi rfl rfl rfl rfl hμ18 dX10_init_53 ?_
  refine aw_aload_n C 0 dX10_init_56 rfl rfl ?_
  obtain ⟨μ19, hμ19, h⟩ := bindE h
  refine aw_new C 93 895 tyX1 rfl ingX1 tyX1_ok rfl dfX1 cl_X10_43 it_X1 ii_X1 hb hμ19 (by decide) (by decide) rfl rfl dX10_init_57 ?_
  refine aw_dup C dX10_init_60 rfl ?_
  obtain ⟨g20, hg20, h⟩ := bindE h
  obtain ⟨μ21, hμ21, h⟩ := bindE h
  refine aw_cIN_V C 93 895 [] _ (mt_X1_init hμ21) cs_X1_init ml_X10_45 im_X1_init rfl ⟨by decide, by decide⟩ hb hg20 (by decide) (by decide) rfl rfl rfl rfl (Nat.le_of_ble_eq_true rfl) dX10_init_61 ?_
  obtain ⟨μ22, hμ22, h⟩ := bindE h
  refine aw_pRF C fl_X10_46 hi rfl rfl rfl rfl hμ22 dX10_init_64 ?_
  refine aw_aload_n C 0 dX10_init_67 rfl rfl ?_
  obtain ⟨μ23, hμ23, h⟩ := bindE h
  refine aw_new C 94 914 tyX4 rfl ingX4 tyX4_ok rfl dfX4 cl_X10_50 it_X4 ii_X4 hb hμ23 (by decide) (by decide) rfl rfl dX10_init_68 ?_
  refine aw_dup C dX10_init_71 rfl ?_
  refine aw_aload_n C 0 dX10_init_72 rfl rfl ?_
  obtain ⟨v24, hv24, h⟩ := bindE h
  refine aw_gR C fl_X10_12 rfl hv24 dX10_init_73 ?_
  refine aw_aload_n C 0 dX10_init_76 rfl rfl ?_
  obtain ⟨v25, hv25, h⟩ := bindE h
  refine aw_gR C fl_X10_19 rfl hv25 dX10_init_77 ?_
  refine aw_aload_n C 0 dX10_init_80 rfl rfl ?_
  obtain ⟨v26, hv26, h⟩ := bindE h
  refine aw_gR C fl_X10_26 rfl hv26 dX10_init_81 ?_
  obtain ⟨g27, hg27, h⟩ := bindE h
  obtain ⟨μ28, hμ28, h⟩ := bindE h
  refine aw_cI_V C 106 6061 [.ref (gZ G + v24), .ref (gZ G + v25), .ref (gZ G + v26)] _ (mt_X4_init hμ28) cs_X4_init ml_X10_52 im_X4_init rfl ⟨by decide, by decide⟩ hb hg27 (by decide) (by decide) rfl rfl rfl rfl (Nat.le_of_ble_eq_true rfl) dX10_init_84 ?_
  obtain ⟨μ29, hμ29, h⟩ := bindE h
  refine aw_pRF C fl_X10_55 hi rfl rfl rfl rfl hμ29 dX10_init_87 ?_
  refine aw_aload_n C 0 dX10_init_90 rfl rfl ?_
  obtain ⟨μ30, hμ30, h⟩ := bindE h
  refine aw_new C 107 6069 tyX7 rfl ingX7 tyX7_ok rfl dfX7 cl_X10_59 it_X7 ii_X7 hb hμ30 (by decide) (by decide) rfl rfl dX10_init_91 ?_
  refine aw_dup C dX10_init_94 rfl ?_
  refine aw_aload_n C 0 dX10_init_95 rfl rfl ?_
  obtain ⟨v31, hv31, h⟩ := bindE h
  refine aw_gR C fl_X10_12 rfl hv31 dX10_init_96 ?_
  refine aw_aload_n C 0 dX10_init_99 rfl rfl ?_
  obtain ⟨v32, hv32, h⟩ := bindE h
  refine aw_gR C fl_X10_19 rfl hv32 dX10_init_100 ?_
  refine aw_aload_n C 0 dX10_init_103 rfl rfl ?_
  obtain ⟨v33, hv33, h⟩ := bindE h
  refine aw_gR C fl_X10_26 rfl hv33 dX10_init_104 ?_
  obtain ⟨g34, hg34, h⟩ := bindE h
  obtain ⟨μ35, hμ35, h⟩ := bindE h
  refine aw_cI_V C 107 6069 [.ref (gZ G + v31), .ref (gZ G + v32), .ref (gZ G + v33)] _ (mt_X7_init hμ35) cs_X7_init ml_X10_61 im_X7_init rfl ⟨by decide, by decide⟩ hb hg34 (by decide) (by decide) rfl rfl rfl rfl (Nat.le_of_ble_eq_true rfl) dX10_init_107 ?_
  obtain ⟨μ36, hμ36, h⟩ := bindE h
  refine aw_pRF C fl_X10_62 hi rfl rfl rfl rfl hμ36 dX10_init_110 ?_
  refine aw_aload_n C 0 dX10_init_113 rfl rfl ?_
  refine aw_bipush C 66 dX10_init_114 (by decide) ?_
  obtain ⟨μ37, hμ37, h⟩ := bindE h
  refine aw_newaI C (N' := 66) 108 6135 ac_int hb hμ37 (by decide) (by decide) (by decide) (by decide) rfl rfl dX10_init_116 ?_
  obtain ⟨μ38, hμ38, h⟩ := bindE h
  refine aw_pRF C fl_X10_66 hi rfl rfl rfl rfl hμ38 dX10_init_118 ?_
  refine aw_aload_n C 0 dX10_init_121 rfl rfl ?_
  obtain ⟨μ39, hμ39, h⟩ := bindE h
  refine aw_new C 109 6140 tyX3 rfl ingX3 tyX3_ok rfl dfX3 cl_X10_37 it_X3 ii_X3 hb hμ39 (by decide) (by decide) rfl rfl dX10_init_122 ?_
  refine aw_dup C dX10_init_125 rfl ?_
  obtain ⟨g40, hg40, h⟩ := bindE h
  obtain ⟨μ41, hμ41, h⟩ := bindE h
  refine aw_cIN_V C 113 6172 [] _ (mt_X3_init hμ41) cs_X3_init ml_X10_70 im_X3_init rfl ⟨by decide, by decide⟩ hb hg40 (by decide) (by decide) rfl rfl rfl rfl (Nat.le_of_ble_eq_true rfl) dX10_init_126 ?_
  obtain ⟨μ42, hμ42, h⟩ := bindE h
  refine aw_pR C fl_X10_71 rfl rfl rfl hμ42 dX10_init_129 ?_
  refine aw_iconst C 0 dX10_init_132 (by decide) ?_
  refine aw_istore_n C [(1, .int 0), (0, .ref (gZ G + a0))] dX10_init_133 rfl (by decide) rfl ?_
  refine aw_iload_n C 0 dX10_init_134 rfl rfl ?_
  refine aw_iconst C 4 dX10_init_135 (by decide) ?_
  refine aw_icmp_ge C 158 dX10_init_136 (by decide) (fun q => absurd q (by decide)) (fun _ => ?_)
  refine aw_aload_n C 1 dX10_init_139 rfl rfl ?_
  obtain ⟨v43, hv43, h⟩ := bindE h
  refine aw_gR C fl_X10_39 rfl hv43 dX10_init_140 ?_
  refine aw_iload_n C 0 dX10_init_143 rfl rfl ?_
  obtain ⟨μ44, hμ44, h⟩ := bindE h
  refine aw_new C 114 6177 tyX3 rfl ingX3 tyX3_ok rfl dfX3 cl_X10_37 it_X3 ii_X3 hb hμ44 (by decide) (by decide) rfl rfl dX10_init_144 ?_
  refine aw_dup C dX10_init_147 rfl ?_
  obtain ⟨g45, hg45, h⟩ := bindE h
  obtain ⟨μ46, hμ46, h⟩ := bindE h
  refine aw_cIN_V C 118 6209 [] _ (mt_X3_init hμ46) cs_X3_init ml_X10_70 im_X3_init rfl ⟨by decide, by decide⟩ hb hg45 (by decide) (by decide) rfl rfl rfl rfl (Nat.le_of_ble_eq_true rfl) dX10_init_148 ?_
  obtain ⟨μ47, hμ47, h⟩ := bindE h
  refine aw_sR C (by decide) (ci := 3) rfl rfl hμ47 dX10_init_151 ?_
  refine aw_iinc C (1) 0 [(1, .int 1), (0, .ref (gZ G + a0))] dX10_init_152 rfl (by decide) (by decide) rfl ?_
  refine aw_goto C 134 dX10_init_155 (by decide) ?_
  refine aw_iload_n C 0 dX10_init_134 rfl rfl ?_
  refine aw_iconst C 4 dX10_init_135 (by decide) ?_
  refine aw_icmp_ge C 158 dX10_init_136 (by decide) (fun q => absurd q (by decide)) (fun _ => ?_)
  refine aw_aload_n C 1 dX10_init_139 rfl rfl ?_
  obtain ⟨v48, hv48, h⟩ := bindE h
  refine aw_gR C fl_X10_39 rfl hv48 dX10_init_140 ?_
  refine aw_iload_n C 0 dX10_init_143 rfl rfl ?_
  obtain ⟨μ49, hμ49, h⟩ := bindE h
  refine aw_new C 119 6214 tyX3 rfl ingX3 tyX3_ok rfl dfX3 cl_X10_37 it_X3 ii_X3 hb hμ49 (by decide) (by decide) rfl rfl dX10_init_144 ?_
  refine aw_dup C dX10_init_147 rfl ?_
  obtain ⟨g50, hg50, h⟩ := bindE h
  obtain ⟨μ51, hμ51, h⟩ := bindE h
  refine aw_cIN_V C 123 6246 [] _ (mt_X3_init hμ51) cs_X3_init ml_X10_70 im_X3_init rfl ⟨by decide, by decide⟩ hb hg50 (by decide) (by decide) rfl rfl rfl rfl (Nat.le_of_ble_eq_true rfl) dX10_init_148 ?_
  obtain ⟨μ52, hμ52, h⟩ := bindE h
  refine aw_sR C (by decide) (ci := 3) rfl rfl hμ52 dX10_init_151 ?_
  refine aw_iinc C (2) 0 [(1, .int 2), (0, .ref (gZ G + a0))] dX10_init_152 rfl (by decide) (by decide) rfl ?_
  refine aw_goto C 134 dX10_init_155 (by decide) ?_
  refine aw_iload_n C 0 dX10_init_134 rfl rfl ?_
  refine aw_iconst C 4 dX10_init_135 (by decide) ?_
  refine aw_icmp_ge C 158 dX10_init_136 (by decide) (fun q => absurd q (by decide)) (fun _ => ?_)
  refine aw_aload_n C 1 dX10_init_139 rfl rfl ?_
  obtain ⟨v53, hv53, h⟩ := bindE h
  refine aw_gR C fl_X10_39 rfl hv53 dX10_init_140 ?_
  refine aw_iload_n C 0 dX10_init_143 rfl rfl ?_
  obtain ⟨μ54, hμ54, h⟩ := bindE h
  refine aw_new C 124 6251 tyX3 rfl ingX3 tyX3_ok rfl dfX3 cl_X10_37 it_X3 ii_X3 hb hμ54 (by decide) (by decide) rfl rfl dX10_init_144 ?_
  refine aw_dup C dX10_init_147 rfl ?_
  obtain ⟨g55, hg55, h⟩ := bindE h
  obtain ⟨μ56, hμ56, h⟩ := bindE h
  refine aw_cIN_V C 128 6283 [] _ (mt_X3_init hμ56) cs_X3_init ml_X10_70 im_X3_init rfl ⟨by decide, by decide⟩ hb hg55 (by decide) (by decide) rfl rfl rfl rfl (Nat.le_of_ble_eq_true rfl) dX10_init_148 ?_
  obtain ⟨μ57, hμ57, h⟩ := bindE h
  refine aw_sR C (by decide) (ci := 3) rfl rfl hμ57 dX10_init_151 ?_
  refine aw_iinc C (3) 0 [(1, .int 3), (0, .ref (gZ G + a0))] dX10_init_152 rfl (by decide) (by decide) rfl ?_
  refine aw_goto C 134 dX10_init_155 (by decide) ?_
  refine aw_iload_n C 0 dX10_init_134 rfl rfl ?_
  refine aw_iconst C 4 dX10_init_135 (by decide) ?_
  refine aw_icmp_ge C 158 dX10_init_136 (by decide) (fun q => absurd q (by decide)) (fun _ => ?_)
  refine aw_aload_n C 1 dX10_init_139 rfl rfl ?_
  obtain ⟨v58, hv58, h⟩ := bindE h
  refine aw_gR C fl_X10_39 rfl hv58 dX10_init_140 ?_
  refine aw_iload_n C 0 dX10_init_143 rfl rfl ?_
  obtain ⟨μ59, hμ59, h⟩ := bindE h
  refine aw_new C 129 6288 tyX3 rfl ingX3 tyX3_ok rfl dfX3 cl_X10_37 it_X3 ii_X3 hb hμ59 (by decide) (by decide) rfl rfl dX10_init_144 ?_
  refine aw_dup C dX10_init_147 rfl ?_
  obtain ⟨g60, hg60, h⟩ := bindE h
  obtain ⟨μ61, hμ61, h⟩ := bindE h
  refine aw_cIN_V C 133 6320 [] _ (mt_X3_init hμ61) cs_X3_init ml_X10_70 im_X3_init rfl ⟨by decide, by decide⟩ hb hg60 (by decide) (by decide) rfl rfl rfl rfl (Nat.le_of_ble_eq_true rfl) dX10_init_148 ?_
  obtain ⟨μ62, hμ62, h⟩ := bindE h
  refine aw_sR C (by decide) (ci := 3) rfl rfl hμ62 dX10_init_151 ?_
  refine aw_iinc C (4) 0 [(1, .int 4), (0, .ref (gZ G + a0))] dX10_init_152 rfl (by decide) (by decide) rfl ?_
  refine aw_goto C 134 dX10_init_155 (by decide) ?_
  refine aw_iload_n C 0 dX10_init_134 rfl rfl ?_
  refine aw_iconst C 4 dX10_init_135 (by decide) ?_
  refine aw_icmp_ge C 158 dX10_init_136 (by decide) (fun _ => ?_) (fun q => absurd (by decide) q)
  have e9 := inj1 h
  subst e9
  exact hret _ _ dX10_init_158
set_option maxRecDepth 100000 in
set_option maxHeartbeats 4000000 in
theorem mt_X10_init {G : GL} {l : Launch} {a0 : Nat} {μ : Mem} {μ' : Mem} (h : X10_init a0 μ = some μ') : MtV G l yX10_init cX10_init 2 none rm_X10_init true [.ref (gZ G + a0)] μ μ' := met_V (by decide) rfl (Nat.le_of_ble_eq_true rfl) (fun X _ C hi hb hret => wk_X10_init C hi (hb rfl) h hret)
set_option maxRecDepth 100000 in
set_option maxHeartbeats 4000000 in
theorem wk_X10_isState {G : GL} {X : CX} {x0 : Int32} {μ : Mem} (C : Ctx G X cX10_isState 1 RX10 rm_X10_isState) (hret : RtZ G 1 X cX10_isState 0 0 (X10_isState x0) μ) : AW G 1 X 0 0 0 [(0, .int x0)] [] μ := by
  unfold X10_isState at hret
  refine aw_iload_n C 0 dX10_isState_0 rfl rfl ?_
  refine aw_iconst C 0 dX10_isState_1 (by decide) ?_
  refine aw_iconst C 3 dX10_isState_2 (by decide) ?_
  refine aw_cS_I C [.int x0, .int 0, .int 3] _ (mt_X10_within _ _ _) cs_X10_within ml_X10_90 st_X10_within ⟨by decide, by decide⟩ ⟨rfl, rfl⟩ ⟨Nat.zero_le _, Nat.zero_le _⟩ rfl rfl (Nat.le_of_ble_eq_true rfl) dX10_isState_3 ?_
  exact hret _ _ dX10_isState_6 (z_X10_within _ _ _)
set_option maxRecDepth 100000 in
set_option maxHeartbeats 4000000 in
theorem mt_X10_isState {G : GL} {l : Launch} (x0 : Int32) {μ : Mem} : MtI G l yX10_isState cX10_isState 1 (some .boolean) rm_X10_isState false [.int x0] μ (X10_isState x0) μ := met_Z (by decide) rfl (Nat.le_of_ble_eq_true rfl) (fun X _ C _ _ hret => wk_X10_isState C hret)
theorem z_X10_isState (x0 : Int32) : X10_isState x0 = 0 ∨ X10_isState x0 = 1 := by
  unfold X10_isState
  exact z_X10_within _ _ _
set_option maxRecDepth 100000 in
set_option maxHeartbeats 4000000 in
theorem wk_X10_isOften {G : GL} {X : CX} {x0 : Int32} {μ : Mem} (C : Ctx G X cX10_isOften 1 RX10 rm_X10_isOften) (hret : RtZ G 1 X cX10_isOften 0 0 (X10_isOften x0) μ) : AW G 1 X 0 0 0 [(0, .int x0)] [] μ := by
  unfold X10_isOften at hret
  refine aw_iload_n C 0 dX10_isOften_0 rfl rfl ?_
  refine aw_iconst C 0 dX10_isOften_1 (by decide) ?_
  refine aw_iconst C 4 dX10_isOften_2 (by decide) ?_
  refine aw_cS_I C [.int x0, .int 0, .int 4] _ (mt_X10_within _ _ _) cs_X10_within ml_X10_90 st_X10_within ⟨by decide, by decide⟩ ⟨rfl, rfl⟩ ⟨Nat.zero_le _, Nat.zero_le _⟩ rfl rfl (Nat.le_of_ble_eq_true rfl) dX10_isOften_3 ?_
  exact hret _ _ dX10_isOften_6 (z_X10_within _ _ _)
set_option maxRecDepth 100000 in
set_option maxHeartbeats 4000000 in
theorem mt_X10_isOften {G : GL} {l : Launch} (x0 : Int32) {μ : Mem} : MtI G l yX10_isOften cX10_isOften 1 (some .boolean) rm_X10_isOften false [.int x0] μ (X10_isOften x0) μ := met_Z (by decide) rfl (Nat.le_of_ble_eq_true rfl) (fun X _ C _ _ hret => wk_X10_isOften C hret)
theorem z_X10_isOften (x0 : Int32) : X10_isOften x0 = 0 ∨ X10_isOften x0 = 1 := by
  unfold X10_isOften
  exact z_X10_within _ _ _
set_option maxRecDepth 100000 in
set_option maxHeartbeats 4000000 in
theorem wk_X10_exchange {G : GL} {X : CX} {a0 : Nat} {x1 : Int32} {x2 : Int32} {μ : Mem} {r : Int32} {μ' : Mem} (C : Ctx G X cX10_exchange 4 RX10 rm_X10_exchange) (h : X10_exchange a0 x1 x2 μ = some (r, μ')) (hret : RtI G 4 X cX10_exchange 0 0 r μ') : AW G 4 X 0 0 0 [(0, .ref (gZ G + a0)), (1, .int x1), (2, .int x2)] [] μ := by
  unfold X10_exchange at h
  refine aw_iload_n C 1 dX10_exchange_0 rfl rfl ?_
  refine aw_if_lt C 10 dX10_exchange_1 (by decide) (fun c1 => ?_) (fun c1 => ?_)
  · rw [if_pos c1] at h
    refine aw_sipush C ((-1002)) dX10_exchange_10 (by decide) ?_
    obtain ⟨e8, e9⟩ := inj2 h
    subst e8
    subst e9
    exact hret _ _ dX10_exchange_13
  · rw [if_neg c1] at h
    refine aw_iload_n C 1 dX10_exchange_4 rfl rfl ?_
    refine aw_aload_n C 0 dX10_exchange_5 rfl rfl ?_
    obtain ⟨v2, hv2, h⟩ := bindE h
    refine aw_aL C hv2 dX10_exchange_6 ?_
    refine aw_icmp_lt C 14 dX10_exchange_7 (by decide) (fun c3 => ?_) (fun c3 => ?_)
    · rw [if_pos c3] at h
      refine aw_aload_n C 0 dX10_exchange_14 rfl rfl ?_
      refine aw_iload_n C 1 dX10_exchange_15 rfl rfl ?_
      obtain ⟨v4, hv4, h⟩ := bindE h
      refine aw_aI C hv4 dX10_exchange_16 ?_
      refine aw_istore_n C [(3, .int v4), (0, .ref (gZ G + a0)), (1, .int x1), (2, .int x2)] dX10_exchange_17 rfl (by decide) rfl ?_
      refine aw_aload_n C 1 dX10_exchange_18 rfl rfl ?_
      refine aw_iload_n C 2 dX10_exchange_19 rfl rfl ?_
      refine aw_iload_n C 3 dX10_exchange_20 rfl rfl ?_
      obtain ⟨μ5, hμ5, h⟩ := bindE h
      refine aw_sI C hμ5 dX10_exchange_21 ?_
      refine aw_iload_n C 0 dX10_exchange_22 rfl rfl ?_
      obtain ⟨e8, e9⟩ := inj2 h
      subst e8
      subst e9
      exact hret _ _ dX10_exchange_23
    · rw [if_neg c3] at h
      refine aw_sipush C ((-1002)) dX10_exchange_10 (by decide) ?_
      obtain ⟨e8, e9⟩ := inj2 h
      subst e8
      subst e9
      exact hret _ _ dX10_exchange_13
set_option maxRecDepth 100000 in
set_option maxHeartbeats 4000000 in
theorem mt_X10_exchange {G : GL} {l : Launch} {a0 : Nat} {x1 : Int32} {x2 : Int32} {μ : Mem} {r : Int32} {μ' : Mem} (h : X10_exchange a0 x1 x2 μ = some (r, μ')) : MtI G l yX10_exchange cX10_exchange 4 (some .int) rm_X10_exchange false [.ref (gZ G + a0), .int x1, .int x2] μ r μ' := met_I (by decide) rfl rfl (Nat.le_of_ble_eq_true rfl) (fun X _ C _ _ hret => wk_X10_exchange C h hret)
set_option maxRecDepth 100000 in
set_option maxHeartbeats 4000000 in
theorem wk_X10_move {G : GL} {X : CX} {a0 : Nat} {x1 : Int32} {x2 : Int32} {x3 : Int32} {μ : Mem} {r : Int32} {μ' : Mem} (C : Ctx G X cX10_move 4 RX10 rm_X10_move) (h : X10_move a0 x1 x2 x3 μ = some (r, μ')) (hret : RtI G 4 X cX10_move 0 0 r μ') : AW G 4 X 0 0 0 [(0, .ref (gZ G + a0)), (1, .int x1), (2, .int x2), (3, .int x3)] [] μ := by
  unfold X10_move at h
  refine aw_iload_n C 1 dX10_move_0 rfl rfl ?_
  refine aw_cS_I C [.int x1] _ (mt_X10_isState _) cs_X10_isState ml_X10_75 st_X10_isState ⟨by decide, by decide⟩ ⟨rfl, rfl⟩ ⟨Nat.zero_le _, Nat.zero_le _⟩ rfl rfl (Nat.le_of_ble_eq_true rfl) dX10_move_1 ?_
  refine aw_if_eq C 21 dX10_move_4 (by decide) (fun c1 => ?_) (fun c1 => ?_)
  · rw [if_pos c1] at h
    refine aw_sipush C ((-1002)) dX10_move_21 (by decide) ?_
    obtain ⟨e8, e9⟩ := inj2 h
    subst e8
    subst e9
    exact hret _ _ dX10_move_24
  · rw [if_neg c1] at h
    refine aw_iload_n C 2 dX10_move_7 rfl rfl ?_
    refine aw_cS_I C [.int x2] _ (mt_X10_isState _) cs_X10_isState ml_X10_75 st_X10_isState ⟨by decide, by decide⟩ ⟨rfl, rfl⟩ ⟨Nat.zero_le _, Nat.zero_le _⟩ rfl rfl (Nat.le_of_ble_eq_true rfl) dX10_move_8 ?_
    refine aw_if_eq C 21 dX10_move_11 (by decide) (fun c2 => ?_) (fun c2 => ?_)
    · rw [if_pos c2] at h
      refine aw_sipush C ((-1002)) dX10_move_21 (by decide) ?_
      obtain ⟨e8, e9⟩ := inj2 h
      subst e8
      subst e9
      exact hret _ _ dX10_move_24
    · rw [if_neg c2] at h
      refine aw_iload_n C 3 dX10_move_14 rfl rfl ?_
      refine aw_cS_I C [.int x3] _ (mt_X10_isOften _) cs_X10_isOften ml_X10_79 st_X10_isOften ⟨by decide, by decide⟩ ⟨rfl, rfl⟩ ⟨Nat.zero_le _, Nat.zero_le _⟩ rfl rfl (Nat.le_of_ble_eq_true rfl) dX10_move_15 ?_
      refine aw_if_ne C 25 dX10_move_18 (by decide) (fun c3 => ?_) (fun c3 => ?_)
      · rw [if_neg c3] at h
        refine aw_aload_n C 0 dX10_move_25 rfl rfl ?_
        obtain ⟨v4, hv4, h⟩ := bindE h
        refine aw_gR C fl_X10_12 rfl hv4 dX10_move_26 ?_
        obtain ⟨v5, hv5, h⟩ := bindE h
        refine aw_gR C fl_X10_82 rfl hv5 dX10_move_29 ?_
        refine aw_iload_n C 1 dX10_move_32 rfl rfl ?_
        obtain ⟨v6, hv6, h⟩ := bindE h
        refine aw_aR C (by decide) (ty := .array .int) rfl rfl hv6 dX10_move_33 ?_
        refine aw_iload_n C 2 dX10_move_34 rfl rfl ?_
        refine aw_iload_n C 3 dX10_move_35 rfl rfl ?_
        obtain ⟨z7, hz7, h⟩ := bindE h
        refine aw_cS_I C [.ref (gZ G + v6), .int x2, .int x3] _ (mt_X10_exchange hz7) cs_X10_exchange ml_X10_86 st_X10_exchange ⟨by decide, by decide⟩ ⟨rfl, rfl⟩ ⟨Nat.zero_le _, Nat.zero_le _⟩ rfl rfl (Nat.le_of_ble_eq_true rfl) dX10_move_36 ?_
        obtain ⟨e8, e9⟩ := inj2 h
        subst e8
        subst e9
        exact hret _ _ dX10_move_39
      · rw [if_pos c3] at h
        refine aw_sipush C ((-1002)) dX10_move_21 (by decide) ?_
        obtain ⟨e8, e9⟩ := inj2 h
        subst e8
        subst e9
        exact hret _ _ dX10_move_24
set_option maxRecDepth 100000 in
set_option maxHeartbeats 4000000 in
theorem mt_X10_move {G : GL} {l : Launch} {a0 : Nat} {x1 : Int32} {x2 : Int32} {x3 : Int32} {μ : Mem} {r : Int32} {μ' : Mem} (h : X10_move a0 x1 x2 x3 μ = some (r, μ')) : MtI G l yX10_move cX10_move 4 (some .int) rm_X10_move false [.ref (gZ G + a0), .int x1, .int x2, .int x3] μ r μ' := met_I (by decide) rfl rfl (Nat.le_of_ble_eq_true rfl) (fun X _ C _ _ hret => wk_X10_move C h hret)
set_option maxRecDepth 100000 in
set_option maxHeartbeats 4000000 in
theorem wk_X10_shows {G : GL} {X : CX} {a0 : Nat} {x1 : Int32} {x2 : Int32} {x3 : Int32} {μ : Mem} {r : Int32} {μ' : Mem} (C : Ctx G X cX10_shows 4 RX10 rm_X10_shows) (h : X10_shows a0 x1 x2 x3 μ = some (r, μ')) (hret : RtI G 4 X cX10_shows 0 0 r μ') : AW G 4 X 0 0 0 [(0, .ref (gZ G + a0)), (1, .int x1), (2, .int x2), (3, .int x3)] [] μ := by
  unfold X10_shows at h
  refine aw_iload_n C 1 dX10_shows_0 rfl rfl ?_
  refine aw_cS_I C [.int x1] _ (mt_X10_isState _) cs_X10_isState ml_X10_75 st_X10_isState ⟨by decide, by decide⟩ ⟨rfl, rfl⟩ ⟨Nat.zero_le _, Nat.zero_le _⟩ rfl rfl (Nat.le_of_ble_eq_true rfl) dX10_shows_1 ?_
  refine aw_if_eq C 23 dX10_shows_4 (by decide) (fun c1 => ?_) (fun c1 => ?_)
  · rw [if_pos c1] at h
    refine aw_sipush C ((-1002)) dX10_shows_23 (by decide) ?_
    obtain ⟨e8, e9⟩ := inj2 h
    subst e8
    subst e9
    exact hret _ _ dX10_shows_26
  · rw [if_neg c1] at h
    refine aw_iload_n C 2 dX10_shows_7 rfl rfl ?_
    refine aw_iconst C 0 dX10_shows_8 (by decide) ?_
    refine aw_iconst C 3 dX10_shows_9 (by decide) ?_
    refine aw_cS_I C [.int x2, .int 0, .int 3] _ (mt_X10_within _ _ _) cs_X10_within ml_X10_90 st_X10_within ⟨by decide, by decide⟩ ⟨rfl, rfl⟩ ⟨Nat.zero_le _, Nat.zero_le _⟩ rfl rfl (Nat.le_of_ble_eq_true rfl) dX10_shows_10 ?_
    refine aw_if_eq C 23 dX10_shows_13 (by decide) (fun c2 => ?_) (fun c2 => ?_)
    · rw [if_pos c2] at h
      refine aw_sipush C ((-1002)) dX10_shows_23 (by decide) ?_
      obtain ⟨e8, e9⟩ := inj2 h
      subst e8
      subst e9
      exact hret _ _ dX10_shows_26
    · rw [if_neg c2] at h
      refine aw_iload_n C 3 dX10_shows_16 rfl rfl ?_
      refine aw_cS_I C [.int x3] _ (mt_X10_isOften _) cs_X10_isOften ml_X10_79 st_X10_isOften ⟨by decide, by decide⟩ ⟨rfl, rfl⟩ ⟨Nat.zero_le _, Nat.zero_le _⟩ rfl rfl (Nat.le_of_ble_eq_true rfl) dX10_shows_17 ?_
      refine aw_if_ne C 27 dX10_shows_20 (by decide) (fun c3 => ?_) (fun c3 => ?_)
      · rw [if_neg c3] at h
        refine aw_aload_n C 0 dX10_shows_27 rfl rfl ?_
        obtain ⟨v4, hv4, h⟩ := bindE h
        refine aw_gR C fl_X10_12 rfl hv4 dX10_shows_28 ?_
        obtain ⟨v5, hv5, h⟩ := bindE h
        refine aw_gR C fl_X10_94 rfl hv5 dX10_shows_31 ?_
        refine aw_iload_n C 1 dX10_shows_34 rfl rfl ?_
        obtain ⟨v6, hv6, h⟩ := bindE h
        refine aw_aR C (by decide) (ty := .array .int) rfl rfl hv6 dX10_shows_35 ?_
        refine aw_iload_n C 2 dX10_shows_36 rfl rfl ?_
        refine aw_iload_n C 3 dX10_shows_37 rfl rfl ?_
        obtain ⟨z7, hz7, h⟩ := bindE h
        refine aw_cS_I C [.ref (gZ G + v6), .int x2, .int x3] _ (mt_X10_exchange hz7) cs_X10_exchange ml_X10_86 st_X10_exchange ⟨by decide, by decide⟩ ⟨rfl, rfl⟩ ⟨Nat.zero_le _, Nat.zero_le _⟩ rfl rfl (Nat.le_of_ble_eq_true rfl) dX10_shows_38 ?_
        obtain ⟨e8, e9⟩ := inj2 h
        subst e8
        subst e9
        exact hret _ _ dX10_shows_41
      · rw [if_pos c3] at h
        refine aw_sipush C ((-1002)) dX10_shows_23 (by decide) ?_
        obtain ⟨e8, e9⟩ := inj2 h
        subst e8
        subst e9
        exact hret _ _ dX10_shows_26
set_option maxRecDepth 100000 in
set_option maxHeartbeats 4000000 in
theorem mt_X10_shows {G : GL} {l : Launch} {a0 : Nat} {x1 : Int32} {x2 : Int32} {x3 : Int32} {μ : Mem} {r : Int32} {μ' : Mem} (h : X10_shows a0 x1 x2 x3 μ = some (r, μ')) : MtI G l yX10_shows cX10_shows 4 (some .int) rm_X10_shows false [.ref (gZ G + a0), .int x1, .int x2, .int x3] μ r μ' := met_I (by decide) rfl rfl (Nat.le_of_ble_eq_true rfl) (fun X _ C _ _ hret => wk_X10_shows C h hret)
set_option maxRecDepth 100000 in
set_option maxHeartbeats 4000000 in
theorem wk_X10_begins {G : GL} {X : CX} {a0 : Nat} {x1 : Int32} {x2 : Int32} {μ : Mem} {r : Int32} {μ' : Mem} (C : Ctx G X cX10_begins 3 RX10 rm_X10_begins) (h : X10_begins a0 x1 x2 μ = some (r, μ')) (hret : RtI G 3 X cX10_begins 0 0 r μ') : AW G 3 X 0 0 0 [(0, .ref (gZ G + a0)), (1, .int x1), (2, .int x2)] [] μ := by
  unfold X10_begins at h
  refine aw_iload_n C 1 dX10_begins_0 rfl rfl ?_
  refine aw_cS_I C [.int x1] _ (mt_X10_isState _) cs_X10_isState ml_X10_75 st_X10_isState ⟨by decide, by decide⟩ ⟨rfl, rfl⟩ ⟨Nat.zero_le _, Nat.zero_le _⟩ rfl rfl (Nat.le_of_ble_eq_true rfl) dX10_begins_1 ?_
  refine aw_if_eq C 14 dX10_begins_4 (by decide) (fun c1 => ?_) (fun c1 => ?_)
  · rw [if_pos c1] at h
    refine aw_sipush C ((-1002)) dX10_begins_14 (by decide) ?_
    obtain ⟨e8, e9⟩ := inj2 h
    subst e8
    subst e9
    exact hret _ _ dX10_begins_17
  · rw [if_neg c1] at h
    refine aw_iload_n C 2 dX10_begins_7 rfl rfl ?_
    refine aw_cS_I C [.int x2] _ (mt_X10_isOften _) cs_X10_isOften ml_X10_79 st_X10_isOften ⟨by decide, by decide⟩ ⟨rfl, rfl⟩ ⟨Nat.zero_le _, Nat.zero_le _⟩ rfl rfl (Nat.le_of_ble_eq_true rfl) dX10_begins_8 ?_
    refine aw_if_ne C 18 dX10_begins_11 (by decide) (fun c2 => ?_) (fun c2 => ?_)
    · rw [if_neg c2] at h
      refine aw_aload_n C 0 dX10_begins_18 rfl rfl ?_
      obtain ⟨v3, hv3, h⟩ := bindE h
      refine aw_gR C fl_X10_12 rfl hv3 dX10_begins_19 ?_
      obtain ⟨v4, hv4, h⟩ := bindE h
      refine aw_gR C fl_X10_97 rfl hv4 dX10_begins_22 ?_
      refine aw_iload_n C 1 dX10_begins_25 rfl rfl ?_
      refine aw_iload_n C 2 dX10_begins_26 rfl rfl ?_
      obtain ⟨z5, hz5, h⟩ := bindE h
      refine aw_cS_I C [.ref (gZ G + v4), .int x1, .int x2] _ (mt_X10_exchange hz5) cs_X10_exchange ml_X10_86 st_X10_exchange ⟨by decide, by decide⟩ ⟨rfl, rfl⟩ ⟨Nat.zero_le _, Nat.zero_le _⟩ rfl rfl (Nat.le_of_ble_eq_true rfl) dX10_begins_27 ?_
      obtain ⟨e8, e9⟩ := inj2 h
      subst e8
      subst e9
      exact hret _ _ dX10_begins_30
    · rw [if_pos c2] at h
      refine aw_sipush C ((-1002)) dX10_begins_14 (by decide) ?_
      obtain ⟨e8, e9⟩ := inj2 h
      subst e8
      subst e9
      exact hret _ _ dX10_begins_17
set_option maxRecDepth 100000 in
set_option maxHeartbeats 4000000 in
theorem mt_X10_begins {G : GL} {l : Launch} {a0 : Nat} {x1 : Int32} {x2 : Int32} {μ : Mem} {r : Int32} {μ' : Mem} (h : X10_begins a0 x1 x2 μ = some (r, μ')) : MtI G l yX10_begins cX10_begins 3 (some .int) rm_X10_begins false [.ref (gZ G + a0), .int x1, .int x2] μ r μ' := met_I (by decide) rfl rfl (Nat.le_of_ble_eq_true rfl) (fun X _ C _ _ hret => wk_X10_begins C h hret)
set_option maxRecDepth 100000 in
set_option maxHeartbeats 4000000 in
theorem wk_X10_seams {G : GL} {X : CX} {a0 : Nat} {x1 : Int32} {μ : Mem} {r : Int32} {μ' : Mem} (C : Ctx G X cX10_seams 3 RX10 rm_X10_seams) (h : X10_seams a0 x1 μ = some (r, μ')) (hret : RtI G 3 X cX10_seams 0 0 r μ') : AW G 3 X 0 0 0 [(0, .ref (gZ G + a0)), (1, .int x1)] [] μ := by
  unfold X10_seams at h
  refine aw_iload_n C 1 dX10_seams_0 rfl rfl ?_
  refine aw_iconst C 0 dX10_seams_1 (by decide) ?_
  refine aw_bipush C 15 dX10_seams_2 (by decide) ?_
  refine aw_cS_I C [.int x1, .int 0, .int 15] _ (mt_X10_within _ _ _) cs_X10_within ml_X10_90 st_X10_within ⟨by decide, by decide⟩ ⟨rfl, rfl⟩ ⟨Nat.zero_le _, Nat.zero_le _⟩ rfl rfl (Nat.le_of_ble_eq_true rfl) dX10_seams_4 ?_
  refine aw_if_ne C 14 dX10_seams_7 (by decide) (fun c1 => ?_) (fun c1 => ?_)
  · rw [if_neg c1] at h
    refine aw_aload_n C 0 dX10_seams_14 rfl rfl ?_
    obtain ⟨v2, hv2, h⟩ := bindE h
    refine aw_gR C fl_X10_12 rfl hv2 dX10_seams_15 ?_
    obtain ⟨v3, hv3, h⟩ := bindE h
    refine aw_gI C fl_X10_100 rfl hv3 dX10_seams_18 ?_
    refine aw_istore_n C [(2, .int v3), (0, .ref (gZ G + a0)), (1, .int x1)] dX10_seams_21 rfl (by decide) rfl ?_
    refine aw_aload_n C 1 dX10_seams_22 rfl rfl ?_
    obtain ⟨v4, hv4, h⟩ := bindE h
    refine aw_gR C fl_X10_12 rfl hv4 dX10_seams_23 ?_
    refine aw_iload_n C 2 dX10_seams_26 rfl rfl ?_
    obtain ⟨μ5, hμ5, h⟩ := bindE h
    refine aw_pI C fl_X10_100 rfl hμ5 dX10_seams_27 ?_
    refine aw_iload_n C 0 dX10_seams_30 rfl rfl ?_
    obtain ⟨e8, e9⟩ := inj2 h
    subst e8
    subst e9
    exact hret _ _ dX10_seams_31
  · rw [if_pos c1] at h
    refine aw_sipush C ((-1002)) dX10_seams_10 (by decide) ?_
    obtain ⟨e8, e9⟩ := inj2 h
    subst e8
    subst e9
    exact hret _ _ dX10_seams_13
set_option maxRecDepth 100000 in
set_option maxHeartbeats 4000000 in
theorem mt_X10_seams {G : GL} {l : Launch} {a0 : Nat} {x1 : Int32} {μ : Mem} {r : Int32} {μ' : Mem} (h : X10_seams a0 x1 μ = some (r, μ')) : MtI G l yX10_seams cX10_seams 3 (some .int) rm_X10_seams false [.ref (gZ G + a0), .int x1] μ r μ' := met_I (by decide) rfl rfl (Nat.le_of_ble_eq_true rfl) (fun X _ C _ _ hret => wk_X10_seams C h hret)
set_option maxRecDepth 100000 in
set_option maxHeartbeats 4000000 in
theorem wk_X10_isPerson {G : GL} {X : CX} {x0 : Int32} {μ : Mem} (C : Ctx G X cX10_isPerson 1 RX10 rm_X10_isPerson) (hret : RtZ G 1 X cX10_isPerson 0 0 (X10_isPerson x0) μ) : AW G 1 X 0 0 0 [(0, .int x0)] [] μ := by
  unfold X10_isPerson at hret
  refine aw_iload_n C 0 dX10_isPerson_0 rfl rfl ?_
  refine aw_iconst C 0 dX10_isPerson_1 (by decide) ?_
  refine aw_iconst C 3 dX10_isPerson_2 (by decide) ?_
  refine aw_cS_I C [.int x0, .int 0, .int 3] _ (mt_X10_within _ _ _) cs_X10_within ml_X10_90 st_X10_within ⟨by decide, by decide⟩ ⟨rfl, rfl⟩ ⟨Nat.zero_le _, Nat.zero_le _⟩ rfl rfl (Nat.le_of_ble_eq_true rfl) dX10_isPerson_3 ?_
  exact hret _ _ dX10_isPerson_6 (z_X10_within _ _ _)
set_option maxRecDepth 100000 in
set_option maxHeartbeats 4000000 in
theorem mt_X10_isPerson {G : GL} {l : Launch} (x0 : Int32) {μ : Mem} : MtI G l yX10_isPerson cX10_isPerson 1 (some .boolean) rm_X10_isPerson false [.int x0] μ (X10_isPerson x0) μ := met_Z (by decide) rfl (Nat.le_of_ble_eq_true rfl) (fun X _ C _ _ hret => wk_X10_isPerson C hret)
theorem z_X10_isPerson (x0 : Int32) : X10_isPerson x0 = 0 ∨ X10_isPerson x0 = 1 := by
  unfold X10_isPerson
  exact z_X10_within _ _ _
set_option maxRecDepth 100000 in
set_option maxHeartbeats 4000000 in
theorem wk_X10_sign {G : GL} {X : CX} {a0 : Nat} {x1 : Int32} {x2 : Int32} {μ : Mem} {r : Int32} {μ' : Mem} (C : Ctx G X cX10_sign 3 RX10 rm_X10_sign) (h : X10_sign a0 x1 x2 μ = some (r, μ')) (hret : RtI G 3 X cX10_sign 0 0 r μ') : AW G 3 X 0 0 0 [(0, .ref (gZ G + a0)), (1, .int x1), (2, .int x2)] [] μ := by
  unfold X10_sign at h
  refine aw_iload_n C 1 dX10_sign_0 rfl rfl ?_
  refine aw_cS_I C [.int x1] _ (mt_X10_isPerson _) cs_X10_isPerson ml_X10_104 st_X10_isPerson ⟨by decide, by decide⟩ ⟨rfl, rfl⟩ ⟨Nat.zero_le _, Nat.zero_le _⟩ rfl rfl (Nat.le_of_ble_eq_true rfl) dX10_sign_1 ?_
  refine aw_if_ne C 11 dX10_sign_4 (by decide) (fun c1 => ?_) (fun c1 => ?_)
  · rw [if_neg c1] at h
    refine aw_iload_n C 2 dX10_sign_11 rfl rfl ?_
    refine aw_iconst C ((-1)) dX10_sign_12 (by decide) ?_
    refine aw_iconst C 3 dX10_sign_13 (by decide) ?_
    refine aw_cS_I C [.int x2, .int ((-1)), .int 3] _ (mt_X10_within _ _ _) cs_X10_within ml_X10_90 st_X10_within ⟨by decide, by decide⟩ ⟨rfl, rfl⟩ ⟨Nat.zero_le _, Nat.zero_le _⟩ rfl rfl (Nat.le_of_ble_eq_true rfl) dX10_sign_14 ?_
    refine aw_if_ne C 24 dX10_sign_17 (by decide) (fun c2 => ?_) (fun c2 => ?_)
    · rw [if_neg c2] at h
      refine aw_aload_n C 0 dX10_sign_24 rfl rfl ?_
      obtain ⟨v3, hv3, h⟩ := bindE h
      refine aw_gR C fl_X10_12 rfl hv3 dX10_sign_25 ?_
      obtain ⟨v4, hv4, h⟩ := bindE h
      refine aw_gR C fl_X10_107 rfl hv4 dX10_sign_28 ?_
      refine aw_iload_n C 1 dX10_sign_31 rfl rfl ?_
      obtain ⟨v5, hv5, h⟩ := bindE h
      refine aw_aR C (by decide) (ty := .array .int) rfl rfl hv5 dX10_sign_32 ?_
      refine aw_aload_n C 0 dX10_sign_33 rfl rfl ?_
      obtain ⟨v6, hv6, h⟩ := bindE h
      refine aw_gI C fl_X10_110 rfl hv6 dX10_sign_34 ?_
      refine aw_iload_n C 2 dX10_sign_37 rfl rfl ?_
      obtain ⟨z7, hz7, h⟩ := bindE h
      refine aw_cS_I C [.ref (gZ G + v5), .int v6, .int x2] _ (mt_X10_exchange hz7) cs_X10_exchange ml_X10_86 st_X10_exchange ⟨by decide, by decide⟩ ⟨rfl, rfl⟩ ⟨Nat.zero_le _, Nat.zero_le _⟩ rfl rfl (Nat.le_of_ble_eq_true rfl) dX10_sign_38 ?_
      refine aw_pop C dX10_sign_41 rfl ?_
      refine aw_iconst C 1 dX10_sign_42 (by decide) ?_
      obtain ⟨e8, e9⟩ := inj2 h
      subst e8
      subst e9
      exact hret _ _ dX10_sign_43
    · rw [if_pos c2] at h
      refine aw_sipush C ((-1002)) dX10_sign_20 (by decide) ?_
      obtain ⟨e8, e9⟩ := inj2 h
      subst e8
      subst e9
      exact hret _ _ dX10_sign_23
  · rw [if_pos c1] at h
    refine aw_sipush C ((-1001)) dX10_sign_7 (by decide) ?_
    obtain ⟨e8, e9⟩ := inj2 h
    subst e8
    subst e9
    exact hret _ _ dX10_sign_10
set_option maxRecDepth 100000 in
set_option maxHeartbeats 4000000 in
theorem mt_X10_sign {G : GL} {l : Launch} {a0 : Nat} {x1 : Int32} {x2 : Int32} {μ : Mem} {r : Int32} {μ' : Mem} (h : X10_sign a0 x1 x2 μ = some (r, μ')) : MtI G l yX10_sign cX10_sign 3 (some .int) rm_X10_sign false [.ref (gZ G + a0), .int x1, .int x2] μ r μ' := met_I (by decide) rfl rfl (Nat.le_of_ble_eq_true rfl) (fun X _ C _ _ hret => wk_X10_sign C h hret)
set_option maxRecDepth 100000 in
set_option maxHeartbeats 4000000 in
theorem wk_X10_go {G : GL} {X : CX} {a0 : Nat} {x1 : Int32} {μ : Mem} {r : Int32} {μ' : Mem} (C : Ctx G X cX10_go 2 RX10 rm_X10_go) (h : X10_go a0 x1 μ = some (r, μ')) (hret : RtI G 2 X cX10_go 0 0 r μ') : AW G 2 X 0 0 0 [(0, .ref (gZ G + a0)), (1, .int x1)] [] μ := by
  unfold X10_go at h
  refine aw_iload_n C 1 dX10_go_0 rfl rfl ?_
  refine aw_iconst C 0 dX10_go_1 (by decide) ?_
  refine aw_bipush C 20 dX10_go_2 (by decide) ?_
  refine aw_cS_I C [.int x1, .int 0, .int 20] _ (mt_X10_within _ _ _) cs_X10_within ml_X10_90 st_X10_within ⟨by decide, by decide⟩ ⟨rfl, rfl⟩ ⟨Nat.zero_le _, Nat.zero_le _⟩ rfl rfl (Nat.le_of_ble_eq_true rfl) dX10_go_4 ?_
  refine aw_if_ne C 14 dX10_go_7 (by decide) (fun c1 => ?_) (fun c1 => ?_)
  · rw [if_neg c1] at h
    refine aw_aload_n C 0 dX10_go_14 rfl rfl ?_
    obtain ⟨v2, hv2, h⟩ := bindE h
    refine aw_gI C fl_X10_110 rfl hv2 dX10_go_15 ?_
    refine aw_iload_n C 1 dX10_go_18 rfl rfl ?_
    refine aw_iadd C dX10_go_19 ?_
    refine aw_bipush C 60 dX10_go_20 (by decide) ?_
    refine aw_icmp_le C 29 dX10_go_22 (by decide) (fun c3 => ?_) (fun c3 => ?_)
    · rw [if_pos c3] at h
      refine aw_aload_n C 0 dX10_go_29 rfl rfl ?_
      refine aw_dup C dX10_go_30 rfl ?_
      obtain ⟨v4, hv4, h⟩ := bindE h
      refine aw_gI C fl_X10_110 rfl hv4 dX10_go_31 ?_
      refine aw_iload_n C 1 dX10_go_34 rfl rfl ?_
      refine aw_iadd C dX10_go_35 ?_
      obtain ⟨μ5, hμ5, h⟩ := bindE h
      refine aw_pI C fl_X10_110 rfl hμ5 dX10_go_36 ?_
      refine aw_aload_n C 0 dX10_go_39 rfl rfl ?_
      obtain ⟨v6, hv6, h⟩ := bindE h
      refine aw_gI C fl_X10_110 rfl hv6 dX10_go_40 ?_
      obtain ⟨e8, e9⟩ := inj2 h
      subst e8
      subst e9
      exact hret _ _ dX10_go_43
    · rw [if_neg c3] at h
      refine aw_sipush C ((-1003)) dX10_go_25 (by decide) ?_
      obtain ⟨e8, e9⟩ := inj2 h
      subst e8
      subst e9
      exact hret _ _ dX10_go_28
  · rw [if_pos c1] at h
    refine aw_sipush C ((-1002)) dX10_go_10 (by decide) ?_
    obtain ⟨e8, e9⟩ := inj2 h
    subst e8
    subst e9
    exact hret _ _ dX10_go_13
set_option maxRecDepth 100000 in
set_option maxHeartbeats 4000000 in
theorem mt_X10_go {G : GL} {l : Launch} {a0 : Nat} {x1 : Int32} {μ : Mem} {r : Int32} {μ' : Mem} (h : X10_go a0 x1 μ = some (r, μ')) : MtI G l yX10_go cX10_go 2 (some .int) rm_X10_go false [.ref (gZ G + a0), .int x1] μ r μ' := met_I (by decide) rfl rfl (Nat.le_of_ble_eq_true rfl) (fun X _ C _ _ hret => wk_X10_go C h hret)
set_option maxRecDepth 100000 in
set_option maxHeartbeats 4000000 in
theorem wk_X10_fits {G : GL} {X : CX} {a0 : Nat} {x1 : Int32} {x2 : Int32} {μ : Mem} {r : Int32} {μ' : Mem} (C : Ctx G X cX10_fits 3 RX10 rm_X10_fits) (h : X10_fits a0 x1 x2 μ = some (r, μ')) (hret : RtI G 3 X cX10_fits 0 0 r μ') : AW G 3 X 0 0 0 [(0, .ref (gZ G + a0)), (1, .int x1), (2, .int x2)] [] μ := by
  unfold X10_fits at h
  refine aw_iload_n C 1 dX10_fits_0 rfl rfl ?_
  refine aw_cS_I C [.int x1] _ (mt_X10_isPerson _) cs_X10_isPerson ml_X10_104 st_X10_isPerson ⟨by decide, by decide⟩ ⟨rfl, rfl⟩ ⟨Nat.zero_le _, Nat.zero_le _⟩ rfl rfl (Nat.le_of_ble_eq_true rfl) dX10_fits_1 ?_
  refine aw_if_ne C 11 dX10_fits_4 (by decide) (fun c1 => ?_) (fun c1 => ?_)
  · rw [if_neg c1] at h
    refine aw_iload_n C 2 dX10_fits_11 rfl rfl ?_
    refine aw_iconst C 0 dX10_fits_12 (by decide) ?_
    refine aw_aload_n C 0 dX10_fits_13 rfl rfl ?_
    obtain ⟨v2, hv2, h⟩ := bindE h
    refine aw_gI C fl_X10_110 rfl hv2 dX10_fits_14 ?_
    refine aw_cS_I C [.int x2, .int 0, .int v2] _ (mt_X10_within _ _ _) cs_X10_within ml_X10_90 st_X10_within ⟨by decide, by decide⟩ ⟨rfl, rfl⟩ ⟨Nat.zero_le _, Nat.zero_le _⟩ rfl rfl (Nat.le_of_ble_eq_true rfl) dX10_fits_17 ?_
    refine aw_if_ne C 27 dX10_fits_20 (by decide) (fun c3 => ?_) (fun c3 => ?_)
    · rw [if_neg c3] at h
      refine aw_aload_n C 0 dX10_fits_27 rfl rfl ?_
      obtain ⟨v4, hv4, h⟩ := bindE h
      refine aw_gR C fl_X10_12 rfl hv4 dX10_fits_28 ?_
      refine aw_iload_n C 1 dX10_fits_31 rfl rfl ?_
      refine aw_iload_n C 2 dX10_fits_32 rfl rfl ?_
      obtain ⟨g5, hg5, h⟩ := bindE h
      obtain ⟨z6, hz6, h⟩ := bindE h
      refine aw_cV_I C [.int x1, .int x2] _ (mt_X9_fittingRows hz6) cs_X9_fittingRows ml_X10_113 im_X9_fittingRows se_X9_fittingRows (ci := 9) rfl rfl hg5 ⟨by decide, by decide⟩ ⟨rfl, rfl⟩ ⟨Nat.zero_le _, Nat.zero_le _⟩ rfl rfl (Nat.le_of_ble_eq_true rfl) dX10_fits_33 ?_
      obtain ⟨e8, e9⟩ := inj2 h
      subst e8
      subst e9
      exact hret _ _ dX10_fits_36
    · rw [if_pos c3] at h
      refine aw_sipush C ((-1002)) dX10_fits_23 (by decide) ?_
      obtain ⟨e8, e9⟩ := inj2 h
      subst e8
      subst e9
      exact hret _ _ dX10_fits_26
  · rw [if_pos c1] at h
    refine aw_sipush C ((-1001)) dX10_fits_7 (by decide) ?_
    obtain ⟨e8, e9⟩ := inj2 h
    subst e8
    subst e9
    exact hret _ _ dX10_fits_10
set_option maxRecDepth 100000 in
set_option maxHeartbeats 4000000 in
theorem mt_X10_fits {G : GL} {l : Launch} {a0 : Nat} {x1 : Int32} {x2 : Int32} {μ : Mem} {r : Int32} {μ' : Mem} (h : X10_fits a0 x1 x2 μ = some (r, μ')) : MtI G l yX10_fits cX10_fits 3 (some .int) rm_X10_fits false [.ref (gZ G + a0), .int x1, .int x2] μ r μ' := met_I (by decide) rfl rfl (Nat.le_of_ble_eq_true rfl) (fun X _ C _ _ hret => wk_X10_fits C h hret)
set_option maxRecDepth 100000 in
set_option maxHeartbeats 4000000 in
theorem wk_X10_isAhead {G : GL} {X : CX} {x0 : Int32} {μ : Mem} (C : Ctx G X cX10_isAhead 1 RX10 rm_X10_isAhead) (hret : RtZ G 1 X cX10_isAhead 0 0 (X10_isAhead x0) μ) : AW G 1 X 0 0 0 [(0, .int x0)] [] μ := by
  unfold X10_isAhead at hret
  refine aw_iload_n C 0 dX10_isAhead_0 rfl rfl ?_
  refine aw_iconst C 0 dX10_isAhead_1 (by decide) ?_
  refine aw_bipush C 8 dX10_isAhead_2 (by decide) ?_
  refine aw_cS_I C [.int x0, .int 0, .int 8] _ (mt_X10_within _ _ _) cs_X10_within ml_X10_90 st_X10_within ⟨by decide, by decide⟩ ⟨rfl, rfl⟩ ⟨Nat.zero_le _, Nat.zero_le _⟩ rfl rfl (Nat.le_of_ble_eq_true rfl) dX10_isAhead_4 ?_
  exact hret _ _ dX10_isAhead_7 (z_X10_within _ _ _)
set_option maxRecDepth 100000 in
set_option maxHeartbeats 4000000 in
theorem mt_X10_isAhead {G : GL} {l : Launch} (x0 : Int32) {μ : Mem} : MtI G l yX10_isAhead cX10_isAhead 1 (some .boolean) rm_X10_isAhead false [.int x0] μ (X10_isAhead x0) μ := met_Z (by decide) rfl (Nat.le_of_ble_eq_true rfl) (fun X _ C _ _ hret => wk_X10_isAhead C hret)
theorem z_X10_isAhead (x0 : Int32) : X10_isAhead x0 = 0 ∨ X10_isAhead x0 = 1 := by
  unfold X10_isAhead
  exact z_X10_within _ _ _
set_option maxRecDepth 100000 in
set_option maxHeartbeats 4000000 in
theorem wk_X10_odds {G : GL} {X : CX} {a0 : Nat} {x1 : Int32} {x2 : Int32} {x3 : Int32} {μ : Mem} {r : Int32} {μ' : Mem} (C : Ctx G X cX10_odds 4 RX10 rm_X10_odds) (h : X10_odds a0 x1 x2 x3 μ = some (r, μ')) (hret : RtI G 4 X cX10_odds 0 0 r μ') : AW G 4 X 0 0 0 [(0, .ref (gZ G + a0)), (1, .int x1), (2, .int x2), (3, .int x3)] [] μ := by
  unfold X10_odds at h
  refine aw_iload_n C 1 dX10_odds_0 rfl rfl ?_
  refine aw_cS_I C [.int x1] _ (mt_X10_isPerson _) cs_X10_isPerson ml_X10_104 st_X10_isPerson ⟨by decide, by decide⟩ ⟨rfl, rfl⟩ ⟨Nat.zero_le _, Nat.zero_le _⟩ rfl rfl (Nat.le_of_ble_eq_true rfl) dX10_odds_1 ?_
  refine aw_if_ne C 11 dX10_odds_4 (by decide) (fun c1 => ?_) (fun c1 => ?_)
  · rw [if_neg c1] at h
    refine aw_iload_n C 2 dX10_odds_11 rfl rfl ?_
    refine aw_cS_I C [.int x2] _ (mt_X10_isState _) cs_X10_isState ml_X10_75 st_X10_isState ⟨by decide, by decide⟩ ⟨rfl, rfl⟩ ⟨Nat.zero_le _, Nat.zero_le _⟩ rfl rfl (Nat.le_of_ble_eq_true rfl) dX10_odds_12 ?_
    refine aw_if_eq C 25 dX10_odds_15 (by decide) (fun c2 => ?_) (fun c2 => ?_)
    · rw [if_pos c2] at h
      refine aw_sipush C ((-1002)) dX10_odds_25 (by decide) ?_
      obtain ⟨e8, e9⟩ := inj2 h
      subst e8
      subst e9
      exact hret _ _ dX10_odds_28
    · rw [if_neg c2] at h
      refine aw_iload_n C 3 dX10_odds_18 rfl rfl ?_
      refine aw_cS_I C [.int x3] _ (mt_X10_isAhead _) cs_X10_isAhead ml_X10_117 st_X10_isAhead ⟨by decide, by decide⟩ ⟨rfl, rfl⟩ ⟨Nat.zero_le _, Nat.zero_le _⟩ rfl rfl (Nat.le_of_ble_eq_true rfl) dX10_odds_19 ?_
      refine aw_if_ne C 29 dX10_odds_22 (by decide) (fun c3 => ?_) (fun c3 => ?_)
      · rw [if_neg c3] at h
        refine aw_aload_n C 0 dX10_odds_29 rfl rfl ?_
        obtain ⟨v4, hv4, h⟩ := bindE h
        refine aw_gR C fl_X10_12 rfl hv4 dX10_odds_30 ?_
        refine aw_iload_n C 1 dX10_odds_33 rfl rfl ?_
        refine aw_aload_n C 0 dX10_odds_34 rfl rfl ?_
        obtain ⟨v5, hv5, h⟩ := bindE h
        refine aw_gI C fl_X10_110 rfl hv5 dX10_odds_35 ?_
        refine aw_iload_n C 3 dX10_odds_38 rfl rfl ?_
        obtain ⟨g6, hg6, h⟩ := bindE h
        obtain ⟨μ7, hμ7, h⟩ := bindE h
        refine aw_cV_V C [.int x1, .int v5, .int x3] _ (mt_X9_lookAhead hμ7) cs_X9_lookAhead ml_X10_120 im_X9_lookAhead se_X9_lookAhead (ci := 9) rfl rfl hg6 ⟨by decide, by decide⟩ ⟨rfl, rfl⟩ ⟨Nat.zero_le _, Nat.zero_le _⟩ rfl rfl (Nat.le_of_ble_eq_true rfl) dX10_odds_39 ?_
        refine aw_aload_n C 0 dX10_odds_42 rfl rfl ?_
        obtain ⟨v8, hv8, h⟩ := bindE h
        refine aw_gR C fl_X10_12 rfl hv8 dX10_odds_43 ?_
        obtain ⟨v9, hv9, h⟩ := bindE h
        refine aw_gR C fl_X10_124 rfl hv9 dX10_odds_46 ?_
        refine aw_iload_n C 3 dX10_odds_49 rfl rfl ?_
        obtain ⟨v10, hv10, h⟩ := bindE h
        refine aw_aR C (by decide) (ty := .array .int) rfl rfl hv10 dX10_odds_50 ?_
        refine aw_iload_n C 2 dX10_odds_51 rfl rfl ?_
        obtain ⟨v11, hv11, h⟩ := bindE h
        refine aw_aI C hv11 dX10_odds_52 ?_
        obtain ⟨e8, e9⟩ := inj2 h
        subst e8
        subst e9
        exact hret _ _ dX10_odds_53
      · rw [if_pos c3] at h
        refine aw_sipush C ((-1002)) dX10_odds_25 (by decide) ?_
        obtain ⟨e8, e9⟩ := inj2 h
        subst e8
        subst e9
        exact hret _ _ dX10_odds_28
  · rw [if_pos c1] at h
    refine aw_sipush C ((-1001)) dX10_odds_7 (by decide) ?_
    obtain ⟨e8, e9⟩ := inj2 h
    subst e8
    subst e9
    exact hret _ _ dX10_odds_10
set_option maxRecDepth 100000 in
set_option maxHeartbeats 4000000 in
theorem mt_X10_odds {G : GL} {l : Launch} {a0 : Nat} {x1 : Int32} {x2 : Int32} {x3 : Int32} {μ : Mem} {r : Int32} {μ' : Mem} (h : X10_odds a0 x1 x2 x3 μ = some (r, μ')) : MtI G l yX10_odds cX10_odds 4 (some .int) rm_X10_odds false [.ref (gZ G + a0), .int x1, .int x2, .int x3] μ r μ' := met_I (by decide) rfl rfl (Nat.le_of_ble_eq_true rfl) (fun X _ C _ _ hret => wk_X10_odds C h hret)
set_option maxRecDepth 100000 in
set_option maxHeartbeats 4000000 in
theorem wk_X10_seam {G : GL} {X : CX} {a0 : Nat} {x1 : Int32} {x2 : Int32} {μ : Mem} {r : Int32} {μ' : Mem} (C : Ctx G X cX10_seam 3 RX10 rm_X10_seam) (h : X10_seam a0 x1 x2 μ = some (r, μ')) (hret : RtI G 3 X cX10_seam 0 0 r μ') : AW G 3 X 0 0 0 [(0, .ref (gZ G + a0)), (1, .int x1), (2, .int x2)] [] μ := by
  unfold X10_seam at h
  refine aw_iload_n C 1 dX10_seam_0 rfl rfl ?_
  refine aw_cS_I C [.int x1] _ (mt_X10_isPerson _) cs_X10_isPerson ml_X10_104 st_X10_isPerson ⟨by decide, by decide⟩ ⟨rfl, rfl⟩ ⟨Nat.zero_le _, Nat.zero_le _⟩ rfl rfl (Nat.le_of_ble_eq_true rfl) dX10_seam_1 ?_
  refine aw_if_ne C 11 dX10_seam_4 (by decide) (fun c1 => ?_) (fun c1 => ?_)
  · rw [if_neg c1] at h
    refine aw_iload_n C 2 dX10_seam_11 rfl rfl ?_
    refine aw_cS_I C [.int x2] _ (mt_X10_isAhead _) cs_X10_isAhead ml_X10_117 st_X10_isAhead ⟨by decide, by decide⟩ ⟨rfl, rfl⟩ ⟨Nat.zero_le _, Nat.zero_le _⟩ rfl rfl (Nat.le_of_ble_eq_true rfl) dX10_seam_12 ?_
    refine aw_if_ne C 22 dX10_seam_15 (by decide) (fun c2 => ?_) (fun c2 => ?_)
    · rw [if_neg c2] at h
      refine aw_aload_n C 0 dX10_seam_22 rfl rfl ?_
      obtain ⟨v3, hv3, h⟩ := bindE h
      refine aw_gR C fl_X10_12 rfl hv3 dX10_seam_23 ?_
      refine aw_iload_n C 1 dX10_seam_26 rfl rfl ?_
      refine aw_aload_n C 0 dX10_seam_27 rfl rfl ?_
      obtain ⟨v4, hv4, h⟩ := bindE h
      refine aw_gI C fl_X10_110 rfl hv4 dX10_seam_28 ?_
      refine aw_iload_n C 2 dX10_seam_31 rfl rfl ?_
      obtain ⟨g5, hg5, h⟩ := bindE h
      obtain ⟨μ6, hμ6, h⟩ := bindE h
      refine aw_cV_V C [.int x1, .int v4, .int x2] _ (mt_X9_lookAhead hμ6) cs_X9_lookAhead ml_X10_120 im_X9_lookAhead se_X9_lookAhead (ci := 9) rfl rfl hg5 ⟨by decide, by decide⟩ ⟨rfl, rfl⟩ ⟨Nat.zero_le _, Nat.zero_le _⟩ rfl rfl (Nat.le_of_ble_eq_true rfl) dX10_seam_32 ?_
      refine aw_aload_n C 0 dX10_seam_35 rfl rfl ?_
      obtain ⟨v7, hv7, h⟩ := bindE h
      refine aw_gR C fl_X10_12 rfl hv7 dX10_seam_36 ?_
      refine aw_iload_n C 2 dX10_seam_39 rfl rfl ?_
      obtain ⟨g8, hg8, h⟩ := bindE h
      obtain ⟨v9, hv9, h⟩ := bindE h
      refine aw_cV_I C [.int x2] _ (mt_X9_seamOdds hv9) cs_X9_seamOdds ml_X10_127 im_X9_seamOdds se_X9_seamOdds (ci := 9) rfl rfl hg8 ⟨by decide, by decide⟩ ⟨rfl, rfl⟩ ⟨Nat.zero_le _, Nat.zero_le _⟩ rfl rfl (Nat.le_of_ble_eq_true rfl) dX10_seam_40 ?_
      obtain ⟨e8, e9⟩ := inj2 h
      subst e8
      subst e9
      exact hret _ _ dX10_seam_43
    · rw [if_pos c2] at h
      refine aw_sipush C ((-1002)) dX10_seam_18 (by decide) ?_
      obtain ⟨e8, e9⟩ := inj2 h
      subst e8
      subst e9
      exact hret _ _ dX10_seam_21
  · rw [if_pos c1] at h
    refine aw_sipush C ((-1001)) dX10_seam_7 (by decide) ?_
    obtain ⟨e8, e9⟩ := inj2 h
    subst e8
    subst e9
    exact hret _ _ dX10_seam_10
set_option maxRecDepth 100000 in
set_option maxHeartbeats 4000000 in
theorem mt_X10_seam {G : GL} {l : Launch} {a0 : Nat} {x1 : Int32} {x2 : Int32} {μ : Mem} {r : Int32} {μ' : Mem} (h : X10_seam a0 x1 x2 μ = some (r, μ')) : MtI G l yX10_seam cX10_seam 3 (some .int) rm_X10_seam false [.ref (gZ G + a0), .int x1, .int x2] μ r μ' := met_I (by decide) rfl rfl (Nat.le_of_ble_eq_true rfl) (fun X _ C _ _ hret => wk_X10_seam C h hret)
set_option maxRecDepth 100000 in
set_option maxHeartbeats 4000000 in
theorem X10_until_L41_ok {G : GL} {X : CX} (C : Ctx G X cX10_until 4 RX10 rm_X10_until) {r : Int32} {μ' : Mem} {μ : Mem} (hret : RtI G 4 X cX10_until 0 0 r μ') (a0 : Nat) (x2 : Int32) : ∀ (n : Nat) (x3 : Int32), X10_until_L41 a0 x2 μ n x3 = some (r, μ') → AW G 4 X 0 0 41 [(0, .ref (gZ G + a0)), (2, .int x2), (3, .int x3)] [] μ := by
  intro n
  induction n with
  | zero =>
    intro x3 h
    rw [X10_until_L41] at h
    cases h
  | succ n ih =>
    intro x3 h
    rw [X10_until_L41] at h
    refine aw_iload_n C 2 dX10_until_41 rfl rfl ?_
    refine aw_bipush C 8 dX10_until_42 (by decide) ?_
    refine aw_icmp_gt C 67 dX10_until_44 (by decide) (fun c1 => ?_) (fun c1 => ?_)
    · rw [if_pos c1] at h
      refine aw_iconst C ((-1)) dX10_until_67 (by decide) ?_
      obtain ⟨e8, e9⟩ := inj2 h
      subst e8
      subst e9
      exact hret _ _ dX10_until_68
    · rw [if_neg c1] at h
      refine aw_aload_n C 0 dX10_until_47 rfl rfl ?_
      obtain ⟨v2, hv2, h⟩ := bindE h
      refine aw_gR C fl_X10_12 rfl hv2 dX10_until_48 ?_
      refine aw_iload_n C 2 dX10_until_51 rfl rfl ?_
      obtain ⟨g3, hg3, h⟩ := bindE h
      obtain ⟨v4, hv4, h⟩ := bindE h
      refine aw_cV_I C [.int x3] _ (mt_X9_seamOdds hv4) cs_X9_seamOdds ml_X10_127 im_X9_seamOdds se_X9_seamOdds (ci := 9) rfl rfl hg3 ⟨by decide, by decide⟩ ⟨rfl, rfl⟩ ⟨Nat.zero_le _, Nat.zero_le _⟩ rfl rfl (Nat.le_of_ble_eq_true rfl) dX10_until_52 ?_
      refine aw_iload_n C 1 dX10_until_55 rfl rfl ?_
      refine aw_icmp_lt C 61 dX10_until_56 (by decide) (fun c5 => ?_) (fun c5 => ?_)
      · rw [if_pos c5] at h
        refine aw_iinc C (x3 + 1) 2 [(3, .int (x3 + 1)), (0, .ref (gZ G + a0)), (2, .int x2)] dX10_until_61 rfl rfl (by decide) rfl ?_
        refine aw_goto C 41 dX10_until_64 (by decide) ?_
        exact aw_sub [1, 2, 0] rfl (ih _ h)
      · rw [if_neg c5] at h
        refine aw_iload_n C 2 dX10_until_59 rfl rfl ?_
        obtain ⟨e8, e9⟩ := inj2 h
        subst e8
        subst e9
        exact hret _ _ dX10_until_60
set_option maxRecDepth 100000 in
set_option maxHeartbeats 4000000 in
theorem wk_X10_until {G : GL} {X : CX} {a0 : Nat} {x1 : Int32} {x2 : Int32} {μ : Mem} {r : Int32} {μ' : Mem} (C : Ctx G X cX10_until 4 RX10 rm_X10_until) (h : X10_until a0 x1 x2 μ = some (r, μ')) (hret : RtI G 4 X cX10_until 0 0 r μ') : AW G 4 X 0 0 0 [(0, .ref (gZ G + a0)), (1, .int x1), (2, .int x2)] [] μ := by
  unfold X10_until at h
  refine aw_iload_n C 1 dX10_until_0 rfl rfl ?_
  refine aw_cS_I C [.int x1] _ (mt_X10_isPerson _) cs_X10_isPerson ml_X10_104 st_X10_isPerson ⟨by decide, by decide⟩ ⟨rfl, rfl⟩ ⟨Nat.zero_le _, Nat.zero_le _⟩ rfl rfl (Nat.le_of_ble_eq_true rfl) dX10_until_1 ?_
  refine aw_if_ne C 11 dX10_until_4 (by decide) (fun c1 => ?_) (fun c1 => ?_)
  · rw [if_neg c1] at h
    refine aw_iload_n C 2 dX10_until_11 rfl rfl ?_
    refine aw_iconst C 0 dX10_until_12 (by decide) ?_
    refine aw_ldc C kc_X10_131 dX10_until_13 ?_
    refine aw_cS_I C [.int x2, .int 0, .int 1000000] _ (mt_X10_within _ _ _) cs_X10_within ml_X10_90 st_X10_within ⟨by decide, by decide⟩ ⟨rfl, rfl⟩ ⟨Nat.zero_le _, Nat.zero_le _⟩ rfl rfl (Nat.le_of_ble_eq_true rfl) dX10_until_15 ?_
    refine aw_if_ne C 25 dX10_until_18 (by decide) (fun c2 => ?_) (fun c2 => ?_)
    · rw [if_neg c2] at h
      refine aw_aload_n C 0 dX10_until_25 rfl rfl ?_
      obtain ⟨v3, hv3, h⟩ := bindE h
      refine aw_gR C fl_X10_12 rfl hv3 dX10_until_26 ?_
      refine aw_iload_n C 1 dX10_until_29 rfl rfl ?_
      refine aw_aload_n C 0 dX10_until_30 rfl rfl ?_
      obtain ⟨v4, hv4, h⟩ := bindE h
      refine aw_gI C fl_X10_110 rfl hv4 dX10_until_31 ?_
      refine aw_bipush C 8 dX10_until_34 (by decide) ?_
      obtain ⟨g5, hg5, h⟩ := bindE h
      obtain ⟨μ6, hμ6, h⟩ := bindE h
      refine aw_cV_V C [.int x1, .int v4, .int 8] _ (mt_X9_lookAhead hμ6) cs_X9_lookAhead ml_X10_120 im_X9_lookAhead se_X9_lookAhead (ci := 9) rfl rfl hg5 ⟨by decide, by decide⟩ ⟨rfl, rfl⟩ ⟨Nat.zero_le _, Nat.zero_le _⟩ rfl rfl (Nat.le_of_ble_eq_true rfl) dX10_until_36 ?_
      refine aw_iconst C 0 dX10_until_39 (by decide) ?_
      refine aw_istore_n C [(3, .int 0), (0, .ref (gZ G + a0)), (1, .int x1), (2, .int x2)] dX10_until_40 rfl (by decide) rfl ?_
      refine aw_sub [1, 3, 0] rfl ?_
      exact X10_until_L41_ok C hret _ _ _ _ h
    · rw [if_pos c2] at h
      refine aw_sipush C ((-1002)) dX10_until_21 (by decide) ?_
      obtain ⟨e8, e9⟩ := inj2 h
      subst e8
      subst e9
      exact hret _ _ dX10_until_24
  · rw [if_pos c1] at h
    refine aw_sipush C ((-1001)) dX10_until_7 (by decide) ?_
    obtain ⟨e8, e9⟩ := inj2 h
    subst e8
    subst e9
    exact hret _ _ dX10_until_10
set_option maxRecDepth 100000 in
set_option maxHeartbeats 4000000 in
theorem mt_X10_until {G : GL} {l : Launch} {a0 : Nat} {x1 : Int32} {x2 : Int32} {μ : Mem} {r : Int32} {μ' : Mem} (h : X10_until a0 x1 x2 μ = some (r, μ')) : MtI G l yX10_until cX10_until 4 (some .int) rm_X10_until false [.ref (gZ G + a0), .int x1, .int x2] μ r μ' := met_I (by decide) rfl rfl (Nat.le_of_ble_eq_true rfl) (fun X _ C _ _ hret => wk_X10_until C h hret)
set_option maxRecDepth 100000 in
set_option maxHeartbeats 4000000 in
theorem wk_X10_thing {G : GL} {X : CX} {a0 : Nat} {x1 : Int32} {x2 : Int32} {x3 : Int32} {x4 : Int32} {x5 : Int32} {x6 : Int32} {x7 : Int32} {μ : Mem} {r : Int32} {μ' : Mem} (C : Ctx G X cX10_thing 9 RX10 rm_X10_thing) (h : X10_thing a0 x1 x2 x3 x4 x5 x6 x7 μ = some (r, μ')) (hret : RtI G 9 X cX10_thing 0 0 r μ') : AW G 9 X 0 0 0 [(0, .ref (gZ G + a0)), (1, .int x1), (2, .int x2), (3, .int x3), (4, .int x4), (5, .int x5), (6, .int x6), (7, .int x7)] [] μ := by
  unfold X10_thing at h
  refine aw_iload_n C 1 dX10_thing_0 rfl rfl ?_
  refine aw_iconst C 1 dX10_thing_1 (by decide) ?_
  refine aw_bipush C 15 dX10_thing_2 (by decide) ?_
  refine aw_cS_I C [.int x1, .int 1, .int 15] _ (mt_X10_within _ _ _) cs_X10_within ml_X10_90 st_X10_within ⟨by decide, by decide⟩ ⟨rfl, rfl⟩ ⟨Nat.zero_le _, Nat.zero_le _⟩ rfl rfl (Nat.le_of_ble_eq_true rfl) dX10_thing_4 ?_
  refine aw_if_ne C 14 dX10_thing_7 (by decide) (fun c1 => ?_) (fun c1 => ?_)
  · rw [if_neg c1] at h
    refine aw_iload_n C 2 dX10_thing_14 rfl rfl ?_
    refine aw_iconst C 0 dX10_thing_15 (by decide) ?_
    refine aw_iconst C 3 dX10_thing_16 (by decide) ?_
    refine aw_cS_I C [.int x2, .int 0, .int 3] _ (mt_X10_within _ _ _) cs_X10_within ml_X10_90 st_X10_within ⟨by decide, by decide⟩ ⟨rfl, rfl⟩ ⟨Nat.zero_le _, Nat.zero_le _⟩ rfl rfl (Nat.le_of_ble_eq_true rfl) dX10_thing_17 ?_
    refine aw_if_eq C 43 dX10_thing_20 (by decide) (fun c2 => ?_) (fun c2 => ?_)
    · rw [if_pos c2] at h
      refine aw_sipush C ((-1002)) dX10_thing_43 (by decide) ?_
      obtain ⟨e8, e9⟩ := inj2 h
      subst e8
      subst e9
      exact hret _ _ dX10_thing_46
    · rw [if_neg c2] at h
      refine aw_iload_n C 3 dX10_thing_23 rfl rfl ?_
      refine aw_iconst C 0 dX10_thing_24 (by decide) ?_
      refine aw_iconst C 5 dX10_thing_25 (by decide) ?_
      refine aw_cS_I C [.int x3, .int 0, .int 5] _ (mt_X10_within _ _ _) cs_X10_within ml_X10_90 st_X10_within ⟨by decide, by decide⟩ ⟨rfl, rfl⟩ ⟨Nat.zero_le _, Nat.zero_le _⟩ rfl rfl (Nat.le_of_ble_eq_true rfl) dX10_thing_26 ?_
      refine aw_if_eq C 43 dX10_thing_29 (by decide) (fun c3 => ?_) (fun c3 => ?_)
      · rw [if_pos c3] at h
        refine aw_sipush C ((-1002)) dX10_thing_43 (by decide) ?_
        obtain ⟨e8, e9⟩ := inj2 h
        subst e8
        subst e9
        exact hret _ _ dX10_thing_46
      · rw [if_neg c3] at h
        refine aw_iload C 4 dX10_thing_32 rfl ?_
        refine aw_iconst C 0 dX10_thing_34 (by decide) ?_
        refine aw_bipush C 9 dX10_thing_35 (by decide) ?_
        refine aw_cS_I C [.int x4, .int 0, .int 9] _ (mt_X10_within _ _ _) cs_X10_within ml_X10_90 st_X10_within ⟨by decide, by decide⟩ ⟨rfl, rfl⟩ ⟨Nat.zero_le _, Nat.zero_le _⟩ rfl rfl (Nat.le_of_ble_eq_true rfl) dX10_thing_37 ?_
        refine aw_if_ne C 47 dX10_thing_40 (by decide) (fun c4 => ?_) (fun c4 => ?_)
        · rw [if_neg c4] at h
          refine aw_iload C 5 dX10_thing_47 rfl ?_
          refine aw_iconst C 0 dX10_thing_49 (by decide) ?_
          refine aw_sipush C 999 dX10_thing_50 (by decide) ?_
          refine aw_cS_I C [.int x5, .int 0, .int 999] _ (mt_X10_within _ _ _) cs_X10_within ml_X10_90 st_X10_within ⟨by decide, by decide⟩ ⟨rfl, rfl⟩ ⟨Nat.zero_le _, Nat.zero_le _⟩ rfl rfl (Nat.le_of_ble_eq_true rfl) dX10_thing_53 ?_
          refine aw_if_eq C 84 dX10_thing_56 (by decide) (fun c5 => ?_) (fun c5 => ?_)
          · rw [if_pos c5] at h
            refine aw_sipush C ((-1002)) dX10_thing_84 (by decide) ?_
            obtain ⟨e8, e9⟩ := inj2 h
            subst e8
            subst e9
            exact hret _ _ dX10_thing_87
          · rw [if_neg c5] at h
            refine aw_iload C 6 dX10_thing_59 rfl ?_
            refine aw_iconst C 0 dX10_thing_61 (by decide) ?_
            refine aw_bipush C 99 dX10_thing_62 (by decide) ?_
            refine aw_cS_I C [.int x6, .int 0, .int 99] _ (mt_X10_within _ _ _) cs_X10_within ml_X10_90 st_X10_within ⟨by decide, by decide⟩ ⟨rfl, rfl⟩ ⟨Nat.zero_le _, Nat.zero_le _⟩ rfl rfl (Nat.le_of_ble_eq_true rfl) dX10_thing_64 ?_
            refine aw_if_eq C 84 dX10_thing_67 (by decide) (fun c6 => ?_) (fun c6 => ?_)
            · rw [if_pos c6] at h
              refine aw_sipush C ((-1002)) dX10_thing_84 (by decide) ?_
              obtain ⟨e8, e9⟩ := inj2 h
              subst e8
              subst e9
              exact hret _ _ dX10_thing_87
            · rw [if_neg c6] at h
              refine aw_iload C 7 dX10_thing_70 rfl ?_
              refine aw_aload_n C 0 dX10_thing_72 rfl rfl ?_
              obtain ⟨v7, hv7, h⟩ := bindE h
              refine aw_gI C fl_X10_110 rfl hv7 dX10_thing_73 ?_
              refine aw_bipush C 60 dX10_thing_76 (by decide) ?_
              refine aw_cS_I C [.int x7, .int v7, .int 60] _ (mt_X10_within _ _ _) cs_X10_within ml_X10_90 st_X10_within ⟨by decide, by decide⟩ ⟨rfl, rfl⟩ ⟨Nat.zero_le _, Nat.zero_le _⟩ rfl rfl (Nat.le_of_ble_eq_true rfl) dX10_thing_78 ?_
              refine aw_if_ne C 88 dX10_thing_81 (by decide) (fun c8 => ?_) (fun c8 => ?_)
              · rw [if_neg c8] at h
                refine aw_aload_n C 0 dX10_thing_88 rfl rfl ?_
                obtain ⟨v9, hv9, h⟩ := bindE h
                refine aw_gR C fl_X10_26 rfl hv9 dX10_thing_89 ?_
                obtain ⟨v10, hv10, h⟩ := bindE h
                refine aw_gI C fl_X10_132 rfl hv10 dX10_thing_92 ?_
                refine aw_bipush C 10 dX10_thing_95 (by decide) ?_
                refine aw_icmp_lt C 104 dX10_thing_97 (by decide) (fun c11 => ?_) (fun c11 => ?_)
                · rw [if_pos c11] at h
                  refine aw_aload_n C 0 dX10_thing_104 rfl rfl ?_
                  obtain ⟨v12, hv12, h⟩ := bindE h
                  refine aw_gR C fl_X10_26 rfl hv12 dX10_thing_105 ?_
                  obtain ⟨v13, hv13, h⟩ := bindE h
                  refine aw_gR C fl_X10_135 rfl hv13 dX10_thing_108 ?_
                  refine aw_aload_n C 0 dX10_thing_111 rfl rfl ?_
                  obtain ⟨v14, hv14, h⟩ := bindE h
                  refine aw_gR C fl_X10_26 rfl hv14 dX10_thing_112 ?_
                  obtain ⟨v15, hv15, h⟩ := bindE h
                  refine aw_gI C fl_X10_132 rfl hv15 dX10_thing_115 ?_
                  obtain ⟨v16, hv16, h⟩ := bindE h
                  refine aw_aR C (by decide) (ty := .object RX6) rfl rfl hv16 dX10_thing_118 ?_
                  refine aw_astore C [(8, .ref (gZ G + v16)), (0, .ref (gZ G + a0)), (1, .int x1), (2, .int x2), (3, .int x3), (4, .int x4), (5, .int x5), (6, .int x6), (7, .int x7)] dX10_thing_119 (by decide) rfl ?_
                  refine aw_aload C 0 dX10_thing_121 rfl ?_
                  refine aw_iload_n C 2 dX10_thing_123 rfl rfl ?_
                  obtain ⟨μ17, hμ17, h⟩ := bindE h
                  refine aw_pI C fl_X10_139 rfl hμ17 dX10_thing_124 ?_
                  refine aw_aload C 0 dX10_thing_127 rfl ?_
                  refine aw_iload_n C 3 dX10_thing_129 rfl rfl ?_
                  obtain ⟨μ18, hμ18, h⟩ := bindE h
                  refine aw_pI C fl_X10_144 rfl hμ18 dX10_thing_130 ?_
                  refine aw_aload C 0 dX10_thing_133 rfl ?_
                  refine aw_iload_n C 4 dX10_thing_135 rfl rfl ?_
                  obtain ⟨μ19, hμ19, h⟩ := bindE h
                  refine aw_pI C fl_X10_147 rfl hμ19 dX10_thing_136 ?_
                  refine aw_aload C 0 dX10_thing_139 rfl ?_
                  refine aw_iload C 5 dX10_thing_141 rfl ?_
                  obtain ⟨μ20, hμ20, h⟩ := bindE h
                  refine aw_pI C fl_X10_150 rfl hμ20 dX10_thing_143 ?_
                  refine aw_aload C 0 dX10_thing_146 rfl ?_
                  refine aw_iload C 6 dX10_thing_148 rfl ?_
                  obtain ⟨μ21, hμ21, h⟩ := bindE h
                  refine aw_pI C fl_X10_153 rfl hμ21 dX10_thing_150 ?_
                  refine aw_aload C 0 dX10_thing_153 rfl ?_
                  refine aw_iload C 7 dX10_thing_155 rfl ?_
                  obtain ⟨μ22, hμ22, h⟩ := bindE h
                  refine aw_pI C fl_X10_156 rfl hμ22 dX10_thing_157 ?_
                  refine aw_aload C 0 dX10_thing_160 rfl ?_
                  refine aw_iload C 8 dX10_thing_162 rfl ?_
                  obtain ⟨μ23, hμ23, h⟩ := bindE h
                  refine aw_pI C fl_X10_159 rfl hμ23 dX10_thing_164 ?_
                  refine aw_aload C 0 dX10_thing_167 rfl ?_
                  refine aw_aload_n C 1 dX10_thing_169 rfl rfl ?_
                  obtain ⟨v24, hv24, h⟩ := bindE h
                  refine aw_gI C fl_X10_110 rfl hv24 dX10_thing_170 ?_
                  obtain ⟨μ25, hμ25, h⟩ := bindE h
                  refine aw_pI C fl_X10_162 rfl hμ25 dX10_thing_173 ?_
                  refine aw_aload_n C 1 dX10_thing_176 rfl rfl ?_
                  obtain ⟨v26, hv26, h⟩ := bindE h
                  refine aw_gR C fl_X10_26 rfl hv26 dX10_thing_177 ?_
                  refine aw_dup C dX10_thing_180 rfl ?_
                  obtain ⟨v27, hv27, h⟩ := bindE h
                  refine aw_gI C fl_X10_132 rfl hv27 dX10_thing_181 ?_
                  refine aw_iconst C 1 dX10_thing_184 (by decide) ?_
                  refine aw_iadd C dX10_thing_185 ?_
                  obtain ⟨μ28, hμ28, h⟩ := bindE h
                  refine aw_pI C fl_X10_132 rfl hμ28 dX10_thing_186 ?_
                  refine aw_aload_n C 1 dX10_thing_189 rfl rfl ?_
                  obtain ⟨v29, hv29, h⟩ := bindE h
                  refine aw_gR C fl_X10_26 rfl hv29 dX10_thing_190 ?_
                  obtain ⟨v30, hv30, h⟩ := bindE h
                  refine aw_gI C fl_X10_132 rfl hv30 dX10_thing_193 ?_
                  refine aw_iconst C 1 dX10_thing_196 (by decide) ?_
                  refine aw_isub C dX10_thing_197 ?_
                  obtain ⟨e8, e9⟩ := inj2 h
                  subst e8
                  subst e9
                  exact hret _ _ dX10_thing_198
                · rw [if_neg c11] at h
                  refine aw_sipush C ((-1004)) dX10_thing_100 (by decide) ?_
                  obtain ⟨e8, e9⟩ := inj2 h
                  subst e8
                  subst e9
                  exact hret _ _ dX10_thing_103
              · rw [if_pos c8] at h
                refine aw_sipush C ((-1002)) dX10_thing_84 (by decide) ?_
                obtain ⟨e8, e9⟩ := inj2 h
                subst e8
                subst e9
                exact hret _ _ dX10_thing_87
        · rw [if_pos c4] at h
          refine aw_sipush C ((-1002)) dX10_thing_43 (by decide) ?_
          obtain ⟨e8, e9⟩ := inj2 h
          subst e8
          subst e9
          exact hret _ _ dX10_thing_46
  · rw [if_pos c1] at h
    refine aw_sipush C ((-1001)) dX10_thing_10 (by decide) ?_
    obtain ⟨e8, e9⟩ := inj2 h
    subst e8
    subst e9
    exact hret _ _ dX10_thing_13
set_option maxRecDepth 100000 in
set_option maxHeartbeats 4000000 in
theorem mt_X10_thing {G : GL} {l : Launch} {a0 : Nat} {x1 : Int32} {x2 : Int32} {x3 : Int32} {x4 : Int32} {x5 : Int32} {x6 : Int32} {x7 : Int32} {μ : Mem} {r : Int32} {μ' : Mem} (h : X10_thing a0 x1 x2 x3 x4 x5 x6 x7 μ = some (r, μ')) : MtI G l yX10_thing cX10_thing 9 (some .int) rm_X10_thing false [.ref (gZ G + a0), .int x1, .int x2, .int x3, .int x4, .int x5, .int x6, .int x7] μ r μ' := met_I (by decide) rfl rfl (Nat.le_of_ble_eq_true rfl) (fun X _ C _ _ hret => wk_X10_thing C h hret)
set_option maxRecDepth 100000 in
set_option maxHeartbeats 4000000 in
theorem wk_X10_dead {G : GL} {X : CX} {a0 : Nat} {x1 : Int32} {μ : Mem} {r : Int32} {μ' : Mem} (C : Ctx G X cX10_dead 2 RX10 rm_X10_dead) (h : X10_dead a0 x1 μ = some (r, μ')) (hret : RtI G 2 X cX10_dead 0 0 r μ') : AW G 2 X 0 0 0 [(0, .ref (gZ G + a0)), (1, .int x1)] [] μ := by
  unfold X10_dead at h
  refine aw_aload_n C 0 dX10_dead_0 rfl rfl ?_
  obtain ⟨v1, hv1, h⟩ := bindE h
  refine aw_gR C fl_X10_26 rfl hv1 dX10_dead_1 ?_
  refine aw_iload_n C 1 dX10_dead_4 rfl rfl ?_
  obtain ⟨g2, hg2, h⟩ := bindE h
  obtain ⟨v3, hv3, h⟩ := bindE h
  refine aw_cV_I C [.int x1] _ (mt_X0_hasThing hv3) cs_X0_hasThing ml_X10_165 im_X0_hasThing se_X0_hasThing (ci := 0) rfl rfl hg2 ⟨by decide, by decide⟩ ⟨rfl, rfl⟩ ⟨Nat.zero_le _, Nat.zero_le _⟩ rfl rfl (Nat.le_of_ble_eq_true rfl) dX10_dead_5 ?_
  refine aw_if_ne C 15 dX10_dead_8 (by decide) (fun c4 => ?_) (fun c4 => ?_)
  · rw [if_neg c4] at h
    refine aw_aload_n C 0 dX10_dead_15 rfl rfl ?_
    obtain ⟨v5, hv5, h⟩ := bindE h
    refine aw_gR C fl_X10_26 rfl hv5 dX10_dead_16 ?_
    obtain ⟨v6, hv6, h⟩ := bindE h
    refine aw_gR C fl_X10_135 rfl hv6 dX10_dead_19 ?_
    refine aw_iload_n C 1 dX10_dead_22 rfl rfl ?_
    obtain ⟨v7, hv7, h⟩ := bindE h
    refine aw_aR C (by decide) (ty := .object RX6) rfl rfl hv7 dX10_dead_23 ?_
    obtain ⟨v8, hv8, h⟩ := bindE h
    refine aw_gI C fl_X10_168 rfl hv8 dX10_dead_24 ?_
    refine aw_if_eq C 34 dX10_dead_27 (by decide) (fun c9 => ?_) (fun c9 => ?_)
    · rw [if_pos c9] at h
      refine aw_aload_n C 0 dX10_dead_34 rfl rfl ?_
      obtain ⟨v10, hv10, h⟩ := bindE h
      refine aw_gR C fl_X10_26 rfl hv10 dX10_dead_35 ?_
      obtain ⟨v11, hv11, h⟩ := bindE h
      refine aw_gR C fl_X10_135 rfl hv11 dX10_dead_38 ?_
      refine aw_iload_n C 1 dX10_dead_41 rfl rfl ?_
      obtain ⟨v12, hv12, h⟩ := bindE h
      refine aw_aR C (by decide) (ty := .object RX6) rfl rfl hv12 dX10_dead_42 ?_
      refine aw_iconst C 1 dX10_dead_43 (by decide) ?_
      obtain ⟨μ13, hμ13, h⟩ := bindE h
      refine aw_pZ C fl_X10_168 rfl hμ13 dX10_dead_44 ?_
      refine aw_aload_n C 0 dX10_dead_47 rfl rfl ?_
      obtain ⟨v14, hv14, h⟩ := bindE h
      refine aw_gR C fl_X10_26 rfl hv14 dX10_dead_48 ?_
      refine aw_iload_n C 1 dX10_dead_51 rfl rfl ?_
      obtain ⟨g15, hg15, h⟩ := bindE h
      obtain ⟨v16, hv16, h⟩ := bindE h
      refine aw_cV_I C [.int x1] _ (mt_X0_sayingsWith hv16) cs_X0_sayingsWith ml_X10_172 im_X0_sayingsWith se_X0_sayingsWith (ci := 0) rfl rfl hg15 ⟨by decide, by decide⟩ ⟨rfl, rfl⟩ ⟨Nat.zero_le _, Nat.zero_le _⟩ rfl rfl (Nat.le_of_ble_eq_true rfl) dX10_dead_52 ?_
      obtain ⟨e8, e9⟩ := inj2 h
      subst e8
      subst e9
      exact hret _ _ dX10_dead_55
    · rw [if_neg c9] at h
      refine aw_sipush C ((-1003)) dX10_dead_30 (by decide) ?_
      obtain ⟨e8, e9⟩ := inj2 h
      subst e8
      subst e9
      exact hret _ _ dX10_dead_33
  · rw [if_pos c4] at h
    refine aw_sipush C ((-1001)) dX10_dead_11 (by decide) ?_
    obtain ⟨e8, e9⟩ := inj2 h
    subst e8
    subst e9
    exact hret _ _ dX10_dead_14
set_option maxRecDepth 100000 in
set_option maxHeartbeats 4000000 in
theorem mt_X10_dead {G : GL} {l : Launch} {a0 : Nat} {x1 : Int32} {μ : Mem} {r : Int32} {μ' : Mem} (h : X10_dead a0 x1 μ = some (r, μ')) : MtI G l yX10_dead cX10_dead 2 (some .int) rm_X10_dead false [.ref (gZ G + a0), .int x1] μ r μ' := met_I (by decide) rfl rfl (Nat.le_of_ble_eq_true rfl) (fun X _ C _ _ hret => wk_X10_dead C h hret)
set_option maxRecDepth 100000 in
set_option maxHeartbeats 4000000 in
theorem wk_X10_told {G : GL} {X : CX} {a0 : Nat} {x1 : Int32} {x2 : Int32} {μ : Mem} {r : Int32} (C : Ctx G X cX10_told 4 RX10 rm_X10_told) (h : X10_told a0 x1 x2 μ = some r) (hret : RtI G 4 X cX10_told 0 0 r μ) : AW G 4 X 0 0 0 [(0, .ref (gZ G + a0)), (1, .int x1), (2, .int x2)] [] μ := by
  unfold X10_told at h
  refine aw_aload_n C 0 dX10_told_0 rfl rfl ?_
  obtain ⟨v1, hv1, h⟩ := bindE h
  refine aw_gR C fl_X10_26 rfl hv1 dX10_told_1 ?_
  refine aw_iload_n C 1 dX10_told_4 rfl rfl ?_
  obtain ⟨g2, hg2, h⟩ := bindE h
  obtain ⟨v3, hv3, h⟩ := bindE h
  refine aw_cV_I C [.int x1] _ (mt_X0_hasThing hv3) cs_X0_hasThing ml_X10_165 im_X0_hasThing se_X0_hasThing (ci := 0) rfl rfl hg2 ⟨by decide, by decide⟩ ⟨rfl, rfl⟩ ⟨Nat.zero_le _, Nat.zero_le _⟩ rfl rfl (Nat.le_of_ble_eq_true rfl) dX10_told_5 ?_
  refine aw_if_ne C 15 dX10_told_8 (by decide) (fun c4 => ?_) (fun c4 => ?_)
  · rw [if_neg c4] at h
    refine aw_aload_n C 0 dX10_told_15 rfl rfl ?_
    obtain ⟨v5, hv5, h⟩ := bindE h
    refine aw_gR C fl_X10_26 rfl hv5 dX10_told_16 ?_
    obtain ⟨v6, hv6, h⟩ := bindE h
    refine aw_gR C fl_X10_135 rfl hv6 dX10_told_19 ?_
    refine aw_iload_n C 1 dX10_told_22 rfl rfl ?_
    obtain ⟨v7, hv7, h⟩ := bindE h
    refine aw_aR C (by decide) (ty := .object RX6) rfl rfl hv7 dX10_told_23 ?_
    refine aw_astore_n C [(3, .ref (gZ G + v7)), (0, .ref (gZ G + a0)), (1, .int x1), (2, .int x2)] dX10_told_24 rfl (by decide) rfl ?_
    refine aw_iload_n C 3 dX10_told_25 rfl rfl ?_
    by_cases c8 : x2 = Int32.ofNat 0
    · rw [if_pos c8] at h
      refine aw_tin C (0) 72 c8 dX10_told_26 (by decide) (by decide) rfl (by decide) ?_
      refine aw_aload_n C 0 dX10_told_72 rfl rfl ?_
      obtain ⟨v9, hv9, h⟩ := bindE h
      refine aw_gI C fl_X10_139 rfl hv9 dX10_told_73 ?_
      have e9 := inj1 h
      subst e9
      exact hret _ _ dX10_told_76
    · rw [if_neg c8] at h
      by_cases c10 : x2 = Int32.ofNat 1
      · rw [if_pos c10] at h
        refine aw_tin C (1) 77 c10 dX10_told_26 (by decide) (by decide) rfl (by decide) ?_
        refine aw_aload_n C 0 dX10_told_77 rfl rfl ?_
        obtain ⟨v11, hv11, h⟩ := bindE h
        refine aw_gI C fl_X10_144 rfl hv11 dX10_told_78 ?_
        have e9 := inj1 h
        subst e9
        exact hret _ _ dX10_told_81
      · rw [if_neg c10] at h
        by_cases c12 : x2 = Int32.ofNat 2
        · rw [if_pos c12] at h
          refine aw_tin C (2) 82 c12 dX10_told_26 (by decide) (by decide) rfl (by decide) ?_
          refine aw_aload_n C 0 dX10_told_82 rfl rfl ?_
          obtain ⟨v13, hv13, h⟩ := bindE h
          refine aw_gI C fl_X10_147 rfl hv13 dX10_told_83 ?_
          have e9 := inj1 h
          subst e9
          exact hret _ _ dX10_told_86
        · rw [if_neg c12] at h
          by_cases c14 : x2 = Int32.ofNat 3
          · rw [if_pos c14] at h
            refine aw_tin C (3) 87 c14 dX10_told_26 (by decide) (by decide) rfl (by decide) ?_
            refine aw_aload_n C 0 dX10_told_87 rfl rfl ?_
            obtain ⟨v15, hv15, h⟩ := bindE h
            refine aw_gI C fl_X10_150 rfl hv15 dX10_told_88 ?_
            have e9 := inj1 h
            subst e9
            exact hret _ _ dX10_told_91
          · rw [if_neg c14] at h
            by_cases c16 : x2 = Int32.ofNat 4
            · rw [if_pos c16] at h
              refine aw_tin C (4) 92 c16 dX10_told_26 (by decide) (by decide) rfl (by decide) ?_
              refine aw_aload_n C 0 dX10_told_92 rfl rfl ?_
              obtain ⟨v17, hv17, h⟩ := bindE h
              refine aw_gI C fl_X10_159 rfl hv17 dX10_told_93 ?_
              have e9 := inj1 h
              subst e9
              exact hret _ _ dX10_told_96
            · rw [if_neg c16] at h
              by_cases c18 : x2 = Int32.ofNat 5
              · rw [if_pos c18] at h
                refine aw_tin C (5) 97 c18 dX10_told_26 (by decide) (by decide) rfl (by decide) ?_
                refine aw_aload_n C 1 dX10_told_97 rfl rfl ?_
                obtain ⟨v19, hv19, h⟩ := bindE h
                refine aw_gR C fl_X10_26 rfl hv19 dX10_told_98 ?_
                refine aw_iload_n C 2 dX10_told_101 rfl rfl ?_
                refine aw_aload_n C 1 dX10_told_102 rfl rfl ?_
                obtain ⟨v20, hv20, h⟩ := bindE h
                refine aw_gI C fl_X10_110 rfl hv20 dX10_told_103 ?_
                obtain ⟨g21, hg21, h⟩ := bindE h
                obtain ⟨v22, hv22, h⟩ := bindE h
                refine aw_cV_I C [.int x1, .int v20] _ (mt_X0_standing hv22) cs_X0_standing ml_X10_175 im_X0_standing se_X0_standing (ci := 0) rfl rfl hg21 ⟨by decide, by decide⟩ ⟨rfl, rfl⟩ ⟨Nat.zero_le _, Nat.zero_le _⟩ rfl rfl (Nat.le_of_ble_eq_true rfl) dX10_told_106 ?_
                have e9 := inj1 h
                subst e9
                exact hret _ _ dX10_told_109
              · rw [if_neg c18] at h
                by_cases c23 : x2 = Int32.ofNat 6
                · rw [if_pos c23] at h
                  refine aw_tin C (6) 110 c23 dX10_told_26 (by decide) (by decide) rfl (by decide) ?_
                  refine aw_aload_n C 1 dX10_told_110 rfl rfl ?_
                  obtain ⟨v24, hv24, h⟩ := bindE h
                  refine aw_gR C fl_X10_26 rfl hv24 dX10_told_111 ?_
                  refine aw_iload_n C 2 dX10_told_114 rfl rfl ?_
                  obtain ⟨g25, hg25, h⟩ := bindE h
                  obtain ⟨v26, hv26, h⟩ := bindE h
                  refine aw_cV_I C [.int x1] _ (mt_X0_sayingsWith hv26) cs_X0_sayingsWith ml_X10_172 im_X0_sayingsWith se_X0_sayingsWith (ci := 0) rfl rfl hg25 ⟨by decide, by decide⟩ ⟨rfl, rfl⟩ ⟨Nat.zero_le _, Nat.zero_le _⟩ rfl rfl (Nat.le_of_ble_eq_true rfl) dX10_told_115 ?_
                  have e9 := inj1 h
                  subst e9
                  exact hret _ _ dX10_told_118
                · rw [if_neg c23] at h
                  by_cases c27 : x2 = Int32.ofNat 7
                  · rw [if_pos c27] at h
                    refine aw_tin C (7) 119 c27 dX10_told_26 (by decide) (by decide) rfl (by decide) ?_
                    refine aw_aload_n C 0 dX10_told_119 rfl rfl ?_
                    obtain ⟨v28, hv28, h⟩ := bindE h
                    refine aw_gI C fl_X10_162 rfl hv28 dX10_told_120 ?_
                    have e9 := inj1 h
                    subst e9
                    exact hret _ _ dX10_told_123
                  · rw [if_neg c27] at h
                    refine aw_tout C 124 dX10_told_26 (tsw_out 8 (by decide) (fun k hk => by rcases (show k = 0 ∨ k = 1 ∨ k = 2 ∨ k = 3 ∨ k = 4 ∨ k = 5 ∨ k = 6 ∨ k = 7 by omega) with rfl | rfl | rfl | rfl | rfl | rfl | rfl | rfl <;> assumption)) (by decide) ?_
                    refine aw_sipush C ((-1002)) dX10_told_124 (by decide) ?_
                    have e9 := inj1 h
                    subst e9
                    exact hret _ _ dX10_told_127
  · rw [if_pos c4] at h
    refine aw_sipush C ((-1001)) dX10_told_11 (by decide) ?_
    have e9 := inj1 h
    subst e9
    exact hret _ _ dX10_told_14
set_option maxRecDepth 100000 in
set_option maxHeartbeats 4000000 in
theorem mt_X10_told {G : GL} {l : Launch} {a0 : Nat} {x1 : Int32} {x2 : Int32} {μ : Mem} {r : Int32} (h : X10_told a0 x1 x2 μ = some r) : MtI G l yX10_told cX10_told 4 (some .int) rm_X10_told false [.ref (gZ G + a0), .int x1, .int x2] μ r μ := met_I (by decide) rfl rfl (Nat.le_of_ble_eq_true rfl) (fun X _ C _ _ hret => wk_X10_told C h hret)
set_option maxRecDepth 100000 in
set_option maxHeartbeats 4000000 in
theorem wk_X10_value {G : GL} {X : CX} {a0 : Nat} {x1 : Int32} {x2 : Int32} {x3 : Int32} {μ : Mem} {r : Int32} {μ' : Mem} (C : Ctx G X cX10_value 4 RX10 rm_X10_value) (h : X10_value a0 x1 x2 x3 μ = some (r, μ')) (hret : RtI G 4 X cX10_value 0 0 r μ') : AW G 4 X 0 0 0 [(0, .ref (gZ G + a0)), (1, .int x1), (2, .int x2), (3, .int x3)] [] μ := by
  unfold X10_value at h
  refine aw_aload_n C 0 dX10_value_0 rfl rfl ?_
  obtain ⟨v1, hv1, h⟩ := bindE h
  refine aw_gR C fl_X10_26 rfl hv1 dX10_value_1 ?_
  refine aw_iload_n C 1 dX10_value_4 rfl rfl ?_
  obtain ⟨g2, hg2, h⟩ := bindE h
  obtain ⟨v3, hv3, h⟩ := bindE h
  refine aw_cV_I C [.int x1] _ (mt_X0_hasThing hv3) cs_X0_hasThing ml_X10_165 im_X0_hasThing se_X0_hasThing (ci := 0) rfl rfl hg2 ⟨by decide, by decide⟩ ⟨rfl, rfl⟩ ⟨Nat.zero_le _, Nat.zero_le _⟩ rfl rfl (Nat.le_of_ble_eq_true rfl) dX10_value_5 ?_
  refine aw_if_eq C 18 dX10_value_8 (by decide) (fun c4 => ?_) (fun c4 => ?_)
  · rw [if_pos c4] at h
    refine aw_sipush C ((-1001)) dX10_value_18 (by decide) ?_
    obtain ⟨e8, e9⟩ := inj2 h
    subst e8
    subst e9
    exact hret _ _ dX10_value_21
  · rw [if_neg c4] at h
    refine aw_iload_n C 2 dX10_value_11 rfl rfl ?_
    refine aw_cS_I C [.int x2] _ (mt_X10_isPerson _) cs_X10_isPerson ml_X10_104 st_X10_isPerson ⟨by decide, by decide⟩ ⟨rfl, rfl⟩ ⟨Nat.zero_le _, Nat.zero_le _⟩ rfl rfl (Nat.le_of_ble_eq_true rfl) dX10_value_12 ?_
    refine aw_if_ne C 22 dX10_value_15 (by decide) (fun c5 => ?_) (fun c5 => ?_)
    · rw [if_neg c5] at h
      refine aw_iload_n C 3 dX10_value_22 rfl rfl ?_
      refine aw_cS_I C [.int x3] _ (mt_X10_isAhead _) cs_X10_isAhead ml_X10_117 st_X10_isAhead ⟨by decide, by decide⟩ ⟨rfl, rfl⟩ ⟨Nat.zero_le _, Nat.zero_le _⟩ rfl rfl (Nat.le_of_ble_eq_true rfl) dX10_value_23 ?_
      refine aw_if_ne C 33 dX10_value_26 (by decide) (fun c6 => ?_) (fun c6 => ?_)
      · rw [if_neg c6] at h
        refine aw_aload_n C 0 dX10_value_33 rfl rfl ?_
        obtain ⟨v7, hv7, h⟩ := bindE h
        refine aw_gR C fl_X10_12 rfl hv7 dX10_value_34 ?_
        refine aw_iload_n C 2 dX10_value_37 rfl rfl ?_
        refine aw_aload_n C 0 dX10_value_38 rfl rfl ?_
        obtain ⟨v8, hv8, h⟩ := bindE h
        refine aw_gI C fl_X10_110 rfl hv8 dX10_value_39 ?_
        refine aw_iload_n C 3 dX10_value_42 rfl rfl ?_
        obtain ⟨g9, hg9, h⟩ := bindE h
        obtain ⟨μ10, hμ10, h⟩ := bindE h
        refine aw_cV_V C [.int x2, .int v8, .int x3] _ (mt_X9_lookAhead hμ10) cs_X9_lookAhead ml_X10_120 im_X9_lookAhead se_X9_lookAhead (ci := 9) rfl rfl hg9 ⟨by decide, by decide⟩ ⟨rfl, rfl⟩ ⟨Nat.zero_le _, Nat.zero_le _⟩ rfl rfl (Nat.le_of_ble_eq_true rfl) dX10_value_43 ?_
        refine aw_aload_n C 0 dX10_value_46 rfl rfl ?_
        obtain ⟨v11, hv11, h⟩ := bindE h
        refine aw_gR C fl_X10_26 rfl hv11 dX10_value_47 ?_
        obtain ⟨v12, hv12, h⟩ := bindE h
        refine aw_gR C fl_X10_135 rfl hv12 dX10_value_50 ?_
        refine aw_iload_n C 1 dX10_value_53 rfl rfl ?_
        obtain ⟨v13, hv13, h⟩ := bindE h
        refine aw_aR C (by decide) (ty := .object RX6) rfl rfl hv13 dX10_value_54 ?_
        refine aw_aload_n C 0 dX10_value_55 rfl rfl ?_
        obtain ⟨v14, hv14, h⟩ := bindE h
        refine aw_gI C fl_X10_110 rfl hv14 dX10_value_56 ?_
        refine aw_iload_n C 3 dX10_value_59 rfl rfl ?_
        refine aw_iadd C dX10_value_60 ?_
        refine aw_aload_n C 0 dX10_value_61 rfl rfl ?_
        obtain ⟨v15, hv15, h⟩ := bindE h
        refine aw_gR C fl_X10_12 rfl hv15 dX10_value_62 ?_
        refine aw_iload_n C 3 dX10_value_65 rfl rfl ?_
        obtain ⟨g16, hg16, h⟩ := bindE h
        obtain ⟨v17, hv17, h⟩ := bindE h
        refine aw_cV_I C [.int x3] _ (mt_X9_seamOdds hv17) cs_X9_seamOdds ml_X10_127 im_X9_seamOdds se_X9_seamOdds (ci := 9) rfl rfl hg16 ⟨by decide, by decide⟩ ⟨rfl, rfl⟩ ⟨Nat.zero_le _, Nat.zero_le _⟩ rfl rfl (Nat.le_of_ble_eq_true rfl) dX10_value_66 ?_
        obtain ⟨g18, hg18, h⟩ := bindE h
        obtain ⟨v19, hv19, h⟩ := bindE h
        refine aw_cV_I C [.int (v14 + x3), .int v17] _ (mt_X6_valueIn hv19) cs_X6_valueIn ml_X10_178 im_X6_valueIn se_X6_valueIn (ci := 6) rfl rfl hg18 ⟨by decide, by decide⟩ ⟨rfl, rfl⟩ ⟨Nat.zero_le _, Nat.zero_le _⟩ rfl rfl (Nat.le_of_ble_eq_true rfl) dX10_value_69 ?_
        obtain ⟨e8, e9⟩ := inj2 h
        subst e8
        subst e9
        exact hret _ _ dX10_value_72
      · rw [if_pos c6] at h
        refine aw_sipush C ((-1002)) dX10_value_29 (by decide) ?_
        obtain ⟨e8, e9⟩ := inj2 h
        subst e8
        subst e9
        exact hret _ _ dX10_value_32
    · rw [if_pos c5] at h
      refine aw_sipush C ((-1001)) dX10_value_18 (by decide) ?_
      obtain ⟨e8, e9⟩ := inj2 h
      subst e8
      subst e9
      exact hret _ _ dX10_value_21
set_option maxRecDepth 100000 in
set_option maxHeartbeats 4000000 in
theorem mt_X10_value {G : GL} {l : Launch} {a0 : Nat} {x1 : Int32} {x2 : Int32} {x3 : Int32} {μ : Mem} {r : Int32} {μ' : Mem} (h : X10_value a0 x1 x2 x3 μ = some (r, μ')) : MtI G l yX10_value cX10_value 4 (some .int) rm_X10_value false [.ref (gZ G + a0), .int x1, .int x2, .int x3] μ r μ' := met_I (by decide) rfl rfl (Nat.le_of_ble_eq_true rfl) (fun X _ C _ _ hret => wk_X10_value C h hret)
set_option maxRecDepth 100000 in
set_option maxHeartbeats 4000000 in
theorem wk_X10_isWay {G : GL} {X : CX} {x0 : Int32} {μ : Mem} (C : Ctx G X cX10_isWay 1 RX10 rm_X10_isWay) (hret : RtZ G 1 X cX10_isWay 0 0 (X10_isWay x0) μ) : AW G 1 X 0 0 0 [(0, .int x0)] [] μ := by
  unfold X10_isWay at hret
  refine aw_iload_n C 0 dX10_isWay_0 rfl rfl ?_
  refine aw_iconst C 0 dX10_isWay_1 (by decide) ?_
  refine aw_iconst C 3 dX10_isWay_2 (by decide) ?_
  refine aw_cS_I C [.int x0, .int 0, .int 3] _ (mt_X10_within _ _ _) cs_X10_within ml_X10_90 st_X10_within ⟨by decide, by decide⟩ ⟨rfl, rfl⟩ ⟨Nat.zero_le _, Nat.zero_le _⟩ rfl rfl (Nat.le_of_ble_eq_true rfl) dX10_isWay_3 ?_
  exact hret _ _ dX10_isWay_6 (z_X10_within _ _ _)
set_option maxRecDepth 100000 in
set_option maxHeartbeats 4000000 in
theorem mt_X10_isWay {G : GL} {l : Launch} (x0 : Int32) {μ : Mem} : MtI G l yX10_isWay cX10_isWay 1 (some .boolean) rm_X10_isWay false [.int x0] μ (X10_isWay x0) μ := met_Z (by decide) rfl (Nat.le_of_ble_eq_true rfl) (fun X _ C _ _ hret => wk_X10_isWay C hret)
theorem z_X10_isWay (x0 : Int32) : X10_isWay x0 = 0 ∨ X10_isWay x0 = 1 := by
  unfold X10_isWay
  exact z_X10_within _ _ _
set_option maxRecDepth 100000 in
set_option maxHeartbeats 4000000 in
theorem wk_X10_cost {G : GL} {X : CX} {a0 : Nat} {x1 : Int32} {x2 : Int32} {x3 : Int32} {μ : Mem} {r : Int32} {μ' : Mem} (C : Ctx G X cX10_cost 4 RX10 rm_X10_cost) (h : X10_cost a0 x1 x2 x3 μ = some (r, μ')) (hret : RtI G 4 X cX10_cost 0 0 r μ') : AW G 4 X 0 0 0 [(0, .ref (gZ G + a0)), (1, .int x1), (2, .int x2), (3, .int x3)] [] μ := by
  unfold X10_cost at h
  refine aw_iload_n C 1 dX10_cost_0 rfl rfl ?_
  refine aw_cS_I C [.int x1] _ (mt_X10_isWay _) cs_X10_isWay ml_X10_181 st_X10_isWay ⟨by decide, by decide⟩ ⟨rfl, rfl⟩ ⟨Nat.zero_le _, Nat.zero_le _⟩ rfl rfl (Nat.le_of_ble_eq_true rfl) dX10_cost_1 ?_
  refine aw_if_eq C 25 dX10_cost_4 (by decide) (fun c1 => ?_) (fun c1 => ?_)
  · rw [if_pos c1] at h
    refine aw_sipush C ((-1002)) dX10_cost_25 (by decide) ?_
    obtain ⟨e8, e9⟩ := inj2 h
    subst e8
    subst e9
    exact hret _ _ dX10_cost_28
  · rw [if_neg c1] at h
    refine aw_iload_n C 2 dX10_cost_7 rfl rfl ?_
    refine aw_cS_I C [.int x2] _ (mt_X10_isState _) cs_X10_isState ml_X10_75 st_X10_isState ⟨by decide, by decide⟩ ⟨rfl, rfl⟩ ⟨Nat.zero_le _, Nat.zero_le _⟩ rfl rfl (Nat.le_of_ble_eq_true rfl) dX10_cost_8 ?_
    refine aw_if_eq C 25 dX10_cost_11 (by decide) (fun c2 => ?_) (fun c2 => ?_)
    · rw [if_pos c2] at h
      refine aw_sipush C ((-1002)) dX10_cost_25 (by decide) ?_
      obtain ⟨e8, e9⟩ := inj2 h
      subst e8
      subst e9
      exact hret _ _ dX10_cost_28
    · rw [if_neg c2] at h
      refine aw_iload_n C 3 dX10_cost_14 rfl rfl ?_
      refine aw_iconst C 0 dX10_cost_15 (by decide) ?_
      refine aw_sipush C 999 dX10_cost_16 (by decide) ?_
      refine aw_cS_I C [.int x3, .int 0, .int 999] _ (mt_X10_within _ _ _) cs_X10_within ml_X10_90 st_X10_within ⟨by decide, by decide⟩ ⟨rfl, rfl⟩ ⟨Nat.zero_le _, Nat.zero_le _⟩ rfl rfl (Nat.le_of_ble_eq_true rfl) dX10_cost_19 ?_
      refine aw_if_ne C 29 dX10_cost_22 (by decide) (fun c3 => ?_) (fun c3 => ?_)
      · rw [if_neg c3] at h
        refine aw_aload_n C 0 dX10_cost_29 rfl rfl ?_
        obtain ⟨v4, hv4, h⟩ := bindE h
        refine aw_gR C fl_X10_19 rfl hv4 dX10_cost_30 ?_
        obtain ⟨v5, hv5, h⟩ := bindE h
        refine aw_gR C fl_X10_184 rfl hv5 dX10_cost_33 ?_
        refine aw_iload_n C 1 dX10_cost_36 rfl rfl ?_
        obtain ⟨v6, hv6, h⟩ := bindE h
        refine aw_aR C (by decide) (ty := .array .int) rfl rfl hv6 dX10_cost_37 ?_
        refine aw_iload_n C 2 dX10_cost_38 rfl rfl ?_
        refine aw_iload_n C 3 dX10_cost_39 rfl rfl ?_
        obtain ⟨z7, hz7, h⟩ := bindE h
        refine aw_cS_I C [.ref (gZ G + v6), .int x2, .int x3] _ (mt_X10_exchange hz7) cs_X10_exchange ml_X10_86 st_X10_exchange ⟨by decide, by decide⟩ ⟨rfl, rfl⟩ ⟨Nat.zero_le _, Nat.zero_le _⟩ rfl rfl (Nat.le_of_ble_eq_true rfl) dX10_cost_40 ?_
        obtain ⟨e8, e9⟩ := inj2 h
        subst e8
        subst e9
        exact hret _ _ dX10_cost_43
      · rw [if_pos c3] at h
        refine aw_sipush C ((-1002)) dX10_cost_25 (by decide) ?_
        obtain ⟨e8, e9⟩ := inj2 h
        subst e8
        subst e9
        exact hret _ _ dX10_cost_28
set_option maxRecDepth 100000 in
set_option maxHeartbeats 4000000 in
theorem mt_X10_cost {G : GL} {l : Launch} {a0 : Nat} {x1 : Int32} {x2 : Int32} {x3 : Int32} {μ : Mem} {r : Int32} {μ' : Mem} (h : X10_cost a0 x1 x2 x3 μ = some (r, μ')) : MtI G l yX10_cost cX10_cost 4 (some .int) rm_X10_cost false [.ref (gZ G + a0), .int x1, .int x2, .int x3] μ r μ' := met_I (by decide) rfl rfl (Nat.le_of_ble_eq_true rfl) (fun X _ C _ _ hret => wk_X10_cost C h hret)
set_option maxRecDepth 100000 in
set_option maxHeartbeats 4000000 in
theorem wk_X10_seen {G : GL} {X : CX} {a0 : Nat} {x1 : Int32} {x2 : Int32} {μ : Mem} {r : Int32} {μ' : Mem} (C : Ctx G X cX10_seen 3 RX10 rm_X10_seen) (h : X10_seen a0 x1 x2 μ = some (r, μ')) (hret : RtI G 3 X cX10_seen 0 0 r μ') : AW G 3 X 0 0 0 [(0, .ref (gZ G + a0)), (1, .int x1), (2, .int x2)] [] μ := by
  unfold X10_seen at h
  refine aw_iload_n C 1 dX10_seen_0 rfl rfl ?_
  refine aw_cS_I C [.int x1] _ (mt_X10_isWay _) cs_X10_isWay ml_X10_181 st_X10_isWay ⟨by decide, by decide⟩ ⟨rfl, rfl⟩ ⟨Nat.zero_le _, Nat.zero_le _⟩ rfl rfl (Nat.le_of_ble_eq_true rfl) dX10_seen_1 ?_
  refine aw_if_eq C 17 dX10_seen_4 (by decide) (fun c1 => ?_) (fun c1 => ?_)
  · rw [if_pos c1] at h
    refine aw_sipush C ((-1002)) dX10_seen_17 (by decide) ?_
    obtain ⟨e8, e9⟩ := inj2 h
    subst e8
    subst e9
    exact hret _ _ dX10_seen_20
  · rw [if_neg c1] at h
    refine aw_iload_n C 2 dX10_seen_7 rfl rfl ?_
    refine aw_iconst C 0 dX10_seen_8 (by decide) ?_
    refine aw_bipush C 100 dX10_seen_9 (by decide) ?_
    refine aw_cS_I C [.int x2, .int 0, .int 100] _ (mt_X10_within _ _ _) cs_X10_within ml_X10_90 st_X10_within ⟨by decide, by decide⟩ ⟨rfl, rfl⟩ ⟨Nat.zero_le _, Nat.zero_le _⟩ rfl rfl (Nat.le_of_ble_eq_true rfl) dX10_seen_11 ?_
    refine aw_if_ne C 21 dX10_seen_14 (by decide) (fun c2 => ?_) (fun c2 => ?_)
    · rw [if_neg c2] at h
      refine aw_aload_n C 0 dX10_seen_21 rfl rfl ?_
      obtain ⟨v3, hv3, h⟩ := bindE h
      refine aw_gR C fl_X10_19 rfl hv3 dX10_seen_22 ?_
      obtain ⟨v4, hv4, h⟩ := bindE h
      refine aw_gR C fl_X10_187 rfl hv4 dX10_seen_25 ?_
      refine aw_iload_n C 1 dX10_seen_28 rfl rfl ?_
      refine aw_iload_n C 2 dX10_seen_29 rfl rfl ?_
      obtain ⟨z5, hz5, h⟩ := bindE h
      refine aw_cS_I C [.ref (gZ G + v4), .int x1, .int x2] _ (mt_X10_exchange hz5) cs_X10_exchange ml_X10_86 st_X10_exchange ⟨by decide, by decide⟩ ⟨rfl, rfl⟩ ⟨Nat.zero_le _, Nat.zero_le _⟩ rfl rfl (Nat.le_of_ble_eq_true rfl) dX10_seen_30 ?_
      obtain ⟨e8, e9⟩ := inj2 h
      subst e8
      subst e9
      exact hret _ _ dX10_seen_33
    · rw [if_pos c2] at h
      refine aw_sipush C ((-1002)) dX10_seen_17 (by decide) ?_
      obtain ⟨e8, e9⟩ := inj2 h
      subst e8
      subst e9
      exact hret _ _ dX10_seen_20
set_option maxRecDepth 100000 in
set_option maxHeartbeats 4000000 in
theorem mt_X10_seen {G : GL} {l : Launch} {a0 : Nat} {x1 : Int32} {x2 : Int32} {μ : Mem} {r : Int32} {μ' : Mem} (h : X10_seen a0 x1 x2 μ = some (r, μ')) : MtI G l yX10_seen cX10_seen 3 (some .int) rm_X10_seen false [.ref (gZ G + a0), .int x1, .int x2] μ r μ' := met_I (by decide) rfl rfl (Nat.le_of_ble_eq_true rfl) (fun X _ C _ _ hret => wk_X10_seen C h hret)
