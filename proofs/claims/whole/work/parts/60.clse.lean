set_option maxRecDepth 100000 in
set_option maxHeartbeats 4000000 in
theorem wk_X10_loss {G : GL} {X : CX} {a0 : Nat} {x1 : Int32} {x2 : Int32} {x3 : Int32} {μ : Mem} {r : Int32} {μ' : Mem} (C : Ctx G X cX10_loss 4 RX10 rm_X10_loss) (h : X10_loss a0 x1 x2 x3 μ = some (r, μ')) (hret : RtI G 4 X cX10_loss 0 0 r μ') : AW G 4 X 0 0 0 [(0, .ref (gZ G + a0)), (1, .int x1), (2, .int x2), (3, .int x3)] [] μ := by
  unfold X10_loss at h
  refine aw_iload_n C 1 dX10_loss_0 rfl rfl ?_
  refine aw_cS_I C [.int x1] _ (mt_X10_isPerson _) cs_X10_isPerson ml_X10_104 st_X10_isPerson ⟨by decide, by decide⟩ ⟨rfl, rfl⟩ ⟨Nat.zero_le _, Nat.zero_le _⟩ rfl rfl (Nat.le_of_ble_eq_true rfl) dX10_loss_1 ?_
  refine aw_if_ne C 11 dX10_loss_4 (by decide) (fun c1 => ?_) (fun c1 => ?_)
  · rw [if_neg c1] at h
    refine aw_iload_n C 2 dX10_loss_11 rfl rfl ?_
    refine aw_cS_I C [.int x2] _ (mt_X10_isWay _) cs_X10_isWay ml_X10_181 st_X10_isWay ⟨by decide, by decide⟩ ⟨rfl, rfl⟩ ⟨Nat.zero_le _, Nat.zero_le _⟩ rfl rfl (Nat.le_of_ble_eq_true rfl) dX10_loss_12 ?_
    refine aw_if_eq C 25 dX10_loss_15 (by decide) (fun c2 => ?_) (fun c2 => ?_)
    · rw [if_pos c2] at h
      refine aw_sipush C ((-1002)) dX10_loss_25 (by decide) ?_
      obtain ⟨e8, e9⟩ := inj2 h
      subst e8
      subst e9
      exact hret _ _ dX10_loss_28
    · rw [if_neg c2] at h
      refine aw_iload_n C 3 dX10_loss_18 rfl rfl ?_
      refine aw_cS_I C [.int x3] _ (mt_X10_isAhead _) cs_X10_isAhead ml_X10_117 st_X10_isAhead ⟨by decide, by decide⟩ ⟨rfl, rfl⟩ ⟨Nat.zero_le _, Nat.zero_le _⟩ rfl rfl (Nat.le_of_ble_eq_true rfl) dX10_loss_19 ?_
      refine aw_if_ne C 29 dX10_loss_22 (by decide) (fun c3 => ?_) (fun c3 => ?_)
      · rw [if_neg c3] at h
        refine aw_aload_n C 0 dX10_loss_29 rfl rfl ?_
        obtain ⟨v4, hv4, h⟩ := bindE h
        refine aw_gR C fl_X10_12 rfl hv4 dX10_loss_30 ?_
        refine aw_iload_n C 1 dX10_loss_33 rfl rfl ?_
        refine aw_aload_n C 0 dX10_loss_34 rfl rfl ?_
        obtain ⟨v5, hv5, h⟩ := bindE h
        refine aw_gI C fl_X10_110 rfl hv5 dX10_loss_35 ?_
        refine aw_iload_n C 3 dX10_loss_38 rfl rfl ?_
        obtain ⟨g6, hg6, h⟩ := bindE h
        obtain ⟨μ7, hμ7, h⟩ := bindE h
        refine aw_cV_V C [.int x1, .int v5, .int x3] _ (mt_X9_lookAhead hμ7) cs_X9_lookAhead ml_X10_120 im_X9_lookAhead se_X9_lookAhead (ci := 9) rfl rfl hg6 ⟨by decide, by decide⟩ ⟨rfl, rfl⟩ ⟨Nat.zero_le _, Nat.zero_le _⟩ rfl rfl (Nat.le_of_ble_eq_true rfl) dX10_loss_39 ?_
        refine aw_aload_n C 0 dX10_loss_42 rfl rfl ?_
        obtain ⟨v8, hv8, h⟩ := bindE h
        refine aw_gR C fl_X10_19 rfl hv8 dX10_loss_43 ?_
        refine aw_iload_n C 2 dX10_loss_46 rfl rfl ?_
        refine aw_aload_n C 0 dX10_loss_47 rfl rfl ?_
        obtain ⟨v9, hv9, h⟩ := bindE h
        refine aw_gR C fl_X10_12 rfl hv9 dX10_loss_48 ?_
        obtain ⟨v10, hv10, h⟩ := bindE h
        refine aw_gR C fl_X10_124 rfl hv10 dX10_loss_51 ?_
        refine aw_iload_n C 3 dX10_loss_54 rfl rfl ?_
        obtain ⟨v11, hv11, h⟩ := bindE h
        refine aw_aR C (by decide) (ty := .array .int) rfl rfl hv11 dX10_loss_55 ?_
        obtain ⟨g12, hg12, h⟩ := bindE h
        obtain ⟨v13, hv13, h⟩ := bindE h
        refine aw_cV_I C [.int x2, .ref (gZ G + v11)] _ (mt_X8_lossBy hv13) cs_X8_lossBy ml_X10_190 im_X8_lossBy se_X8_lossBy (ci := 8) rfl rfl hg12 ⟨by decide, by decide⟩ ⟨rfl, rfl⟩ ⟨Nat.zero_le _, Nat.zero_le _⟩ rfl rfl (Nat.le_of_ble_eq_true rfl) dX10_loss_56 ?_
        obtain ⟨e8, e9⟩ := inj2 h
        subst e8
        subst e9
        exact hret _ _ dX10_loss_59
      · rw [if_pos c3] at h
        refine aw_sipush C ((-1002)) dX10_loss_25 (by decide) ?_
        obtain ⟨e8, e9⟩ := inj2 h
        subst e8
        subst e9
        exact hret _ _ dX10_loss_28
  · rw [if_pos c1] at h
    refine aw_sipush C ((-1001)) dX10_loss_7 (by decide) ?_
    obtain ⟨e8, e9⟩ := inj2 h
    subst e8
    subst e9
    exact hret _ _ dX10_loss_10
set_option maxRecDepth 100000 in
set_option maxHeartbeats 4000000 in
theorem mt_X10_loss {G : GL} {l : Launch} {a0 : Nat} {x1 : Int32} {x2 : Int32} {x3 : Int32} {μ : Mem} {r : Int32} {μ' : Mem} (h : X10_loss a0 x1 x2 x3 μ = some (r, μ')) : MtI G l yX10_loss cX10_loss 4 (some .int) rm_X10_loss false [.ref (gZ G + a0), .int x1, .int x2, .int x3] μ r μ' := met_I (by decide) rfl rfl (Nat.le_of_ble_eq_true rfl) (fun X _ C _ _ hret => wk_X10_loss C h hret)
set_option maxRecDepth 100000 in
set_option maxHeartbeats 4000000 in
theorem wk_X10_count {G : GL} {X : CX} {a0 : Nat} {x1 : Int32} {μ : Mem} {r : Int32} (C : Ctx G X cX10_count 2 RX10 rm_X10_count) (h : X10_count a0 x1 μ = some r) (hret : RtI G 2 X cX10_count 0 0 r μ) : AW G 2 X 0 0 0 [(0, .ref (gZ G + a0)), (1, .int x1)] [] μ := by
  unfold X10_count at h
  refine aw_iload_n C 1 dX10_count_0 rfl rfl ?_
  by_cases c1 : x1 = Int32.ofNat 0
  · rw [if_pos c1] at h
    refine aw_tin C (0) 48 c1 dX10_count_1 (by decide) (by decide) rfl (by decide) ?_
    refine aw_aload_n C 0 dX10_count_48 rfl rfl ?_
    obtain ⟨v2, hv2, h⟩ := bindE h
    refine aw_gI C fl_X10_110 rfl hv2 dX10_count_49 ?_
    have e9 := inj1 h
    subst e9
    exact hret _ _ dX10_count_52
  · rw [if_neg c1] at h
    by_cases c3 : x1 = Int32.ofNat 1
    · rw [if_pos c3] at h
      refine aw_tin C (1) 53 c3 dX10_count_1 (by decide) (by decide) rfl (by decide) ?_
      refine aw_aload_n C 0 dX10_count_53 rfl rfl ?_
      obtain ⟨v4, hv4, h⟩ := bindE h
      refine aw_gR C fl_X10_26 rfl hv4 dX10_count_54 ?_
      obtain ⟨v5, hv5, h⟩ := bindE h
      refine aw_gI C fl_X10_132 rfl hv5 dX10_count_57 ?_
      have e9 := inj1 h
      subst e9
      exact hret _ _ dX10_count_60
    · rw [if_neg c3] at h
      by_cases c6 : x1 = Int32.ofNat 2
      · rw [if_pos c6] at h
        refine aw_tin C (2) 61 c6 dX10_count_1 (by decide) (by decide) rfl (by decide) ?_
        refine aw_aload_n C 0 dX10_count_61 rfl rfl ?_
        obtain ⟨v7, hv7, h⟩ := bindE h
        refine aw_gR C fl_X10_26 rfl hv7 dX10_count_62 ?_
        refine aw_iconst C 0 dX10_count_65 (by decide) ?_
        refine aw_aload_n C 0 dX10_count_66 rfl rfl ?_
        obtain ⟨v8, hv8, h⟩ := bindE h
        refine aw_gI C fl_X10_110 rfl hv8 dX10_count_67 ?_
        obtain ⟨g9, hg9, h⟩ := bindE h
        obtain ⟨v10, hv10, h⟩ := bindE h
        refine aw_cV_I C [.int 0, .int v8] _ (mt_X0_thingsThatAre hv10) cs_X0_thingsThatAre ml_X10_194 im_X0_thingsThatAre se_X0_thingsThatAre (ci := 0) rfl rfl hg9 ⟨by decide, by decide⟩ ⟨rfl, rfl⟩ ⟨Nat.zero_le _, Nat.zero_le _⟩ rfl rfl (Nat.le_of_ble_eq_true rfl) dX10_count_70 ?_
        have e9 := inj1 h
        subst e9
        exact hret _ _ dX10_count_73
      · rw [if_neg c6] at h
        by_cases c11 : x1 = Int32.ofNat 3
        · rw [if_pos c11] at h
          refine aw_tin C (3) 74 c11 dX10_count_1 (by decide) (by decide) rfl (by decide) ?_
          refine aw_aload_n C 0 dX10_count_74 rfl rfl ?_
          obtain ⟨v12, hv12, h⟩ := bindE h
          refine aw_gR C fl_X10_26 rfl hv12 dX10_count_75 ?_
          refine aw_iconst C 1 dX10_count_78 (by decide) ?_
          refine aw_aload_n C 0 dX10_count_79 rfl rfl ?_
          obtain ⟨v13, hv13, h⟩ := bindE h
          refine aw_gI C fl_X10_110 rfl hv13 dX10_count_80 ?_
          obtain ⟨g14, hg14, h⟩ := bindE h
          obtain ⟨v15, hv15, h⟩ := bindE h
          refine aw_cV_I C [.int 1, .int v13] _ (mt_X0_thingsThatAre hv15) cs_X0_thingsThatAre ml_X10_194 im_X0_thingsThatAre se_X0_thingsThatAre (ci := 0) rfl rfl hg14 ⟨by decide, by decide⟩ ⟨rfl, rfl⟩ ⟨Nat.zero_le _, Nat.zero_le _⟩ rfl rfl (Nat.le_of_ble_eq_true rfl) dX10_count_83 ?_
          have e9 := inj1 h
          subst e9
          exact hret _ _ dX10_count_86
        · rw [if_neg c11] at h
          by_cases c16 : x1 = Int32.ofNat 4
          · rw [if_pos c16] at h
            refine aw_tin C (4) 87 c16 dX10_count_1 (by decide) (by decide) rfl (by decide) ?_
            refine aw_aload_n C 0 dX10_count_87 rfl rfl ?_
            obtain ⟨v17, hv17, h⟩ := bindE h
            refine aw_gR C fl_X10_26 rfl hv17 dX10_count_88 ?_
            refine aw_iconst C 2 dX10_count_91 (by decide) ?_
            refine aw_aload_n C 0 dX10_count_92 rfl rfl ?_
            obtain ⟨v18, hv18, h⟩ := bindE h
            refine aw_gI C fl_X10_110 rfl hv18 dX10_count_93 ?_
            obtain ⟨g19, hg19, h⟩ := bindE h
            obtain ⟨v20, hv20, h⟩ := bindE h
            refine aw_cV_I C [.int 2, .int v18] _ (mt_X0_thingsThatAre hv20) cs_X0_thingsThatAre ml_X10_194 im_X0_thingsThatAre se_X0_thingsThatAre (ci := 0) rfl rfl hg19 ⟨by decide, by decide⟩ ⟨rfl, rfl⟩ ⟨Nat.zero_le _, Nat.zero_le _⟩ rfl rfl (Nat.le_of_ble_eq_true rfl) dX10_count_96 ?_
            have e9 := inj1 h
            subst e9
            exact hret _ _ dX10_count_99
          · rw [if_neg c16] at h
            by_cases c21 : x1 = Int32.ofNat 5
            · rw [if_pos c21] at h
              refine aw_tin C (5) 100 c21 dX10_count_1 (by decide) (by decide) rfl (by decide) ?_
              refine aw_aload_n C 0 dX10_count_100 rfl rfl ?_
              obtain ⟨v22, hv22, h⟩ := bindE h
              refine aw_gR C fl_X10_26 rfl hv22 dX10_count_101 ?_
              refine aw_iconst C 3 dX10_count_104 (by decide) ?_
              refine aw_aload_n C 0 dX10_count_105 rfl rfl ?_
              obtain ⟨v23, hv23, h⟩ := bindE h
              refine aw_gI C fl_X10_110 rfl hv23 dX10_count_106 ?_
              obtain ⟨g24, hg24, h⟩ := bindE h
              obtain ⟨v25, hv25, h⟩ := bindE h
              refine aw_cV_I C [.int 3, .int v23] _ (mt_X0_thingsThatAre hv25) cs_X0_thingsThatAre ml_X10_194 im_X0_thingsThatAre se_X0_thingsThatAre (ci := 0) rfl rfl hg24 ⟨by decide, by decide⟩ ⟨rfl, rfl⟩ ⟨Nat.zero_le _, Nat.zero_le _⟩ rfl rfl (Nat.le_of_ble_eq_true rfl) dX10_count_109 ?_
              have e9 := inj1 h
              subst e9
              exact hret _ _ dX10_count_112
            · rw [if_neg c21] at h
              by_cases c26 : x1 = Int32.ofNat 6
              · rw [if_pos c26] at h
                refine aw_tin C (6) 113 c26 dX10_count_1 (by decide) (by decide) rfl (by decide) ?_
                refine aw_aload_n C 0 dX10_count_113 rfl rfl ?_
                obtain ⟨v27, hv27, h⟩ := bindE h
                refine aw_gR C fl_X10_26 rfl hv27 dX10_count_114 ?_
                obtain ⟨v28, hv28, h⟩ := bindE h
                refine aw_gI C fl_X10_197 rfl hv28 dX10_count_117 ?_
                have e9 := inj1 h
                subst e9
                exact hret _ _ dX10_count_120
              · rw [if_neg c26] at h
                by_cases c29 : x1 = Int32.ofNat 7
                · rw [if_pos c29] at h
                  refine aw_tin C (7) 121 c29 dX10_count_1 (by decide) (by decide) rfl (by decide) ?_
                  refine aw_aload_n C 0 dX10_count_121 rfl rfl ?_
                  obtain ⟨v30, hv30, h⟩ := bindE h
                  refine aw_gR C fl_X10_33 rfl hv30 dX10_count_122 ?_
                  obtain ⟨v31, hv31, h⟩ := bindE h
                  refine aw_gI C fl_X10_200 rfl hv31 dX10_count_125 ?_
                  have e9 := inj1 h
                  subst e9
                  exact hret _ _ dX10_count_128
                · rw [if_neg c29] at h
                  refine aw_tout C 129 dX10_count_1 (tsw_out 8 (by decide) (fun k hk => by rcases (show k = 0 ∨ k = 1 ∨ k = 2 ∨ k = 3 ∨ k = 4 ∨ k = 5 ∨ k = 6 ∨ k = 7 by omega) with rfl | rfl | rfl | rfl | rfl | rfl | rfl | rfl <;> assumption)) (by decide) ?_
                  refine aw_sipush C ((-1002)) dX10_count_129 (by decide) ?_
                  have e9 := inj1 h
                  subst e9
                  exact hret _ _ dX10_count_132
set_option maxRecDepth 100000 in
set_option maxHeartbeats 4000000 in
theorem mt_X10_count {G : GL} {l : Launch} {a0 : Nat} {x1 : Int32} {μ : Mem} {r : Int32} (h : X10_count a0 x1 μ = some r) : MtI G l yX10_count cX10_count 2 (some .int) rm_X10_count false [.ref (gZ G + a0), .int x1] μ r μ := met_I (by decide) rfl rfl (Nat.le_of_ble_eq_true rfl) (fun X _ C _ _ hret => wk_X10_count C h hret)
set_option maxRecDepth 100000 in
set_option maxHeartbeats 4000000 in
theorem X10_feed_L38_ok {G : GL} {X : CX} (C : Ctx G X cX10_feed 5 RX10 rm_X10_feed) (a0 : Nat) (j2 : Int64) : ∀ (n : Nat) (x4 : Int32) (μ : Mem) (z : Int32 × Mem), X10_feed_L38 a0 j2 n x4 μ = some z → AW G 5 X 0 0 68 [(0, .ref (gZ G + a0)), (2, .long j2), (4, .int z.1)] [] z.2 → AW G 5 X 0 0 38 [(0, .ref (gZ G + a0)), (2, .long j2), (4, .int x4)] [] μ := by
  intro n
  induction n with
  | zero =>
    intro x4 μ z h kx
    rw [X10_feed_L38] at h
    cases h
  | succ n ih =>
    intro x4 μ z h kx
    rw [X10_feed_L38] at h
    refine aw_iload C 2 dX10_feed_38 rfl ?_
    refine aw_if_lt C 68 dX10_feed_40 (by decide) (fun c1 => ?_) (fun c1 => ?_)
    · rw [if_pos c1] at h
      have e9 := inj1 h
      subst e9
      exact aw_sub [0, 1, 2] rfl kx
    · rw [if_neg c1] at h
      refine aw_aload_n C 0 dX10_feed_43 rfl rfl ?_
      obtain ⟨v2, hv2, h⟩ := bindE h
      refine aw_gR C fl_X10_33 rfl hv2 dX10_feed_44 ?_
      refine aw_lload_n C 1 dX10_feed_47 rfl rfl ?_
      refine aw_bipush C 8 dX10_feed_48 (by decide) ?_
      refine aw_iload C 2 dX10_feed_50 rfl ?_
      refine aw_imul C dX10_feed_52 ?_
      refine aw_lushr C dX10_feed_53 ?_
      refine aw_l2i C dX10_feed_54 ?_
      refine aw_sipush C 255 dX10_feed_55 (by decide) ?_
      refine aw_iand C dX10_feed_58 ?_
      obtain ⟨g3, hg3, h⟩ := bindE h
      obtain ⟨μ4, hμ4, h⟩ := bindE h
      refine aw_cV_V C [.int ((((j2.toUInt64 >>> ((8 * x4).toInt64.toUInt64 &&& Int64.toUInt64 63)).toInt64).toInt32) &&& 255)] _ (mt_X2_append hμ4) cs_X2_append ml_X10_203 im_X2_append se_X2_append (ci := 2) rfl rfl hg3 ⟨by decide, by decide⟩ ⟨rfl, rfl⟩ ⟨Nat.zero_le _, Nat.zero_le _⟩ rfl rfl (Nat.le_of_ble_eq_true rfl) dX10_feed_59 ?_
      refine aw_iinc C (x4 + (-1)) 2 [(4, .int (x4 + (-1))), (0, .ref (gZ G + a0)), (2, .long j2)] dX10_feed_62 rfl rfl (by decide) rfl ?_
      refine aw_goto C 38 dX10_feed_65 (by decide) ?_
      exact aw_sub [1, 2, 0] rfl (ih _ _ _ h kx)
set_option maxRecDepth 100000 in
set_option maxHeartbeats 4000000 in
theorem wk_X10_feed {G : GL} {X : CX} {a0 : Nat} {x1 : Int32} {j2 : Int64} {μ : Mem} {r : Int32} {μ' : Mem} (C : Ctx G X cX10_feed 5 RX10 rm_X10_feed) (h : X10_feed a0 x1 j2 μ = some (r, μ')) (hret : RtI G 5 X cX10_feed 0 0 r μ') : AW G 5 X 0 0 0 [(0, .ref (gZ G + a0)), (1, .int x1), (2, .long j2)] [] μ := by
  unfold X10_feed at h
  refine aw_iload_n C 1 dX10_feed_0 rfl rfl ?_
  refine aw_iconst C 1 dX10_feed_1 (by decide) ?_
  refine aw_bipush C 8 dX10_feed_2 (by decide) ?_
  refine aw_cS_I C [.int x1, .int 1, .int 8] _ (mt_X10_within _ _ _) cs_X10_within ml_X10_90 st_X10_within ⟨by decide, by decide⟩ ⟨rfl, rfl⟩ ⟨Nat.zero_le _, Nat.zero_le _⟩ rfl rfl (Nat.le_of_ble_eq_true rfl) dX10_feed_4 ?_
  refine aw_if_ne C 14 dX10_feed_7 (by decide) (fun c1 => ?_) (fun c1 => ?_)
  · rw [if_neg c1] at h
    refine aw_aload_n C 0 dX10_feed_14 rfl rfl ?_
    obtain ⟨v2, hv2, h⟩ := bindE h
    refine aw_gR C fl_X10_33 rfl hv2 dX10_feed_15 ?_
    obtain ⟨v3, hv3, h⟩ := bindE h
    refine aw_gI C fl_X10_200 rfl hv3 dX10_feed_18 ?_
    refine aw_iload_n C 1 dX10_feed_21 rfl rfl ?_
    refine aw_iadd C dX10_feed_22 ?_
    refine aw_sipush C 160 dX10_feed_23 (by decide) ?_
    refine aw_icmp_le C 33 dX10_feed_26 (by decide) (fun c4 => ?_) (fun c4 => ?_)
    · rw [if_pos c4] at h
      refine aw_iload_n C 1 dX10_feed_33 rfl rfl ?_
      refine aw_iconst C 1 dX10_feed_34 (by decide) ?_
      refine aw_isub C dX10_feed_35 ?_
      obtain ⟨v5, ev5, h⟩ := bindS h
      refine aw_topi ev5 ?_
      refine aw_istore C [(4, .int v5), (0, .ref (gZ G + a0)), (1, .int x1), (2, .long j2)] dX10_feed_36 (by decide) rfl ?_
      obtain ⟨z6, hz6, h⟩ := bindE h
      refine aw_sub [1, 3, 0] rfl ?_
      refine X10_feed_L38_ok C _ _ _ _ _ _ hz6 ?_
      refine aw_aload_n C 0 dX10_feed_68 rfl rfl ?_
      obtain ⟨v7, hv7, h⟩ := bindE h
      refine aw_gR C fl_X10_33 rfl hv7 dX10_feed_69 ?_
      obtain ⟨v8, hv8, h⟩ := bindE h
      refine aw_gI C fl_X10_200 rfl hv8 dX10_feed_72 ?_
      obtain ⟨e8, e9⟩ := inj2 h
      subst e8
      subst e9
      exact hret _ _ dX10_feed_75
    · rw [if_neg c4] at h
      refine aw_sipush C ((-1004)) dX10_feed_29 (by decide) ?_
      obtain ⟨e8, e9⟩ := inj2 h
      subst e8
      subst e9
      exact hret _ _ dX10_feed_32
  · rw [if_pos c1] at h
    refine aw_sipush C ((-1002)) dX10_feed_10 (by decide) ?_
    obtain ⟨e8, e9⟩ := inj2 h
    subst e8
    subst e9
    exact hret _ _ dX10_feed_13
set_option maxRecDepth 100000 in
set_option maxHeartbeats 4000000 in
theorem mt_X10_feed {G : GL} {l : Launch} {a0 : Nat} {x1 : Int32} {j2 : Int64} {μ : Mem} {r : Int32} {μ' : Mem} (h : X10_feed a0 x1 j2 μ = some (r, μ')) : MtI G l yX10_feed cX10_feed 5 (some .int) rm_X10_feed false [.ref (gZ G + a0), .int x1, .long j2] μ r μ' := met_I (by decide) rfl rfl (Nat.le_of_ble_eq_true rfl) (fun X _ C _ _ hret => wk_X10_feed C h hret)
set_option maxRecDepth 100000 in
set_option maxHeartbeats 4000000 in
theorem wk_X10_read {G : GL} {X : CX} {a0 : Nat} {x1 : Int32} {μ : Mem} {r : Int32} {μ' : Mem} (C : Ctx G X cX10_read 3 RX10 rm_X10_read) (h : X10_read a0 x1 μ = some (r, μ')) (hret : RtI G 3 X cX10_read 0 0 r μ') : AW G 3 X 0 0 0 [(0, .ref (gZ G + a0)), (1, .int x1)] [] μ := by
  unfold X10_read at h
  refine aw_iload_n C 1 dX10_read_0 rfl rfl ?_
  refine aw_cS_I C [.int x1] _ (mt_X10_isPerson _) cs_X10_isPerson ml_X10_104 st_X10_isPerson ⟨by decide, by decide⟩ ⟨rfl, rfl⟩ ⟨Nat.zero_le _, Nat.zero_le _⟩ rfl rfl (Nat.le_of_ble_eq_true rfl) dX10_read_1 ?_
  refine aw_if_ne C 11 dX10_read_4 (by decide) (fun c1 => ?_) (fun c1 => ?_)
  · rw [if_neg c1] at h
    refine aw_aload_n C 0 dX10_read_11 rfl rfl ?_
    obtain ⟨v2, hv2, h⟩ := bindE h
    refine aw_gR C fl_X10_33 rfl hv2 dX10_read_12 ?_
    refine aw_aload_n C 0 dX10_read_15 rfl rfl ?_
    obtain ⟨v3, hv3, h⟩ := bindE h
    refine aw_gR C fl_X10_71 rfl hv3 dX10_read_16 ?_
    obtain ⟨g4, hg4, h⟩ := bindE h
    obtain ⟨μ5, hμ5, h⟩ := bindE h
    refine aw_cV_V C [.ref (gZ G + v3)] _ (mt_X2_parse hμ5) cs_X2_parse ml_X10_207 im_X2_parse se_X2_parse (ci := 2) rfl rfl hg4 ⟨by decide, by decide⟩ ⟨rfl, rfl⟩ ⟨Nat.zero_le _, Nat.zero_le _⟩ rfl rfl (Nat.le_of_ble_eq_true rfl) dX10_read_19 ?_
    refine aw_aload_n C 0 dX10_read_22 rfl rfl ?_
    obtain ⟨v6, hv6, h⟩ := bindE h
    refine aw_gR C fl_X10_33 rfl hv6 dX10_read_23 ?_
    refine aw_iconst C 0 dX10_read_26 (by decide) ?_
    obtain ⟨μ7, hμ7, h⟩ := bindE h
    refine aw_pI C fl_X10_200 rfl hμ7 dX10_read_27 ?_
    refine aw_aload_n C 0 dX10_read_30 rfl rfl ?_
    obtain ⟨v8, hv8, h⟩ := bindE h
    refine aw_gR C fl_X10_33 rfl hv8 dX10_read_31 ?_
    obtain ⟨v9, hv9, h⟩ := bindE h
    refine aw_gI C fl_X10_211 rfl hv9 dX10_read_34 ?_
    refine aw_if_eq C 51 dX10_read_37 (by decide) (fun c10 => ?_) (fun c10 => ?_)
    · rw [if_pos c10] at h
      refine aw_aload_n C 0 dX10_read_51 rfl rfl ?_
      obtain ⟨v11, hv11, h⟩ := bindE h
      refine aw_gR C fl_X10_39 rfl hv11 dX10_read_52 ?_
      refine aw_iload_n C 1 dX10_read_55 rfl rfl ?_
      obtain ⟨v12, hv12, h⟩ := bindE h
      refine aw_aR C (by decide) (ty := .object RX3) rfl rfl hv12 dX10_read_56 ?_
      refine aw_astore_n C [(2, .ref (gZ G + v12)), (0, .ref (gZ G + a0)), (1, .int x1)] dX10_read_57 rfl (by decide) rfl ?_
      refine aw_aload_n C 1 dX10_read_58 rfl rfl ?_
      obtain ⟨v13, hv13, h⟩ := bindE h
      refine aw_gR C fl_X10_39 rfl hv13 dX10_read_59 ?_
      refine aw_iload_n C 2 dX10_read_62 rfl rfl ?_
      refine aw_aload_n C 1 dX10_read_63 rfl rfl ?_
      obtain ⟨v14, hv14, h⟩ := bindE h
      refine aw_gR C fl_X10_71 rfl hv14 dX10_read_64 ?_
      obtain ⟨μ15, hμ15, h⟩ := bindE h
      refine aw_sR C (by decide) (ci := 3) rfl rfl hμ15 dX10_read_67 ?_
      refine aw_aload_n C 1 dX10_read_68 rfl rfl ?_
      refine aw_aload_n C 0 dX10_read_69 rfl rfl ?_
      obtain ⟨μ16, hμ16, h⟩ := bindE h
      refine aw_pR C fl_X10_71 rfl rfl rfl hμ16 dX10_read_70 ?_
      refine aw_aload_n C 1 dX10_read_73 rfl rfl ?_
      obtain ⟨v17, hv17, h⟩ := bindE h
      refine aw_gR C fl_X10_39 rfl hv17 dX10_read_74 ?_
      refine aw_iload_n C 2 dX10_read_77 rfl rfl ?_
      obtain ⟨v18, hv18, h⟩ := bindE h
      refine aw_aR C (by decide) (ty := .object RX3) rfl rfl hv18 dX10_read_78 ?_
      obtain ⟨v19, hv19, h⟩ := bindE h
      refine aw_gI C fl_X10_214 rfl hv19 dX10_read_79 ?_
      obtain ⟨e8, e9⟩ := inj2 h
      subst e8
      subst e9
      exact hret _ _ dX10_read_82
    · rw [if_neg c10] at h
      refine aw_bipush C ((-10)) dX10_read_40 (by decide) ?_
      refine aw_aload_n C 0 dX10_read_42 rfl rfl ?_
      obtain ⟨v20, hv20, h⟩ := bindE h
      refine aw_gR C fl_X10_33 rfl hv20 dX10_read_43 ?_
      obtain ⟨v21, hv21, h⟩ := bindE h
      refine aw_gI C fl_X10_211 rfl hv21 dX10_read_46 ?_
      refine aw_isub C dX10_read_49 ?_
      obtain ⟨e8, e9⟩ := inj2 h
      subst e8
      subst e9
      exact hret _ _ dX10_read_50
  · rw [if_pos c1] at h
    refine aw_sipush C ((-1001)) dX10_read_7 (by decide) ?_
    obtain ⟨e8, e9⟩ := inj2 h
    subst e8
    subst e9
    exact hret _ _ dX10_read_10
set_option maxRecDepth 100000 in
set_option maxHeartbeats 4000000 in
theorem mt_X10_read {G : GL} {l : Launch} {a0 : Nat} {x1 : Int32} {μ : Mem} {r : Int32} {μ' : Mem} (h : X10_read a0 x1 μ = some (r, μ')) : MtI G l yX10_read cX10_read 3 (some .int) rm_X10_read false [.ref (gZ G + a0), .int x1] μ r μ' := met_I (by decide) rfl rfl (Nat.le_of_ble_eq_true rfl) (fun X _ C _ _ hret => wk_X10_read C h hret)
set_option maxRecDepth 100000 in
set_option maxHeartbeats 4000000 in
theorem wk_X10_fault {G : GL} {X : CX} {a0 : Nat} {μ : Mem} {r : Int32} (C : Ctx G X cX10_fault 1 RX10 rm_X10_fault) (h : X10_fault a0 μ = some r) (hret : RtI G 1 X cX10_fault 0 0 r μ) : AW G 1 X 0 0 0 [(0, .ref (gZ G + a0))] [] μ := by
  unfold X10_fault at h
  refine aw_aload_n C 0 dX10_fault_0 rfl rfl ?_
  obtain ⟨v1, hv1, h⟩ := bindE h
  refine aw_gR C fl_X10_33 rfl hv1 dX10_fault_1 ?_
  obtain ⟨v2, hv2, h⟩ := bindE h
  refine aw_gI C fl_X10_217 rfl hv2 dX10_fault_4 ?_
  have e9 := inj1 h
  subst e9
  exact hret _ _ dX10_fault_7
set_option maxRecDepth 100000 in
set_option maxHeartbeats 4000000 in
theorem mt_X10_fault {G : GL} {l : Launch} {a0 : Nat} {μ : Mem} {r : Int32} (h : X10_fault a0 μ = some r) : MtI G l yX10_fault cX10_fault 1 (some .int) rm_X10_fault false [.ref (gZ G + a0)] μ r μ := met_I (by decide) rfl rfl (Nat.le_of_ble_eq_true rfl) (fun X _ C _ _ hret => wk_X10_fault C h hret)
set_option maxRecDepth 100000 in
set_option maxHeartbeats 4000000 in
theorem wk_X10_barNow {G : GL} {X : CX} {a0 : Nat} {x1 : Int32} {x2 : Int32} {x3 : Int32} {μ : Mem} {r : Int32} {μ' : Mem} (C : Ctx G X cX10_barNow 4 RX10 rm_X10_barNow) (h : X10_barNow a0 x1 x2 x3 μ = some (r, μ')) (hret : RtI G 4 X cX10_barNow 0 0 r μ') : AW G 4 X 0 0 0 [(0, .ref (gZ G + a0)), (1, .int x1), (2, .int x2), (3, .int x3)] [] μ := by
  unfold X10_barNow at h
  refine aw_aload_n C 0 dX10_barNow_0 rfl rfl ?_
  obtain ⟨v1, hv1, h⟩ := bindE h
  refine aw_gR C fl_X10_12 rfl hv1 dX10_barNow_1 ?_
  refine aw_iload_n C 1 dX10_barNow_4 rfl rfl ?_
  refine aw_aload_n C 0 dX10_barNow_5 rfl rfl ?_
  obtain ⟨v2, hv2, h⟩ := bindE h
  refine aw_gI C fl_X10_110 rfl hv2 dX10_barNow_6 ?_
  refine aw_iconst C 0 dX10_barNow_9 (by decide) ?_
  obtain ⟨g3, hg3, h⟩ := bindE h
  obtain ⟨μ4, hμ4, h⟩ := bindE h
  refine aw_cV_V C [.int x1, .int v2, .int 0] _ (mt_X9_lookAhead hμ4) cs_X9_lookAhead ml_X10_120 im_X9_lookAhead se_X9_lookAhead (ci := 9) rfl rfl hg3 ⟨by decide, by decide⟩ ⟨rfl, rfl⟩ ⟨Nat.zero_le _, Nat.zero_le _⟩ rfl rfl (Nat.le_of_ble_eq_true rfl) dX10_barNow_10 ?_
  refine aw_aload_n C 0 dX10_barNow_13 rfl rfl ?_
  obtain ⟨v5, hv5, h⟩ := bindE h
  refine aw_gR C fl_X10_46 rfl hv5 dX10_barNow_14 ?_
  refine aw_aload_n C 0 dX10_barNow_17 rfl rfl ?_
  obtain ⟨v6, hv6, h⟩ := bindE h
  refine aw_gR C fl_X10_39 rfl hv6 dX10_barNow_18 ?_
  refine aw_iload_n C 1 dX10_barNow_21 rfl rfl ?_
  obtain ⟨v7, hv7, h⟩ := bindE h
  refine aw_aR C (by decide) (ty := .object RX3) rfl rfl hv7 dX10_barNow_22 ?_
  refine aw_aload_n C 0 dX10_barNow_23 rfl rfl ?_
  obtain ⟨v8, hv8, h⟩ := bindE h
  refine aw_gR C fl_X10_26 rfl hv8 dX10_barNow_24 ?_
  refine aw_aload_n C 0 dX10_barNow_27 rfl rfl ?_
  obtain ⟨v9, hv9, h⟩ := bindE h
  refine aw_gI C fl_X10_110 rfl hv9 dX10_barNow_28 ?_
  refine aw_aload_n C 0 dX10_barNow_31 rfl rfl ?_
  obtain ⟨v10, hv10, h⟩ := bindE h
  refine aw_gR C fl_X10_12 rfl hv10 dX10_barNow_32 ?_
  obtain ⟨v11, hv11, h⟩ := bindE h
  refine aw_gR C fl_X10_124 rfl hv11 dX10_barNow_35 ?_
  refine aw_iconst C 0 dX10_barNow_38 (by decide) ?_
  obtain ⟨v12, hv12, h⟩ := bindE h
  refine aw_aR C (by decide) (ty := .array .int) rfl rfl hv12 dX10_barNow_39 ?_
  obtain ⟨g13, hg13, h⟩ := bindE h
  obtain ⟨μ14, hμ14, h⟩ := bindE h
  refine aw_cV_V C [.ref (gZ G + v7), .ref (gZ G + v8), .int v9, .ref (gZ G + v12)] _ (mt_X1_open hμ14) cs_X1_open ml_X10_227 im_X1_open se_X1_open (ci := 1) rfl rfl hg13 ⟨by decide, by decide⟩ ⟨rfl, rfl⟩ ⟨Nat.zero_le _, Nat.zero_le _⟩ rfl rfl (Nat.le_of_ble_eq_true rfl) dX10_barNow_40 ?_
  refine aw_aload_n C 0 dX10_barNow_43 rfl rfl ?_
  obtain ⟨v15, hv15, h⟩ := bindE h
  refine aw_gR C fl_X10_26 rfl hv15 dX10_barNow_44 ?_
  refine aw_iload_n C 1 dX10_barNow_47 rfl rfl ?_
  refine aw_aload_n C 0 dX10_barNow_48 rfl rfl ?_
  obtain ⟨v16, hv16, h⟩ := bindE h
  refine aw_gR C fl_X10_66 rfl hv16 dX10_barNow_49 ?_
  obtain ⟨g17, hg17, h⟩ := bindE h
  obtain ⟨μ18, hμ18, h⟩ := bindE h
  refine aw_cV_V C [.int x1, .ref (gZ G + v16)] _ (mt_X0_countSaid hμ18) cs_X0_countSaid ml_X10_231 im_X0_countSaid se_X0_countSaid (ci := 0) rfl rfl hg17 ⟨by decide, by decide⟩ ⟨rfl, rfl⟩ ⟨Nat.zero_le _, Nat.zero_le _⟩ rfl rfl (Nat.le_of_ble_eq_true rfl) dX10_barNow_52 ?_
  refine aw_aload_n C 0 dX10_barNow_55 rfl rfl ?_
  obtain ⟨v19, hv19, h⟩ := bindE h
  refine aw_gR C fl_X10_46 rfl hv19 dX10_barNow_56 ?_
  refine aw_iload_n C 2 dX10_barNow_59 rfl rfl ?_
  refine aw_iload_n C 3 dX10_barNow_60 rfl rfl ?_
  refine aw_aload_n C 0 dX10_barNow_61 rfl rfl ?_
  obtain ⟨v20, hv20, h⟩ := bindE h
  refine aw_gR C fl_X10_39 rfl hv20 dX10_barNow_62 ?_
  refine aw_iload_n C 1 dX10_barNow_65 rfl rfl ?_
  obtain ⟨v21, hv21, h⟩ := bindE h
  refine aw_aR C (by decide) (ty := .object RX3) rfl rfl hv21 dX10_barNow_66 ?_
  refine aw_aload_n C 0 dX10_barNow_67 rfl rfl ?_
  obtain ⟨v22, hv22, h⟩ := bindE h
  refine aw_gR C fl_X10_66 rfl hv22 dX10_barNow_68 ?_
  refine aw_aload_n C 0 dX10_barNow_71 rfl rfl ?_
  obtain ⟨v23, hv23, h⟩ := bindE h
  refine aw_gI C fl_X10_110 rfl hv23 dX10_barNow_72 ?_
  obtain ⟨g24, hg24, h⟩ := bindE h
  obtain ⟨v25, hv25, h⟩ := bindE h
  refine aw_cV_I C [.ref (gZ G + v22), .int v23] _ (mt_X3_mostBars hv25) cs_X3_mostBars ml_X10_235 im_X3_mostBars se_X3_mostBars (ci := 3) rfl rfl hg24 ⟨by decide, by decide⟩ ⟨rfl, rfl⟩ ⟨Nat.zero_le _, Nat.zero_le _⟩ rfl rfl (Nat.le_of_ble_eq_true rfl) dX10_barNow_75 ?_
  obtain ⟨g26, hg26, h⟩ := bindE h
  obtain ⟨v27, hv27, h⟩ := bindE h
  refine aw_cV_I C [.int x2, .int x3, .int v25] _ (mt_X1_bar hv27) cs_X1_bar ml_X10_239 im_X1_bar se_X1_bar (ci := 1) rfl rfl hg26 ⟨by decide, by decide⟩ ⟨rfl, rfl⟩ ⟨Nat.zero_le _, Nat.zero_le _⟩ rfl rfl (Nat.le_of_ble_eq_true rfl) dX10_barNow_78 ?_
  obtain ⟨e8, e9⟩ := inj2 h
  subst e8
  subst e9
  exact hret _ _ dX10_barNow_81
set_option maxRecDepth 100000 in
set_option maxHeartbeats 4000000 in
theorem mt_X10_barNow {G : GL} {l : Launch} {a0 : Nat} {x1 : Int32} {x2 : Int32} {x3 : Int32} {μ : Mem} {r : Int32} {μ' : Mem} (h : X10_barNow a0 x1 x2 x3 μ = some (r, μ')) : MtI G l yX10_barNow cX10_barNow 4 (some .int) rm_X10_barNow false [.ref (gZ G + a0), .int x1, .int x2, .int x3] μ r μ' := met_I (by decide) rfl rfl (Nat.le_of_ble_eq_true rfl) (fun X _ C _ _ hret => wk_X10_barNow C h hret)
set_option maxRecDepth 100000 in
set_option maxHeartbeats 4000000 in
theorem wk_X10_barred {G : GL} {X : CX} {a0 : Nat} {x1 : Int32} {x2 : Int32} {x3 : Int32} {μ : Mem} {r : Int32} {μ' : Mem} (C : Ctx G X cX10_barred 4 RX10 rm_X10_barred) (h : X10_barred a0 x1 x2 x3 μ = some (r, μ')) (hret : RtI G 4 X cX10_barred 0 0 r μ') : AW G 4 X 0 0 0 [(0, .ref (gZ G + a0)), (1, .int x1), (2, .int x2), (3, .int x3)] [] μ := by
  unfold X10_barred at h
  refine aw_iload_n C 1 dX10_barred_0 rfl rfl ?_
  refine aw_cS_I C [.int x1] _ (mt_X10_isPerson _) cs_X10_isPerson ml_X10_104 st_X10_isPerson ⟨by decide, by decide⟩ ⟨rfl, rfl⟩ ⟨Nat.zero_le _, Nat.zero_le _⟩ rfl rfl (Nat.le_of_ble_eq_true rfl) dX10_barred_1 ?_
  refine aw_if_eq C 18 dX10_barred_4 (by decide) (fun c1 => ?_) (fun c1 => ?_)
  · rw [if_pos c1] at h
    refine aw_sipush C ((-1001)) dX10_barred_18 (by decide) ?_
    obtain ⟨e8, e9⟩ := inj2 h
    subst e8
    subst e9
    exact hret _ _ dX10_barred_21
  · rw [if_neg c1] at h
    refine aw_aload_n C 0 dX10_barred_7 rfl rfl ?_
    obtain ⟨v2, hv2, h⟩ := bindE h
    refine aw_gR C fl_X10_26 rfl hv2 dX10_barred_8 ?_
    refine aw_iload_n C 2 dX10_barred_11 rfl rfl ?_
    obtain ⟨g3, hg3, h⟩ := bindE h
    obtain ⟨v4, hv4, h⟩ := bindE h
    refine aw_cV_I C [.int x2] _ (mt_X0_hasThings hv4) cs_X0_hasThings ml_X10_220 im_X0_hasThings se_X0_hasThings (ci := 0) rfl rfl hg3 ⟨by decide, by decide⟩ ⟨rfl, rfl⟩ ⟨Nat.zero_le _, Nat.zero_le _⟩ rfl rfl (Nat.le_of_ble_eq_true rfl) dX10_barred_12 ?_
    refine aw_if_ne C 22 dX10_barred_15 (by decide) (fun c5 => ?_) (fun c5 => ?_)
    · rw [if_neg c5] at h
      refine aw_iload_n C 3 dX10_barred_22 rfl rfl ?_
      refine aw_cS_I C [.int x3] _ (mt_X10_isWay _) cs_X10_isWay ml_X10_181 st_X10_isWay ⟨by decide, by decide⟩ ⟨rfl, rfl⟩ ⟨Nat.zero_le _, Nat.zero_le _⟩ rfl rfl (Nat.le_of_ble_eq_true rfl) dX10_barred_23 ?_
      refine aw_if_ne C 33 dX10_barred_26 (by decide) (fun c6 => ?_) (fun c6 => ?_)
      · rw [if_neg c6] at h
        refine aw_aload_n C 0 dX10_barred_33 rfl rfl ?_
        refine aw_iload_n C 1 dX10_barred_34 rfl rfl ?_
        refine aw_iload_n C 2 dX10_barred_35 rfl rfl ?_
        refine aw_iload_n C 3 dX10_barred_36 rfl rfl ?_
        obtain ⟨g7, hg7, h⟩ := bindE h
        obtain ⟨z8, hz8, h⟩ := bindE h
        refine aw_cV_I C [.int x1, .int x2, .int x3] _ (mt_X10_barNow hz8) cs_X10_barNow ml_X10_223 im_X10_barNow se_X10_barNow (ci := 10) rfl rfl hg7 ⟨by decide, by decide⟩ ⟨rfl, rfl⟩ ⟨Nat.zero_le _, Nat.zero_le _⟩ rfl rfl (Nat.le_of_ble_eq_true rfl) dX10_barred_37 ?_
        obtain ⟨e8, e9⟩ := inj2 h
        subst e8
        subst e9
        exact hret _ _ dX10_barred_40
      · rw [if_pos c6] at h
        refine aw_sipush C ((-1002)) dX10_barred_29 (by decide) ?_
        obtain ⟨e8, e9⟩ := inj2 h
        subst e8
        subst e9
        exact hret _ _ dX10_barred_32
    · rw [if_pos c5] at h
      refine aw_sipush C ((-1001)) dX10_barred_18 (by decide) ?_
      obtain ⟨e8, e9⟩ := inj2 h
      subst e8
      subst e9
      exact hret _ _ dX10_barred_21
set_option maxRecDepth 100000 in
set_option maxHeartbeats 4000000 in
theorem mt_X10_barred {G : GL} {l : Launch} {a0 : Nat} {x1 : Int32} {x2 : Int32} {x3 : Int32} {μ : Mem} {r : Int32} {μ' : Mem} (h : X10_barred a0 x1 x2 x3 μ = some (r, μ')) : MtI G l yX10_barred cX10_barred 4 (some .int) rm_X10_barred false [.ref (gZ G + a0), .int x1, .int x2, .int x3] μ r μ' := met_I (by decide) rfl rfl (Nat.le_of_ble_eq_true rfl) (fun X _ C _ _ hret => wk_X10_barred C h hret)
set_option maxRecDepth 100000 in
set_option maxHeartbeats 4000000 in
theorem wk_X10_plan {G : GL} {X : CX} {a0 : Nat} {x1 : Int32} {x2 : Int32} {x3 : Int32} {x4 : Int32} {μ : Mem} {r : Int32} {μ' : Mem} (C : Ctx G X cX10_plan 5 RX10 rm_X10_plan) (h : X10_plan a0 x1 x2 x3 x4 μ = some (r, μ')) (hret : RtI G 5 X cX10_plan 0 0 r μ') : AW G 5 X 0 0 0 [(0, .ref (gZ G + a0)), (1, .int x1), (2, .int x2), (3, .int x3), (4, .int x4)] [] μ := by
  unfold X10_plan at h
  refine aw_iload_n C 1 dX10_plan_0 rfl rfl ?_
  refine aw_cS_I C [.int x1] _ (mt_X10_isPerson _) cs_X10_isPerson ml_X10_104 st_X10_isPerson ⟨by decide, by decide⟩ ⟨rfl, rfl⟩ ⟨Nat.zero_le _, Nat.zero_le _⟩ rfl rfl (Nat.le_of_ble_eq_true rfl) dX10_plan_1 ?_
  refine aw_if_ne C 11 dX10_plan_4 (by decide) (fun c1 => ?_) (fun c1 => ?_)
  · rw [if_neg c1] at h
    refine aw_iload_n C 2 dX10_plan_11 rfl rfl ?_
    refine aw_iconst C 1 dX10_plan_12 (by decide) ?_
    refine aw_bipush C 6 dX10_plan_13 (by decide) ?_
    refine aw_cS_I C [.int x2, .int 1, .int 6] _ (mt_X10_within _ _ _) cs_X10_within ml_X10_90 st_X10_within ⟨by decide, by decide⟩ ⟨rfl, rfl⟩ ⟨Nat.zero_le _, Nat.zero_le _⟩ rfl rfl (Nat.le_of_ble_eq_true rfl) dX10_plan_15 ?_
    refine aw_if_eq C 42 dX10_plan_18 (by decide) (fun c2 => ?_) (fun c2 => ?_)
    · rw [if_pos c2] at h
      refine aw_sipush C ((-1002)) dX10_plan_42 (by decide) ?_
      obtain ⟨e8, e9⟩ := inj2 h
      subst e8
      subst e9
      exact hret _ _ dX10_plan_45
    · rw [if_neg c2] at h
      refine aw_iload_n C 3 dX10_plan_21 rfl rfl ?_
      refine aw_iconst C ((-1)) dX10_plan_22 (by decide) ?_
      refine aw_iload_n C 2 dX10_plan_23 rfl rfl ?_
      refine aw_iconst C 1 dX10_plan_24 (by decide) ?_
      refine aw_isub C dX10_plan_25 ?_
      refine aw_cS_I C [.int x3, .int ((-1)), .int (x2 - 1)] _ (mt_X10_within _ _ _) cs_X10_within ml_X10_90 st_X10_within ⟨by decide, by decide⟩ ⟨rfl, rfl⟩ ⟨Nat.zero_le _, Nat.zero_le _⟩ rfl rfl (Nat.le_of_ble_eq_true rfl) dX10_plan_26 ?_
      refine aw_if_eq C 42 dX10_plan_29 (by decide) (fun c3 => ?_) (fun c3 => ?_)
      · rw [if_pos c3] at h
        refine aw_sipush C ((-1002)) dX10_plan_42 (by decide) ?_
        obtain ⟨e8, e9⟩ := inj2 h
        subst e8
        subst e9
        exact hret _ _ dX10_plan_45
      · rw [if_neg c3] at h
        refine aw_iload C 4 dX10_plan_32 rfl ?_
        refine aw_iconst C 0 dX10_plan_34 (by decide) ?_
        refine aw_iconst C 1 dX10_plan_35 (by decide) ?_
        refine aw_cS_I C [.int x4, .int 0, .int 1] _ (mt_X10_within _ _ _) cs_X10_within ml_X10_90 st_X10_within ⟨by decide, by decide⟩ ⟨rfl, rfl⟩ ⟨Nat.zero_le _, Nat.zero_le _⟩ rfl rfl (Nat.le_of_ble_eq_true rfl) dX10_plan_36 ?_
        refine aw_if_ne C 46 dX10_plan_39 (by decide) (fun c4 => ?_) (fun c4 => ?_)
        · rw [if_neg c4] at h
          refine aw_aload_n C 0 dX10_plan_46 rfl rfl ?_
          obtain ⟨v5, hv5, h⟩ := bindE h
          refine aw_gR C fl_X10_55 rfl hv5 dX10_plan_47 ?_
          refine aw_iload_n C 1 dX10_plan_50 rfl rfl ?_
          refine aw_iload_n C 2 dX10_plan_51 rfl rfl ?_
          refine aw_aload_n C 0 dX10_plan_52 rfl rfl ?_
          obtain ⟨v6, hv6, h⟩ := bindE h
          refine aw_gI C fl_X10_110 rfl hv6 dX10_plan_53 ?_
          refine aw_aload_n C 0 dX10_plan_56 rfl rfl ?_
          obtain ⟨v7, hv7, h⟩ := bindE h
          refine aw_gR C fl_X10_39 rfl hv7 dX10_plan_57 ?_
          refine aw_iload_n C 1 dX10_plan_60 rfl rfl ?_
          obtain ⟨v8, hv8, h⟩ := bindE h
          refine aw_aR C (by decide) (ty := .object RX3) rfl rfl hv8 dX10_plan_61 ?_
          obtain ⟨g9, hg9, h⟩ := bindE h
          obtain ⟨μ10, hμ10, h⟩ := bindE h
          refine aw_cV_V C [.int x1, .int x2, .int v6, .ref (gZ G + v8)] _ (mt_X4_make hμ10) cs_X4_make ml_X10_243 im_X4_make se_X4_make (ci := 4) rfl rfl hg9 ⟨by decide, by decide⟩ ⟨rfl, rfl⟩ ⟨Nat.zero_le _, Nat.zero_le _⟩ rfl rfl (Nat.le_of_ble_eq_true rfl) dX10_plan_62 ?_
          refine aw_iload_n C 3 dX10_plan_65 rfl rfl ?_
          refine aw_iconst C ((-1)) dX10_plan_66 (by decide) ?_
          refine aw_icmp_ne C 78 dX10_plan_67 (by decide) (fun c11 => ?_) (fun c11 => ?_)
          · rw [if_neg c11] at h
            refine aw_iload C 4 dX10_plan_78 rfl ?_
            obtain ⟨z19, hz19, h⟩ := bindE h
            have kj80 : AW G 5 X 0 0 104 [] [.int z19] μ10 := by
              obtain ⟨e8, e9⟩ := inj2 h
              subst e8
              subst e9
              exact hret _ _ dX10_plan_104
            replace h := hz19
            refine aw_if_ne C 95 dX10_plan_80 (by decide) (fun c12 => ?_) (fun c12 => ?_)
            · rw [if_neg c12] at h
              refine aw_aload_n C 0 dX10_plan_95 rfl rfl ?_
              obtain ⟨v13, hv13, h⟩ := bindE h
              refine aw_gR C fl_X10_55 rfl hv13 dX10_plan_96 ?_
              obtain ⟨v14, hv14, h⟩ := bindE h
              refine aw_gR C fl_X10_253 rfl hv14 dX10_plan_99 ?_
              refine aw_iload_n C 3 dX10_plan_102 rfl rfl ?_
              obtain ⟨v15, hv15, h⟩ := bindE h
              refine aw_aI C hv15 dX10_plan_103 ?_
              have e9 := inj1 h
              subst e9
              exact aw_sub [] rfl kj80
            · rw [if_pos c12] at h
              refine aw_aload_n C 0 dX10_plan_83 rfl rfl ?_
              obtain ⟨v16, hv16, h⟩ := bindE h
              refine aw_gR C fl_X10_55 rfl hv16 dX10_plan_84 ?_
              obtain ⟨v17, hv17, h⟩ := bindE h
              refine aw_gR C fl_X10_250 rfl hv17 dX10_plan_87 ?_
              refine aw_iload_n C 3 dX10_plan_90 rfl rfl ?_
              obtain ⟨v18, hv18, h⟩ := bindE h
              refine aw_aI C hv18 dX10_plan_91 ?_
              refine aw_goto C 104 dX10_plan_92 (by decide) ?_
              have e9 := inj1 h
              subst e9
              exact aw_sub [] rfl kj80
          · rw [if_pos c11] at h
            refine aw_aload_n C 0 dX10_plan_70 rfl rfl ?_
            obtain ⟨v20, hv20, h⟩ := bindE h
            refine aw_gR C fl_X10_55 rfl hv20 dX10_plan_71 ?_
            obtain ⟨v21, hv21, h⟩ := bindE h
            refine aw_gI C fl_X10_247 rfl hv21 dX10_plan_74 ?_
            obtain ⟨e8, e9⟩ := inj2 h
            subst e8
            subst e9
            exact hret _ _ dX10_plan_77
        · rw [if_pos c4] at h
          refine aw_sipush C ((-1002)) dX10_plan_42 (by decide) ?_
          obtain ⟨e8, e9⟩ := inj2 h
          subst e8
          subst e9
          exact hret _ _ dX10_plan_45
  · rw [if_pos c1] at h
    refine aw_sipush C ((-1001)) dX10_plan_7 (by decide) ?_
    obtain ⟨e8, e9⟩ := inj2 h
    subst e8
    subst e9
    exact hret _ _ dX10_plan_10
set_option maxRecDepth 100000 in
set_option maxHeartbeats 4000000 in
theorem mt_X10_plan {G : GL} {l : Launch} {a0 : Nat} {x1 : Int32} {x2 : Int32} {x3 : Int32} {x4 : Int32} {μ : Mem} {r : Int32} {μ' : Mem} (h : X10_plan a0 x1 x2 x3 x4 μ = some (r, μ')) : MtI G l yX10_plan cX10_plan 5 (some .int) rm_X10_plan false [.ref (gZ G + a0), .int x1, .int x2, .int x3, .int x4] μ r μ' := met_I (by decide) rfl rfl (Nat.le_of_ble_eq_true rfl) (fun X _ C _ _ hret => wk_X10_plan C h hret)
set_option maxRecDepth 100000 in
set_option maxHeartbeats 4000000 in
theorem wk_X10_say {G : GL} {X : CX} {a0 : Nat} {x1 : Int32} {x2 : Int32} {x3 : Int32} {μ : Mem} {r : Int32} {μ' : Mem} (C : Ctx G X cX10_say 5 RX10 rm_X10_say) (h : X10_say a0 x1 x2 x3 μ = some (r, μ')) (hret : RtI G 5 X cX10_say 0 0 r μ') : AW G 5 X 0 0 0 [(0, .ref (gZ G + a0)), (1, .int x1), (2, .int x2), (3, .int x3)] [] μ := by
  unfold X10_say at h
  refine aw_iload_n C 1 dX10_say_0 rfl rfl ?_
  refine aw_cS_I C [.int x1] _ (mt_X10_isPerson _) cs_X10_isPerson ml_X10_104 st_X10_isPerson ⟨by decide, by decide⟩ ⟨rfl, rfl⟩ ⟨Nat.zero_le _, Nat.zero_le _⟩ rfl rfl (Nat.le_of_ble_eq_true rfl) dX10_say_1 ?_
  refine aw_if_eq C 18 dX10_say_4 (by decide) (fun c1 => ?_) (fun c1 => ?_)
  · rw [if_pos c1] at h
    refine aw_sipush C ((-1001)) dX10_say_18 (by decide) ?_
    obtain ⟨e8, e9⟩ := inj2 h
    subst e8
    subst e9
    exact hret _ _ dX10_say_21
  · rw [if_neg c1] at h
    refine aw_aload_n C 0 dX10_say_7 rfl rfl ?_
    obtain ⟨v2, hv2, h⟩ := bindE h
    refine aw_gR C fl_X10_26 rfl hv2 dX10_say_8 ?_
    refine aw_iload_n C 2 dX10_say_11 rfl rfl ?_
    obtain ⟨g3, hg3, h⟩ := bindE h
    obtain ⟨v4, hv4, h⟩ := bindE h
    refine aw_cV_I C [.int x2] _ (mt_X0_hasThings hv4) cs_X0_hasThings ml_X10_220 im_X0_hasThings se_X0_hasThings (ci := 0) rfl rfl hg3 ⟨by decide, by decide⟩ ⟨rfl, rfl⟩ ⟨Nat.zero_le _, Nat.zero_le _⟩ rfl rfl (Nat.le_of_ble_eq_true rfl) dX10_say_12 ?_
    refine aw_if_ne C 22 dX10_say_15 (by decide) (fun c5 => ?_) (fun c5 => ?_)
    · rw [if_neg c5] at h
      refine aw_iload_n C 3 dX10_say_22 rfl rfl ?_
      refine aw_cS_I C [.int x3] _ (mt_X10_isWay _) cs_X10_isWay ml_X10_181 st_X10_isWay ⟨by decide, by decide⟩ ⟨rfl, rfl⟩ ⟨Nat.zero_le _, Nat.zero_le _⟩ rfl rfl (Nat.le_of_ble_eq_true rfl) dX10_say_23 ?_
      refine aw_if_ne C 33 dX10_say_26 (by decide) (fun c6 => ?_) (fun c6 => ?_)
      · rw [if_neg c6] at h
        refine aw_aload_n C 0 dX10_say_33 rfl rfl ?_
        refine aw_iload_n C 1 dX10_say_34 rfl rfl ?_
        refine aw_iload_n C 2 dX10_say_35 rfl rfl ?_
        refine aw_iload_n C 3 dX10_say_36 rfl rfl ?_
        obtain ⟨g7, hg7, h⟩ := bindE h
        obtain ⟨z8, hz8, h⟩ := bindE h
        refine aw_cV_I C [.int x1, .int x2, .int x3] _ (mt_X10_barNow hz8) cs_X10_barNow ml_X10_223 im_X10_barNow se_X10_barNow (ci := 10) rfl rfl hg7 ⟨by decide, by decide⟩ ⟨rfl, rfl⟩ ⟨Nat.zero_le _, Nat.zero_le _⟩ rfl rfl (Nat.le_of_ble_eq_true rfl) dX10_say_37 ?_
        refine aw_if_ne C 55 dX10_say_40 (by decide) (fun c9 => ?_) (fun c9 => ?_)
        · rw [if_neg c9] at h
          refine aw_sipush C ((-1003)) dX10_say_55 (by decide) ?_
          obtain ⟨e8, e9⟩ := inj2 h
          subst e8
          subst e9
          exact hret _ _ dX10_say_58
        · rw [if_pos c9] at h
          refine aw_aload_n C 0 dX10_say_43 rfl rfl ?_
          obtain ⟨v10, hv10, h⟩ := bindE h
          refine aw_gR C fl_X10_26 rfl hv10 dX10_say_44 ?_
          refine aw_iload_n C 2 dX10_say_47 rfl rfl ?_
          refine aw_iload_n C 1 dX10_say_48 rfl rfl ?_
          obtain ⟨g11, hg11, h⟩ := bindE h
          obtain ⟨v12, hv12, h⟩ := bindE h
          refine aw_cV_I C [.int x2, .int x1] _ (mt_X0_canBeSaid hv12) cs_X0_canBeSaid ml_X10_256 im_X0_canBeSaid se_X0_canBeSaid (ci := 0) rfl rfl hg11 ⟨by decide, by decide⟩ ⟨rfl, rfl⟩ ⟨Nat.zero_le _, Nat.zero_le _⟩ rfl rfl (Nat.le_of_ble_eq_true rfl) dX10_say_49 ?_
          refine aw_if_ne C 59 dX10_say_52 (by decide) (fun c13 => ?_) (fun c13 => ?_)
          · rw [if_neg c13] at h
            refine aw_aload_n C 0 dX10_say_59 rfl rfl ?_
            obtain ⟨v14, hv14, h⟩ := bindE h
            refine aw_gR C fl_X10_26 rfl hv14 dX10_say_60 ?_
            obtain ⟨v15, hv15, h⟩ := bindE h
            refine aw_gI C fl_X10_197 rfl hv15 dX10_say_63 ?_
            refine aw_bipush C 40 dX10_say_66 (by decide) ?_
            refine aw_icmp_lt C 75 dX10_say_68 (by decide) (fun c16 => ?_) (fun c16 => ?_)
            · rw [if_pos c16] at h
              refine aw_aload_n C 0 dX10_say_75 rfl rfl ?_
              obtain ⟨v17, hv17, h⟩ := bindE h
              refine aw_gR C fl_X10_26 rfl hv17 dX10_say_76 ?_
              obtain ⟨v18, hv18, h⟩ := bindE h
              refine aw_gR C fl_X10_260 rfl hv18 dX10_say_79 ?_
              refine aw_aload_n C 0 dX10_say_82 rfl rfl ?_
              obtain ⟨v19, hv19, h⟩ := bindE h
              refine aw_gR C fl_X10_26 rfl hv19 dX10_say_83 ?_
              obtain ⟨v20, hv20, h⟩ := bindE h
              refine aw_gI C fl_X10_197 rfl hv20 dX10_say_86 ?_
              obtain ⟨v21, hv21, h⟩ := bindE h
              refine aw_aR C (by decide) (ty := .object RX5) rfl rfl hv21 dX10_say_89 ?_
              refine aw_astore C [(4, .ref (gZ G + v21)), (0, .ref (gZ G + a0)), (1, .int x1), (2, .int x2), (3, .int x3)] dX10_say_90 (by decide) rfl ?_
              refine aw_aload C 0 dX10_say_92 rfl ?_
              refine aw_iload_n C 2 dX10_say_94 rfl rfl ?_
              obtain ⟨μ22, hμ22, h⟩ := bindE h
              refine aw_pI C fl_X10_264 rfl hμ22 dX10_say_95 ?_
              refine aw_aload C 0 dX10_say_98 rfl ?_
              refine aw_iload_n C 3 dX10_say_100 rfl rfl ?_
              obtain ⟨μ23, hμ23, h⟩ := bindE h
              refine aw_pI C fl_X10_269 rfl hμ23 dX10_say_101 ?_
              refine aw_aload C 0 dX10_say_104 rfl ?_
              refine aw_iload_n C 4 dX10_say_106 rfl rfl ?_
              obtain ⟨μ24, hμ24, h⟩ := bindE h
              refine aw_pI C fl_X10_272 rfl hμ24 dX10_say_107 ?_
              refine aw_aload C 0 dX10_say_110 rfl ?_
              refine aw_aload_n C 1 dX10_say_112 rfl rfl ?_
              obtain ⟨v25, hv25, h⟩ := bindE h
              refine aw_gI C fl_X10_110 rfl hv25 dX10_say_113 ?_
              obtain ⟨μ26, hμ26, h⟩ := bindE h
              refine aw_pI C fl_X10_275 rfl hμ26 dX10_say_116 ?_
              refine aw_aload_n C 1 dX10_say_119 rfl rfl ?_
              obtain ⟨v27, hv27, h⟩ := bindE h
              refine aw_gR C fl_X10_26 rfl hv27 dX10_say_120 ?_
              refine aw_dup C dX10_say_123 rfl ?_
              obtain ⟨v28, hv28, h⟩ := bindE h
              refine aw_gI C fl_X10_197 rfl hv28 dX10_say_124 ?_
              refine aw_iconst C 1 dX10_say_127 (by decide) ?_
              refine aw_iadd C dX10_say_128 ?_
              obtain ⟨μ29, hμ29, h⟩ := bindE h
              refine aw_pI C fl_X10_197 rfl hμ29 dX10_say_129 ?_
              refine aw_aload_n C 1 dX10_say_132 rfl rfl ?_
              obtain ⟨v30, hv30, h⟩ := bindE h
              refine aw_gR C fl_X10_26 rfl hv30 dX10_say_133 ?_
              obtain ⟨v31, hv31, h⟩ := bindE h
              refine aw_gI C fl_X10_197 rfl hv31 dX10_say_136 ?_
              refine aw_iconst C 1 dX10_say_139 (by decide) ?_
              refine aw_isub C dX10_say_140 ?_
              obtain ⟨e8, e9⟩ := inj2 h
              subst e8
              subst e9
              exact hret _ _ dX10_say_141
            · rw [if_neg c16] at h
              refine aw_sipush C ((-1004)) dX10_say_71 (by decide) ?_
              obtain ⟨e8, e9⟩ := inj2 h
              subst e8
              subst e9
              exact hret _ _ dX10_say_74
          · rw [if_pos c13] at h
            refine aw_sipush C ((-1003)) dX10_say_55 (by decide) ?_
            obtain ⟨e8, e9⟩ := inj2 h
            subst e8
            subst e9
            exact hret _ _ dX10_say_58
      · rw [if_pos c6] at h
        refine aw_sipush C ((-1002)) dX10_say_29 (by decide) ?_
        obtain ⟨e8, e9⟩ := inj2 h
        subst e8
        subst e9
        exact hret _ _ dX10_say_32
    · rw [if_pos c5] at h
      refine aw_sipush C ((-1001)) dX10_say_18 (by decide) ?_
      obtain ⟨e8, e9⟩ := inj2 h
      subst e8
      subst e9
      exact hret _ _ dX10_say_21
set_option maxRecDepth 100000 in
set_option maxHeartbeats 4000000 in
theorem mt_X10_say {G : GL} {l : Launch} {a0 : Nat} {x1 : Int32} {x2 : Int32} {x3 : Int32} {μ : Mem} {r : Int32} {μ' : Mem} (h : X10_say a0 x1 x2 x3 μ = some (r, μ')) : MtI G l yX10_say cX10_say 5 (some .int) rm_X10_say false [.ref (gZ G + a0), .int x1, .int x2, .int x3] μ r μ' := met_I (by decide) rfl rfl (Nat.le_of_ble_eq_true rfl) (fun X _ C _ _ hret => wk_X10_say C h hret)
set_option maxRecDepth 100000 in
set_option maxHeartbeats 4000000 in
theorem wk_X10_came {G : GL} {X : CX} {a0 : Nat} {x1 : Int32} {x2 : Int32} {μ : Mem} {r : Int32} {μ' : Mem} (C : Ctx G X cX10_came 4 RX10 rm_X10_came) (h : X10_came a0 x1 x2 μ = some (r, μ')) (hret : RtI G 4 X cX10_came 0 0 r μ') : AW G 4 X 0 0 0 [(0, .ref (gZ G + a0)), (1, .int x1), (2, .int x2)] [] μ := by
  unfold X10_came at h
  refine aw_aload_n C 0 dX10_came_0 rfl rfl ?_
  obtain ⟨v1, hv1, h⟩ := bindE h
  refine aw_gR C fl_X10_26 rfl hv1 dX10_came_1 ?_
  refine aw_iload_n C 1 dX10_came_4 rfl rfl ?_
  obtain ⟨g2, hg2, h⟩ := bindE h
  obtain ⟨v3, hv3, h⟩ := bindE h
  refine aw_cV_I C [.int x1] _ (mt_X0_hasSaying hv3) cs_X0_hasSaying ml_X10_276 im_X0_hasSaying se_X0_hasSaying (ci := 0) rfl rfl hg2 ⟨by decide, by decide⟩ ⟨rfl, rfl⟩ ⟨Nat.zero_le _, Nat.zero_le _⟩ rfl rfl (Nat.le_of_ble_eq_true rfl) dX10_came_5 ?_
  refine aw_if_ne C 15 dX10_came_8 (by decide) (fun c4 => ?_) (fun c4 => ?_)
  · rw [if_neg c4] at h
    refine aw_iload_n C 2 dX10_came_15 rfl rfl ?_
    refine aw_iconst C 1 dX10_came_16 (by decide) ?_
    refine aw_iconst C 3 dX10_came_17 (by decide) ?_
    refine aw_cS_I C [.int x2, .int 1, .int 3] _ (mt_X10_within _ _ _) cs_X10_within ml_X10_90 st_X10_within ⟨by decide, by decide⟩ ⟨rfl, rfl⟩ ⟨Nat.zero_le _, Nat.zero_le _⟩ rfl rfl (Nat.le_of_ble_eq_true rfl) dX10_came_18 ?_
    refine aw_if_ne C 28 dX10_came_21 (by decide) (fun c5 => ?_) (fun c5 => ?_)
    · rw [if_neg c5] at h
      refine aw_aload_n C 0 dX10_came_28 rfl rfl ?_
      obtain ⟨v6, hv6, h⟩ := bindE h
      refine aw_gR C fl_X10_26 rfl hv6 dX10_came_29 ?_
      obtain ⟨v7, hv7, h⟩ := bindE h
      refine aw_gR C fl_X10_260 rfl hv7 dX10_came_32 ?_
      refine aw_iload_n C 1 dX10_came_35 rfl rfl ?_
      obtain ⟨v8, hv8, h⟩ := bindE h
      refine aw_aR C (by decide) (ty := .object RX5) rfl rfl hv8 dX10_came_36 ?_
      obtain ⟨v9, hv9, h⟩ := bindE h
      refine aw_gI C fl_X10_279 rfl hv9 dX10_came_37 ?_
      refine aw_istore_n C [(3, .int v9), (0, .ref (gZ G + a0)), (1, .int x1), (2, .int x2)] dX10_came_40 rfl (by decide) rfl ?_
      refine aw_iload_n C 0 dX10_came_41 rfl rfl ?_
      refine aw_if_eq C 49 dX10_came_42 (by decide) (fun c10 => ?_) (fun c10 => ?_)
      · rw [if_pos c10] at h
        refine aw_aload_n C 1 dX10_came_49 rfl rfl ?_
        obtain ⟨v11, hv11, h⟩ := bindE h
        refine aw_gR C fl_X10_26 rfl hv11 dX10_came_50 ?_
        obtain ⟨v12, hv12, h⟩ := bindE h
        refine aw_gR C fl_X10_260 rfl hv12 dX10_came_53 ?_
        refine aw_iload_n C 2 dX10_came_56 rfl rfl ?_
        obtain ⟨v13, hv13, h⟩ := bindE h
        refine aw_aR C (by decide) (ty := .object RX5) rfl rfl hv13 dX10_came_57 ?_
        refine aw_iload_n C 3 dX10_came_58 rfl rfl ?_
        obtain ⟨μ14, hμ14, h⟩ := bindE h
        refine aw_pI C fl_X10_279 rfl hμ14 dX10_came_59 ?_
        refine aw_iload_n C 0 dX10_came_62 rfl rfl ?_
        obtain ⟨e8, e9⟩ := inj2 h
        subst e8
        subst e9
        exact hret _ _ dX10_came_63
      · rw [if_neg c10] at h
        refine aw_sipush C ((-1003)) dX10_came_45 (by decide) ?_
        obtain ⟨e8, e9⟩ := inj2 h
        subst e8
        subst e9
        exact hret _ _ dX10_came_48
    · rw [if_pos c5] at h
      refine aw_sipush C ((-1002)) dX10_came_24 (by decide) ?_
      obtain ⟨e8, e9⟩ := inj2 h
      subst e8
      subst e9
      exact hret _ _ dX10_came_27
  · rw [if_pos c4] at h
    refine aw_sipush C ((-1001)) dX10_came_11 (by decide) ?_
    obtain ⟨e8, e9⟩ := inj2 h
    subst e8
    subst e9
    exact hret _ _ dX10_came_14
set_option maxRecDepth 100000 in
set_option maxHeartbeats 4000000 in
theorem mt_X10_came {G : GL} {l : Launch} {a0 : Nat} {x1 : Int32} {x2 : Int32} {μ : Mem} {r : Int32} {μ' : Mem} (h : X10_came a0 x1 x2 μ = some (r, μ')) : MtI G l yX10_came cX10_came 4 (some .int) rm_X10_came false [.ref (gZ G + a0), .int x1, .int x2] μ r μ' := met_I (by decide) rfl rfl (Nat.le_of_ble_eq_true rfl) (fun X _ C _ _ hret => wk_X10_came C h hret)
set_option maxRecDepth 100000 in
set_option maxHeartbeats 4000000 in
theorem wk_X10_saying {G : GL} {X : CX} {a0 : Nat} {x1 : Int32} {x2 : Int32} {μ : Mem} {r : Int32} (C : Ctx G X cX10_saying 4 RX10 rm_X10_saying) (h : X10_saying a0 x1 x2 μ = some r) (hret : RtI G 4 X cX10_saying 0 0 r μ) : AW G 4 X 0 0 0 [(0, .ref (gZ G + a0)), (1, .int x1), (2, .int x2)] [] μ := by
  unfold X10_saying at h
  refine aw_aload_n C 0 dX10_saying_0 rfl rfl ?_
  obtain ⟨v1, hv1, h⟩ := bindE h
  refine aw_gR C fl_X10_26 rfl hv1 dX10_saying_1 ?_
  refine aw_iload_n C 1 dX10_saying_4 rfl rfl ?_
  obtain ⟨g2, hg2, h⟩ := bindE h
  obtain ⟨v3, hv3, h⟩ := bindE h
  refine aw_cV_I C [.int x1] _ (mt_X0_hasSaying hv3) cs_X0_hasSaying ml_X10_276 im_X0_hasSaying se_X0_hasSaying (ci := 0) rfl rfl hg2 ⟨by decide, by decide⟩ ⟨rfl, rfl⟩ ⟨Nat.zero_le _, Nat.zero_le _⟩ rfl rfl (Nat.le_of_ble_eq_true rfl) dX10_saying_5 ?_
  refine aw_if_ne C 15 dX10_saying_8 (by decide) (fun c4 => ?_) (fun c4 => ?_)
  · rw [if_neg c4] at h
    refine aw_aload_n C 0 dX10_saying_15 rfl rfl ?_
    obtain ⟨v5, hv5, h⟩ := bindE h
    refine aw_gR C fl_X10_26 rfl hv5 dX10_saying_16 ?_
    obtain ⟨v6, hv6, h⟩ := bindE h
    refine aw_gR C fl_X10_260 rfl hv6 dX10_saying_19 ?_
    refine aw_iload_n C 1 dX10_saying_22 rfl rfl ?_
    obtain ⟨v7, hv7, h⟩ := bindE h
    refine aw_aR C (by decide) (ty := .object RX5) rfl rfl hv7 dX10_saying_23 ?_
    refine aw_astore_n C [(3, .ref (gZ G + v7)), (0, .ref (gZ G + a0)), (1, .int x1), (2, .int x2)] dX10_saying_24 rfl (by decide) rfl ?_
    refine aw_iload_n C 3 dX10_saying_25 rfl rfl ?_
    by_cases c8 : x2 = Int32.ofNat 0
    · rw [if_pos c8] at h
      refine aw_tin C (0) 64 c8 dX10_saying_26 (by decide) (by decide) rfl (by decide) ?_
      refine aw_aload_n C 0 dX10_saying_64 rfl rfl ?_
      obtain ⟨v9, hv9, h⟩ := bindE h
      refine aw_gI C fl_X10_264 rfl hv9 dX10_saying_65 ?_
      have e9 := inj1 h
      subst e9
      exact hret _ _ dX10_saying_68
    · rw [if_neg c8] at h
      by_cases c10 : x2 = Int32.ofNat 1
      · rw [if_pos c10] at h
        refine aw_tin C (1) 69 c10 dX10_saying_26 (by decide) (by decide) rfl (by decide) ?_
        refine aw_aload_n C 0 dX10_saying_69 rfl rfl ?_
        obtain ⟨v11, hv11, h⟩ := bindE h
        refine aw_gI C fl_X10_269 rfl hv11 dX10_saying_70 ?_
        have e9 := inj1 h
        subst e9
        exact hret _ _ dX10_saying_73
      · rw [if_neg c10] at h
        by_cases c12 : x2 = Int32.ofNat 2
        · rw [if_pos c12] at h
          refine aw_tin C (2) 74 c12 dX10_saying_26 (by decide) (by decide) rfl (by decide) ?_
          refine aw_aload_n C 0 dX10_saying_74 rfl rfl ?_
          obtain ⟨v13, hv13, h⟩ := bindE h
          refine aw_gI C fl_X10_272 rfl hv13 dX10_saying_75 ?_
          have e9 := inj1 h
          subst e9
          exact hret _ _ dX10_saying_78
        · rw [if_neg c12] at h
          by_cases c14 : x2 = Int32.ofNat 3
          · rw [if_pos c14] at h
            refine aw_tin C (3) 79 c14 dX10_saying_26 (by decide) (by decide) rfl (by decide) ?_
            refine aw_aload_n C 0 dX10_saying_79 rfl rfl ?_
            obtain ⟨v15, hv15, h⟩ := bindE h
            refine aw_gI C fl_X10_275 rfl hv15 dX10_saying_80 ?_
            have e9 := inj1 h
            subst e9
            exact hret _ _ dX10_saying_83
          · rw [if_neg c14] at h
            by_cases c16 : x2 = Int32.ofNat 4
            · rw [if_pos c16] at h
              refine aw_tin C (4) 84 c16 dX10_saying_26 (by decide) (by decide) rfl (by decide) ?_
              refine aw_aload_n C 0 dX10_saying_84 rfl rfl ?_
              obtain ⟨v17, hv17, h⟩ := bindE h
              refine aw_gI C fl_X10_279 rfl hv17 dX10_saying_85 ?_
              have e9 := inj1 h
              subst e9
              exact hret _ _ dX10_saying_88
            · rw [if_neg c16] at h
              by_cases c18 : x2 = Int32.ofNat 5
              · rw [if_pos c18] at h
                refine aw_tin C (5) 89 c18 dX10_saying_26 (by decide) (by decide) rfl (by decide) ?_
                refine aw_aload_n C 0 dX10_saying_89 rfl rfl ?_
                obtain ⟨v19, hv19, h⟩ := bindE h
                refine aw_gI C fl_X10_269 rfl hv19 dX10_saying_90 ?_
                refine aw_aload_n C 1 dX10_saying_93 rfl rfl ?_
                obtain ⟨v20, hv20, h⟩ := bindE h
                refine aw_gR C fl_X10_26 rfl hv20 dX10_saying_94 ?_
                obtain ⟨g21, hg21, h⟩ := bindE h
                obtain ⟨v22, hv22, h⟩ := bindE h
                refine aw_cV_I C [] _ (mt_X0_deadThings hv22) cs_X0_deadThings ml_X10_282 im_X0_deadThings se_X0_deadThings (ci := 0) rfl rfl hg21 ⟨by decide, by decide⟩ ⟨rfl, rfl⟩ ⟨Nat.zero_le _, Nat.zero_le _⟩ rfl rfl (Nat.le_of_ble_eq_true rfl) dX10_saying_97 ?_
                refine aw_iand C dX10_saying_100 ?_
                have e9 := inj1 h
                subst e9
                exact hret _ _ dX10_saying_101
              · rw [if_neg c18] at h
                refine aw_tout C 102 dX10_saying_26 (tsw_out 6 (by decide) (fun k hk => by rcases (show k = 0 ∨ k = 1 ∨ k = 2 ∨ k = 3 ∨ k = 4 ∨ k = 5 by omega) with rfl | rfl | rfl | rfl | rfl | rfl <;> assumption)) (by decide) ?_
                refine aw_sipush C ((-1002)) dX10_saying_102 (by decide) ?_
                have e9 := inj1 h
                subst e9
                exact hret _ _ dX10_saying_105
  · rw [if_pos c4] at h
    refine aw_sipush C ((-1001)) dX10_saying_11 (by decide) ?_
    have e9 := inj1 h
    subst e9
    exact hret _ _ dX10_saying_14
set_option maxRecDepth 100000 in
set_option maxHeartbeats 4000000 in
theorem mt_X10_saying {G : GL} {l : Launch} {a0 : Nat} {x1 : Int32} {x2 : Int32} {μ : Mem} {r : Int32} (h : X10_saying a0 x1 x2 μ = some r) : MtI G l yX10_saying cX10_saying 4 (some .int) rm_X10_saying false [.ref (gZ G + a0), .int x1, .int x2] μ r μ := met_I (by decide) rfl rfl (Nat.le_of_ble_eq_true rfl) (fun X _ C _ _ hret => wk_X10_saying C h hret)
set_option maxRecDepth 100000 in
set_option maxHeartbeats 4000000 in
theorem X10_choose_L16_ok {G : GL} {X : CX} (C : Ctx G X cX10_choose 5 RX10 rm_X10_choose) (x0 : Int32) (x1 : Int32) (μ : Mem) : ∀ (n : Nat) (j2 : Int64) (x4 : Int32) (z : Int64 × Int32), X10_choose_L16 x0 x1 μ n j2 x4 = some z → AW G 5 X 0 0 42 [(0, .int x0), (1, .int x1), (2, .long z.1), (4, .int z.2)] [] μ → AW G 5 X 0 0 16 [(0, .int x0), (1, .int x1), (2, .long j2), (4, .int x4)] [] μ := by
  intro n
  induction n with
  | zero =>
    intro j2 x4 z h kx
    rw [X10_choose_L16] at h
    cases h
  | succ n ih =>
    intro j2 x4 z h kx
    rw [X10_choose_L16] at h
    refine aw_iload C 3 dX10_choose_16 rfl ?_
    refine aw_iload_n C 1 dX10_choose_18 rfl rfl ?_
    refine aw_icmp_gt C 42 dX10_choose_19 (by decide) (fun c1 => ?_) (fun c1 => ?_)
    · rw [if_pos c1] at h
      have e9 := inj1 h
      subst e9
      exact aw_sub [0, 1, 2, 3] rfl kx
    · rw [if_neg c1] at h
      refine aw_lload_n C 2 dX10_choose_22 rfl rfl ?_
      refine aw_iload_n C 0 dX10_choose_23 rfl rfl ?_
      refine aw_iload_n C 1 dX10_choose_24 rfl rfl ?_
      refine aw_isub C dX10_choose_25 ?_
      refine aw_iload C 3 dX10_choose_26 rfl ?_
      refine aw_iadd C dX10_choose_28 ?_
      refine aw_i2l C dX10_choose_29 ?_
      refine aw_lmul C dX10_choose_30 ?_
      refine aw_iload C 3 dX10_choose_31 rfl ?_
      refine aw_i2l C dX10_choose_33 ?_
      obtain ⟨v2, hv2, h⟩ := bindE h
      refine aw_ldiv C hv2 dX10_choose_34 ?_
      refine aw_lstore_n C [(2, .long v2), (0, .int x0), (1, .int x1), (4, .int x4)] dX10_choose_35 rfl (by decide) rfl ?_
      refine aw_iinc C (x4 + 1) 3 [(4, .int (x4 + 1)), (2, .long v2), (0, .int x0), (1, .int x1)] dX10_choose_36 rfl rfl (by decide) rfl ?_
      refine aw_goto C 16 dX10_choose_39 (by decide) ?_
      exact aw_sub [2, 3, 1, 0] rfl (ih _ _ _ h kx)
set_option maxRecDepth 100000 in
set_option maxHeartbeats 4000000 in
theorem wk_X10_choose {G : GL} {X : CX} {x0 : Int32} {x1 : Int32} {μ : Mem} {r : Int64} (C : Ctx G X cX10_choose 5 RX10 rm_X10_choose) (h : X10_choose x0 x1 μ = some r) (hret : RtJ G 5 X cX10_choose 0 0 r μ) : AW G 5 X 0 0 0 [(0, .int x0), (1, .int x1)] [] μ := by
  unfold X10_choose at h
  refine aw_iload_n C 1 dX10_choose_0 rfl rfl ?_
  refine aw_if_lt C 9 dX10_choose_1 (by decide) (fun c1 => ?_) (fun c1 => ?_)
  · rw [if_pos c1] at h
    refine aw_lconst C 0 dX10_choose_9 (by decide) ?_
    have e9 := inj1 h
    subst e9
    exact hret _ _ dX10_choose_10
  · rw [if_neg c1] at h
    refine aw_iload_n C 1 dX10_choose_4 rfl rfl ?_
    refine aw_iload_n C 0 dX10_choose_5 rfl rfl ?_
    refine aw_icmp_le C 11 dX10_choose_6 (by decide) (fun c2 => ?_) (fun c2 => ?_)
    · rw [if_pos c2] at h
      refine aw_lconst C 1 dX10_choose_11 (by decide) ?_
      refine aw_lstore_n C [(2, .long 1), (0, .int x0), (1, .int x1)] dX10_choose_12 rfl (by decide) rfl ?_
      refine aw_iconst C 1 dX10_choose_13 (by decide) ?_
      refine aw_istore C [(4, .int 1), (2, .long 1), (0, .int x0), (1, .int x1)] dX10_choose_14 (by decide) rfl ?_
      obtain ⟨z3, hz3, h⟩ := bindE h
      refine aw_sub [2, 3, 1, 0] rfl ?_
      refine X10_choose_L16_ok C _ _ _ _ _ _ _ hz3 ?_
      refine aw_lload_n C 2 dX10_choose_42 rfl rfl ?_
      have e9 := inj1 h
      subst e9
      exact hret _ _ dX10_choose_43
    · rw [if_neg c2] at h
      refine aw_lconst C 0 dX10_choose_9 (by decide) ?_
      have e9 := inj1 h
      subst e9
      exact hret _ _ dX10_choose_10
set_option maxRecDepth 100000 in
set_option maxHeartbeats 4000000 in
theorem mt_X10_choose {G : GL} {l : Launch} {x0 : Int32} {x1 : Int32} {μ : Mem} {r : Int64} (h : X10_choose x0 x1 μ = some r) : MtJ G l yX10_choose cX10_choose 5 (some .long) rm_X10_choose false [.int x0, .int x1] μ r μ := met_J (by decide) rfl (Nat.le_of_ble_eq_true rfl) (fun X _ C _ _ hret => wk_X10_choose C h hret)
set_option maxRecDepth 100000 in
set_option maxHeartbeats 4000000 in
theorem X10_commonPart_L9_ok {G : GL} {X : CX} (C : Ctx G X cX10_commonPart 11 RX10 rm_X10_commonPart) (μ : Mem) : ∀ (n : Nat) (j4 : Int64) (j6 : Int64) (x8 : Int32) (z : Int64 × Int64 × Int32), X10_commonPart_L9 μ n j4 j6 x8 = some z → AW G 11 X 0 0 45 [(4, .long z.1), (6, .long z.2.1), (8, .int z.2.2)] [] μ → AW G 11 X 0 0 9 [(4, .long j4), (6, .long j6), (8, .int x8)] [] μ := by
  intro n
  induction n with
  | zero =>
    intro j4 j6 x8 z h kx
    rw [X10_commonPart_L9] at h
    cases h
  | succ n ih =>
    intro j4 j6 x8 z h kx
    rw [X10_commonPart_L9] at h
    refine aw_iload C 2 dX10_commonPart_9 rfl ?_
    refine aw_sipush C 200 dX10_commonPart_11 (by decide) ?_
    refine aw_icmp_ge C 45 dX10_commonPart_14 (by decide) (fun c1 => ?_) (fun c1 => ?_)
    · rw [if_pos c1] at h
      have e9 := inj1 h
      subst e9
      exact aw_sub [0, 1, 2] rfl kx
    · rw [if_neg c1] at h
      refine aw_lload C 1 dX10_commonPart_17 rfl ?_
      refine aw_lconst C 0 dX10_commonPart_19 (by decide) ?_
      refine aw_lcmp C dX10_commonPart_20 ?_
      refine aw_if_eq C 45 dX10_commonPart_21 (by decide) (fun c2 => ?_) (fun c2 => ?_)
      · rw [if_pos c2] at h
        have e9 := inj1 h
        subst e9
        exact aw_sub [0, 1, 2] rfl kx
      · rw [if_neg c2] at h
        refine aw_lload C 0 dX10_commonPart_24 rfl ?_
        refine aw_lload C 1 dX10_commonPart_26 rfl ?_
        obtain ⟨v3, hv3, h⟩ := bindE h
        refine aw_lrem C hv3 dX10_commonPart_28 ?_
        refine aw_lstore C [(9, .long v3), (4, .long j4), (6, .long j6), (8, .int x8)] dX10_commonPart_29 (by decide) rfl ?_
        refine aw_lload C 2 dX10_commonPart_31 rfl ?_
        refine aw_lstore C [(4, .long j6), (9, .long v3), (6, .long j6), (8, .int x8)] dX10_commonPart_33 (by decide) rfl ?_
        refine aw_lload C 1 dX10_commonPart_35 rfl ?_
        refine aw_lstore C [(6, .long v3), (4, .long j6), (9, .long v3), (8, .int x8)] dX10_commonPart_37 (by decide) rfl ?_
        refine aw_iinc C (x8 + 1) 3 [(8, .int (x8 + 1)), (6, .long v3), (4, .long j6), (9, .long v3)] dX10_commonPart_39 rfl rfl (by decide) rfl ?_
        refine aw_goto C 9 dX10_commonPart_42 (by decide) ?_
        exact aw_sub [2, 1, 0] rfl (ih _ _ _ _ h kx)
set_option maxRecDepth 100000 in
set_option maxHeartbeats 4000000 in
theorem wk_X10_commonPart {G : GL} {X : CX} {j0 : Int64} {j2 : Int64} {μ : Mem} {r : Int64} (C : Ctx G X cX10_commonPart 11 RX10 rm_X10_commonPart) (h : X10_commonPart j0 j2 μ = some r) (hret : RtJ G 11 X cX10_commonPart 0 0 r μ) : AW G 11 X 0 0 0 [(0, .long j0), (2, .long j2)] [] μ := by
  unfold X10_commonPart at h
  refine aw_lload_n C 0 dX10_commonPart_0 rfl rfl ?_
  refine aw_lstore C [(4, .long j0), (0, .long j0), (2, .long j2)] dX10_commonPart_1 (by decide) rfl ?_
  refine aw_lload_n C 2 dX10_commonPart_3 rfl rfl ?_
  refine aw_lstore C [(6, .long j2), (4, .long j0), (0, .long j0), (2, .long j2)] dX10_commonPart_4 (by decide) rfl ?_
  refine aw_iconst C 0 dX10_commonPart_6 (by decide) ?_
  refine aw_istore C [(8, .int 0), (6, .long j2), (4, .long j0), (0, .long j0), (2, .long j2)] dX10_commonPart_7 (by decide) rfl ?_
  obtain ⟨z1, hz1, h⟩ := bindE h
  refine aw_sub [2, 1, 0] rfl ?_
  refine X10_commonPart_L9_ok C _ _ _ _ _ _ hz1 ?_
  refine aw_lload C 0 dX10_commonPart_45 rfl ?_
  have e9 := inj1 h
  subst e9
  exact hret _ _ dX10_commonPart_47
set_option maxRecDepth 100000 in
set_option maxHeartbeats 4000000 in
theorem mt_X10_commonPart {G : GL} {l : Launch} {j0 : Int64} {j2 : Int64} {μ : Mem} {r : Int64} (h : X10_commonPart j0 j2 μ = some r) : MtJ G l yX10_commonPart cX10_commonPart 11 (some .long) rm_X10_commonPart false [.long j0, .long j2] μ r μ := met_J (by decide) rfl (Nat.le_of_ble_eq_true rfl) (fun X _ C _ _ hret => wk_X10_commonPart C h hret)
set_option maxRecDepth 100000 in
set_option maxHeartbeats 4000000 in
theorem X10_chance_L17_ok {G : GL} {X : CX} (C : Ctx G X cX10_chance 11 RX10 rm_X10_chance) (x0 : Int32) (x1 : Int32) (x2 : Int32) (x3 : Int32) (x4 : Int32) (j5 : Int64) (μ : Mem) : ∀ (n : Nat) (j7 : Int64) (x9 : Int32) (z : Int64 × Int32), X10_chance_L17 x0 x1 x2 x3 x4 j5 μ n j7 x9 = some z → AW G 11 X 0 0 51 [(0, .int x0), (1, .int x1), (2, .int x2), (3, .int x3), (4, .int x4), (5, .long j5), (7, .long z.1), (9, .int z.2)] [] μ → AW G 11 X 0 0 17 [(0, .int x0), (1, .int x1), (2, .int x2), (3, .int x3), (4, .int x4), (5, .long j5), (7, .long j7), (9, .int x9)] [] μ := by
  intro n
  induction n with
  | zero =>
    intro j7 x9 z h kx
    rw [X10_chance_L17] at h
    cases h
  | succ n ih =>
    intro j7 x9 z h kx
    rw [X10_chance_L17] at h
    refine aw_iload C 7 dX10_chance_17 rfl ?_
    refine aw_iload_n C 1 dX10_chance_19 rfl rfl ?_
    refine aw_icmp_gt C 51 dX10_chance_20 (by decide) (fun c1 => ?_) (fun c1 => ?_)
    · rw [if_pos c1] at h
      have e9 := inj1 h
      subst e9
      exact aw_sub [0, 1, 2, 3, 4, 5, 6, 7] rfl kx
    · rw [if_neg c1] at h
      refine aw_lload C 6 dX10_chance_23 rfl ?_
      refine aw_iload_n C 1 dX10_chance_25 rfl rfl ?_
      refine aw_iload C 7 dX10_chance_26 rfl ?_
      obtain ⟨v2, hv2, h⟩ := bindE h
      refine aw_cS_J C [.int x1, .int x9] _ (mt_X10_choose hv2) cs_X10_choose ml_X10_296 st_X10_choose ⟨by decide, by decide⟩ ⟨rfl, rfl⟩ ⟨Nat.zero_le _, Nat.zero_le _⟩ rfl rfl (Nat.le_of_ble_eq_true rfl) dX10_chance_28 ?_
      refine aw_iload_n C 3 dX10_chance_31 rfl rfl ?_
      refine aw_iload_n C 0 dX10_chance_32 rfl rfl ?_
      refine aw_iload_n C 2 dX10_chance_33 rfl rfl ?_
      refine aw_iadd C dX10_chance_34 ?_
      refine aw_iload C 7 dX10_chance_35 rfl ?_
      refine aw_isub C dX10_chance_37 ?_
      obtain ⟨v3, hv3, h⟩ := bindE h
      refine aw_cS_J C [.int x3, .int ((x0 + x2) - x9)] _ (mt_X10_choose hv3) cs_X10_choose ml_X10_296 st_X10_choose ⟨by decide, by decide⟩ ⟨rfl, rfl⟩ ⟨Nat.zero_le _, Nat.zero_le _⟩ rfl rfl (Nat.le_of_ble_eq_true rfl) dX10_chance_38 ?_
      refine aw_lmul C dX10_chance_41 ?_
      refine aw_ladd C dX10_chance_42 ?_
      obtain ⟨v4, ev4, h⟩ := bindS h
      refine aw_topj ev4 ?_
      refine aw_lstore C [(7, .long v4), (0, .int x0), (1, .int x1), (2, .int x2), (3, .int x3), (4, .int x4), (5, .long j5), (9, .int x9)] dX10_chance_43 (by decide) rfl ?_
      refine aw_iinc C (x9 + 1) 7 [(9, .int (x9 + 1)), (7, .long v4), (0, .int x0), (1, .int x1), (2, .int x2), (3, .int x3), (4, .int x4), (5, .long j5)] dX10_chance_45 rfl rfl (by decide) rfl ?_
      refine aw_goto C 17 dX10_chance_48 (by decide) ?_
      exact aw_sub [2, 3, 4, 5, 6, 7, 1, 0] rfl (ih _ _ _ h kx)
set_option maxRecDepth 100000 in
set_option maxHeartbeats 4000000 in
theorem wk_X10_chance {G : GL} {X : CX} {x0 : Int32} {x1 : Int32} {x2 : Int32} {x3 : Int32} {x4 : Int32} {μ : Mem} {r : Int32} (C : Ctx G X cX10_chance 11 RX10 rm_X10_chance) (h : X10_chance x0 x1 x2 x3 x4 μ = some r) (hret : RtI G 11 X cX10_chance 0 0 r μ) : AW G 11 X 0 0 0 [(0, .int x0), (1, .int x1), (2, .int x2), (3, .int x3), (4, .int x4)] [] μ := by
  unfold X10_chance at h
  refine aw_iload_n C 1 dX10_chance_0 rfl rfl ?_
  refine aw_iload_n C 3 dX10_chance_1 rfl rfl ?_
  refine aw_iadd C dX10_chance_2 ?_
  refine aw_iload_n C 0 dX10_chance_3 rfl rfl ?_
  refine aw_iload_n C 2 dX10_chance_4 rfl rfl ?_
  refine aw_iadd C dX10_chance_5 ?_
  obtain ⟨v1, hv1, h⟩ := bindE h
  refine aw_cS_J C [.int (x1 + x3), .int (x0 + x2)] _ (mt_X10_choose hv1) cs_X10_choose ml_X10_296 st_X10_choose ⟨by decide, by decide⟩ ⟨rfl, rfl⟩ ⟨Nat.zero_le _, Nat.zero_le _⟩ rfl rfl (Nat.le_of_ble_eq_true rfl) dX10_chance_6 ?_
  refine aw_lstore C [(5, .long v1), (0, .int x0), (1, .int x1), (2, .int x2), (3, .int x3), (4, .int x4)] dX10_chance_9 (by decide) rfl ?_
  refine aw_lconst C 0 dX10_chance_11 (by decide) ?_
  refine aw_lstore C [(7, .long 0), (5, .long v1), (0, .int x0), (1, .int x1), (2, .int x2), (3, .int x3), (4, .int x4)] dX10_chance_12 (by decide) rfl ?_
  refine aw_iload_n C 2 dX10_chance_14 rfl rfl ?_
  refine aw_istore C [(9, .int x0), (7, .long 0), (5, .long v1), (0, .int x0), (1, .int x1), (2, .int x2), (3, .int x3), (4, .int x4)] dX10_chance_15 (by decide) rfl ?_
  obtain ⟨z2, hz2, h⟩ := bindE h
  refine aw_sub [3, 4, 5, 6, 7, 2, 1, 0] rfl ?_
  refine X10_chance_L17_ok C _ _ _ _ _ _ _ _ _ _ _ hz2 ?_
  refine aw_lload C 6 dX10_chance_51 rfl ?_
  refine aw_lload C 5 dX10_chance_53 rfl ?_
  obtain ⟨v3, hv3, h⟩ := bindE h
  refine aw_cS_J C [.long z2.1, .long v1] _ (mt_X10_commonPart hv3) cs_X10_commonPart ml_X10_300 st_X10_commonPart ⟨by decide, by decide⟩ ⟨rfl, rfl⟩ ⟨Nat.zero_le _, Nat.zero_le _⟩ rfl rfl (Nat.le_of_ble_eq_true rfl) dX10_chance_55 ?_
  refine aw_lstore C [(9, .long v3), (0, .int x0), (1, .int x1), (2, .int x2), (3, .int x3), (4, .int x4), (5, .long v1), (7, .long z2.1)] dX10_chance_58 (by decide) rfl ?_
  refine aw_lload C 0 dX10_chance_60 rfl ?_
  refine aw_lconst C 0 dX10_chance_62 (by decide) ?_
  refine aw_lcmp C dX10_chance_63 ?_
  refine aw_if_gt C 71 dX10_chance_64 (by decide) (fun c4 => ?_) (fun c4 => ?_)
  · rw [if_pos c4] at h
    refine aw_iload C 5 dX10_chance_71 rfl ?_
    obtain ⟨v6, ev6, h⟩ := bindS h
    have kj73 : AW G 11 X 0 0 83 [(9, .long v3)] [.long v6] μ := by
      refine aw_lload C 0 dX10_chance_83 rfl ?_
      obtain ⟨v7, hv7, h⟩ := bindE h
      refine aw_ldiv C hv7 dX10_chance_85 ?_
      refine aw_l2i C dX10_chance_86 ?_
      have e9 := inj1 h
      subst e9
      exact hret _ _ dX10_chance_87
    clear h
    refine aw_if_eq C 81 dX10_chance_73 (by decide) (fun c5 => ?_) (fun c5 => ?_)
    · refine aw_lload C 6 dX10_chance_81 rfl ?_
      rw [if_pos c5] at ev6
      subst ev6
      exact aw_sub [0] rfl kj73
    · refine aw_lload C 7 dX10_chance_76 rfl ?_
      refine aw_goto C 83 dX10_chance_78 (by decide) ?_
      rw [if_neg c5] at ev6
      subst ev6
      exact aw_sub [0] rfl kj73
  · rw [if_neg c4] at h
    refine aw_sipush C ((-1003)) dX10_chance_67 (by decide) ?_
    have e9 := inj1 h
    subst e9
    exact hret _ _ dX10_chance_70
set_option maxRecDepth 100000 in
set_option maxHeartbeats 4000000 in
theorem mt_X10_chance {G : GL} {l : Launch} {x0 : Int32} {x1 : Int32} {x2 : Int32} {x3 : Int32} {x4 : Int32} {μ : Mem} {r : Int32} (h : X10_chance x0 x1 x2 x3 x4 μ = some r) : MtI G l yX10_chance cX10_chance 11 (some .int) rm_X10_chance false [.int x0, .int x1, .int x2, .int x3, .int x4] μ r μ := met_I (by decide) rfl rfl (Nat.le_of_ble_eq_true rfl) (fun X _ C _ _ hret => wk_X10_chance C h hret)
set_option maxRecDepth 100000 in
set_option maxHeartbeats 4000000 in
theorem wk_X10_learnt {G : GL} {X : CX} {a0 : Nat} {x1 : Int32} {x2 : Int32} {x3 : Int32} {μ : Mem} {r : Int32} (C : Ctx G X cX10_learnt 8 RX10 rm_X10_learnt) (h : X10_learnt a0 x1 x2 x3 μ = some r) (hret : RtI G 8 X cX10_learnt 0 0 r μ) : AW G 8 X 0 0 0 [(0, .ref (gZ G + a0)), (1, .int x1), (2, .int x2), (3, .int x3)] [] μ := by
  unfold X10_learnt at h
  refine aw_iload_n C 1 dX10_learnt_0 rfl rfl ?_
  refine aw_cS_I C [.int x1] _ (mt_X10_isWay _) cs_X10_isWay ml_X10_181 st_X10_isWay ⟨by decide, by decide⟩ ⟨rfl, rfl⟩ ⟨Nat.zero_le _, Nat.zero_le _⟩ rfl rfl (Nat.le_of_ble_eq_true rfl) dX10_learnt_1 ?_
  refine aw_if_eq C 28 dX10_learnt_4 (by decide) (fun c1 => ?_) (fun c1 => ?_)
  · rw [if_pos c1] at h
    refine aw_sipush C ((-1002)) dX10_learnt_28 (by decide) ?_
    have e9 := inj1 h
    subst e9
    exact hret _ _ dX10_learnt_31
  · rw [if_neg c1] at h
    refine aw_iload_n C 2 dX10_learnt_7 rfl rfl ?_
    refine aw_cS_I C [.int x2] _ (mt_X10_isWay _) cs_X10_isWay ml_X10_181 st_X10_isWay ⟨by decide, by decide⟩ ⟨rfl, rfl⟩ ⟨Nat.zero_le _, Nat.zero_le _⟩ rfl rfl (Nat.le_of_ble_eq_true rfl) dX10_learnt_8 ?_
    refine aw_if_eq C 28 dX10_learnt_11 (by decide) (fun c2 => ?_) (fun c2 => ?_)
    · rw [if_pos c2] at h
      refine aw_sipush C ((-1002)) dX10_learnt_28 (by decide) ?_
      have e9 := inj1 h
      subst e9
      exact hret _ _ dX10_learnt_31
    · rw [if_neg c2] at h
      refine aw_iload_n C 1 dX10_learnt_14 rfl rfl ?_
      refine aw_iload_n C 2 dX10_learnt_15 rfl rfl ?_
      refine aw_icmp_eq C 28 dX10_learnt_16 (by decide) (fun c3 => ?_) (fun c3 => ?_)
      · rw [if_pos c3] at h
        refine aw_sipush C ((-1002)) dX10_learnt_28 (by decide) ?_
        have e9 := inj1 h
        subst e9
        exact hret _ _ dX10_learnt_31
      · rw [if_neg c3] at h
        refine aw_iload_n C 3 dX10_learnt_19 rfl rfl ?_
        refine aw_iconst C 0 dX10_learnt_20 (by decide) ?_
        refine aw_iconst C 5 dX10_learnt_21 (by decide) ?_
        refine aw_cS_I C [.int x3, .int 0, .int 5] _ (mt_X10_within _ _ _) cs_X10_within ml_X10_90 st_X10_within ⟨by decide, by decide⟩ ⟨rfl, rfl⟩ ⟨Nat.zero_le _, Nat.zero_le _⟩ rfl rfl (Nat.le_of_ble_eq_true rfl) dX10_learnt_22 ?_
        refine aw_if_ne C 32 dX10_learnt_25 (by decide) (fun c4 => ?_) (fun c4 => ?_)
        · rw [if_neg c4] at h
          refine aw_aload_n C 0 dX10_learnt_32 rfl rfl ?_
          obtain ⟨v5, hv5, h⟩ := bindE h
          refine aw_gR C fl_X10_26 rfl hv5 dX10_learnt_33 ?_
          refine aw_iload_n C 1 dX10_learnt_36 rfl rfl ?_
          obtain ⟨g6, hg6, h⟩ := bindE h
          obtain ⟨v7, hv7, h⟩ := bindE h
          refine aw_cV_I C [.int x1] _ (mt_X0_lookedAtBy hv7) cs_X0_lookedAtBy ml_X10_286 im_X0_lookedAtBy se_X0_lookedAtBy (ci := 0) rfl rfl hg6 ⟨by decide, by decide⟩ ⟨rfl, rfl⟩ ⟨Nat.zero_le _, Nat.zero_le _⟩ rfl rfl (Nat.le_of_ble_eq_true rfl) dX10_learnt_37 ?_
          refine aw_istore C [(4, .int v7), (0, .ref (gZ G + a0)), (1, .int x1), (2, .int x2), (3, .int x3)] dX10_learnt_40 (by decide) rfl ?_
          refine aw_aload_n C 1 dX10_learnt_42 rfl rfl ?_
          obtain ⟨v8, hv8, h⟩ := bindE h
          refine aw_gR C fl_X10_26 rfl hv8 dX10_learnt_43 ?_
          refine aw_iload_n C 2 dX10_learnt_46 rfl rfl ?_
          obtain ⟨g9, hg9, h⟩ := bindE h
          obtain ⟨v10, hv10, h⟩ := bindE h
          refine aw_cV_I C [.int x1] _ (mt_X0_outcomesBy hv10) cs_X0_outcomesBy ml_X10_289 im_X0_outcomesBy se_X0_outcomesBy (ci := 0) rfl rfl hg9 ⟨by decide, by decide⟩ ⟨rfl, rfl⟩ ⟨Nat.zero_le _, Nat.zero_le _⟩ rfl rfl (Nat.le_of_ble_eq_true rfl) dX10_learnt_47 ?_
          refine aw_istore C [(5, .int v10), (4, .int v7), (0, .ref (gZ G + a0)), (1, .int x1), (2, .int x2), (3, .int x3)] dX10_learnt_50 (by decide) rfl ?_
          refine aw_aload_n C 2 dX10_learnt_52 rfl rfl ?_
          obtain ⟨v11, hv11, h⟩ := bindE h
          refine aw_gR C fl_X10_26 rfl hv11 dX10_learnt_53 ?_
          refine aw_iload_n C 4 dX10_learnt_56 rfl rfl ?_
          obtain ⟨g12, hg12, h⟩ := bindE h
          obtain ⟨v13, hv13, h⟩ := bindE h
          refine aw_cV_I C [.int x2] _ (mt_X0_lookedAtBy hv13) cs_X0_lookedAtBy ml_X10_286 im_X0_lookedAtBy se_X0_lookedAtBy (ci := 0) rfl rfl hg12 ⟨by decide, by decide⟩ ⟨rfl, rfl⟩ ⟨Nat.zero_le _, Nat.zero_le _⟩ rfl rfl (Nat.le_of_ble_eq_true rfl) dX10_learnt_57 ?_
          refine aw_istore C [(6, .int v13), (5, .int v10), (4, .int v7), (0, .ref (gZ G + a0)), (1, .int x1), (2, .int x2), (3, .int x3)] dX10_learnt_60 (by decide) rfl ?_
          refine aw_aload_n C 3 dX10_learnt_62 rfl rfl ?_
          obtain ⟨v14, hv14, h⟩ := bindE h
          refine aw_gR C fl_X10_26 rfl hv14 dX10_learnt_63 ?_
          refine aw_iload_n C 5 dX10_learnt_66 rfl rfl ?_
          obtain ⟨g15, hg15, h⟩ := bindE h
          obtain ⟨v16, hv16, h⟩ := bindE h
          refine aw_cV_I C [.int x2] _ (mt_X0_outcomesBy hv16) cs_X0_outcomesBy ml_X10_289 im_X0_outcomesBy se_X0_outcomesBy (ci := 0) rfl rfl hg15 ⟨by decide, by decide⟩ ⟨rfl, rfl⟩ ⟨Nat.zero_le _, Nat.zero_le _⟩ rfl rfl (Nat.le_of_ble_eq_true rfl) dX10_learnt_67 ?_
          refine aw_istore C [(7, .int v16), (6, .int v13), (5, .int v10), (4, .int v7), (0, .ref (gZ G + a0)), (1, .int x1), (2, .int x2), (3, .int x3)] dX10_learnt_70 (by decide) rfl ?_
          refine aw_iload_n C 7 dX10_learnt_72 rfl rfl ?_
          by_cases c17 : x3 = Int32.ofNat 0
          · rw [if_pos c17] at h
            refine aw_tin C (0) 104 c17 dX10_learnt_73 (by decide) (by decide) rfl (by decide) ?_
            refine aw_iload C 3 dX10_learnt_104 rfl ?_
            have e9 := inj1 h
            subst e9
            exact hret _ _ dX10_learnt_106
          · rw [if_neg c17] at h
            by_cases c18 : x3 = Int32.ofNat 1
            · rw [if_pos c18] at h
              refine aw_tin C (1) 107 c18 dX10_learnt_73 (by decide) (by decide) rfl (by decide) ?_
              refine aw_iload C 2 dX10_learnt_107 rfl ?_
              have e9 := inj1 h
              subst e9
              exact hret _ _ dX10_learnt_109
            · rw [if_neg c18] at h
              by_cases c19 : x3 = Int32.ofNat 2
              · rw [if_pos c19] at h
                refine aw_tin C (2) 110 c19 dX10_learnt_73 (by decide) (by decide) rfl (by decide) ?_
                refine aw_iload C 1 dX10_learnt_110 rfl ?_
                have e9 := inj1 h
                subst e9
                exact hret _ _ dX10_learnt_112
              · rw [if_neg c19] at h
                by_cases c20 : x3 = Int32.ofNat 3
                · rw [if_pos c20] at h
                  refine aw_tin C (3) 113 c20 dX10_learnt_73 (by decide) (by decide) rfl (by decide) ?_
                  refine aw_iload C 0 dX10_learnt_113 rfl ?_
                  have e9 := inj1 h
                  subst e9
                  exact hret _ _ dX10_learnt_115
                · rw [if_neg c20] at h
                  refine aw_tout C 116 dX10_learnt_73 (tsw_out 4 (by decide) (fun k hk => by rcases (show k = 0 ∨ k = 1 ∨ k = 2 ∨ k = 3 by omega) with rfl | rfl | rfl | rfl <;> assumption)) (by decide) ?_
                  refine aw_iload C 2 dX10_learnt_116 rfl ?_
                  refine aw_iload C 0 dX10_learnt_118 rfl ?_
                  refine aw_iadd C dX10_learnt_120 ?_
                  refine aw_bipush C 30 dX10_learnt_121 (by decide) ?_
                  obtain ⟨z25, hz25, h⟩ := bindE h
                  have kj123 : AW G 8 X 0 0 153 [] [.int z25] μ := by
                    have e9 := inj1 h
                    subst e9
                    exact hret _ _ dX10_learnt_153
                  replace h := hz25
                  refine aw_icmp_le C 132 dX10_learnt_123 (by decide) (fun c21 => ?_) (fun c21 => ?_)
                  · rw [if_pos c21] at h
                    refine aw_iload C 3 dX10_learnt_132 rfl ?_
                    refine aw_iload C 2 dX10_learnt_134 rfl ?_
                    refine aw_iload C 1 dX10_learnt_136 rfl ?_
                    refine aw_iload C 0 dX10_learnt_138 rfl ?_
                    refine aw_iload_n C 7 dX10_learnt_140 rfl rfl ?_
                    refine aw_iconst C 4 dX10_learnt_141 (by decide) ?_
                    obtain ⟨v23, ev23, h⟩ := bindS h
                    have kj142 : AW G 8 X 0 0 150 [] [.int v23, .int v16, .int v13, .int v10, .int v7] μ := by
                      obtain ⟨v24, hv24, h⟩ := bindE h
                      refine aw_cS_I C [.int v7, .int v10, .int v13, .int v16, .int v23] _ (mt_X10_chance hv24) cs_X10_chance ml_X10_292 st_X10_chance ⟨by decide, by decide⟩ ⟨rfl, rfl⟩ ⟨Nat.zero_le _, Nat.zero_le _⟩ rfl rfl (Nat.le_of_ble_eq_true rfl) dX10_learnt_150 ?_
                      have e9 := inj1 h
                      subst e9
                      exact aw_sub [] rfl kj123
                    clear h
                    refine aw_icmp_ne C 149 dX10_learnt_142 (by decide) (fun c22 => ?_) (fun c22 => ?_)
                    · refine aw_iconst C 0 dX10_learnt_149 (by decide) ?_
                      rw [if_neg c22] at ev23
                      subst ev23
                      exact aw_sub [] rfl kj142
                    · refine aw_iconst C 1 dX10_learnt_145 (by decide) ?_
                      refine aw_goto C 150 dX10_learnt_146 (by decide) ?_
                      rw [if_pos c22] at ev23
                      subst ev23
                      exact aw_sub [] rfl kj142
                  · rw [if_neg c21] at h
                    refine aw_sipush C ((-1003)) dX10_learnt_126 (by decide) ?_
                    refine aw_goto C 153 dX10_learnt_129 (by decide) ?_
                    have e9 := inj1 h
                    subst e9
                    exact aw_sub [] rfl kj123
        · rw [if_pos c4] at h
          refine aw_sipush C ((-1002)) dX10_learnt_28 (by decide) ?_
          have e9 := inj1 h
          subst e9
          exact hret _ _ dX10_learnt_31
set_option maxRecDepth 100000 in
set_option maxHeartbeats 4000000 in
theorem mt_X10_learnt {G : GL} {l : Launch} {a0 : Nat} {x1 : Int32} {x2 : Int32} {x3 : Int32} {μ : Mem} {r : Int32} (h : X10_learnt a0 x1 x2 x3 μ = some r) : MtI G l yX10_learnt cX10_learnt 8 (some .int) rm_X10_learnt false [.ref (gZ G + a0), .int x1, .int x2, .int x3] μ r μ := met_I (by decide) rfl rfl (Nat.le_of_ble_eq_true rfl) (fun X _ C _ _ hret => wk_X10_learnt C h hret)
set_option maxRecDepth 100000 in
set_option maxHeartbeats 4000000 in
theorem X10_who_L68_ok {G : GL} {X : CX} (C : Ctx G X cX10_who 7 RX10 rm_X10_who) (a0 : Nat) (x3 : Int32) : ∀ (n : Nat) (x4 : Int32) (x5 : Int32) (x6 : Int32) (μ : Mem) (z : Int32 × Int32 × Int32 × Mem), X10_who_L68 a0 x3 n x4 x5 x6 μ = some z → AW G 7 X 0 0 130 [(0, .ref (gZ G + a0)), (3, .int x3), (4, .int z.1), (5, .int z.2.1), (6, .int z.2.2.1)] [] z.2.2.2 → AW G 7 X 0 0 68 [(0, .ref (gZ G + a0)), (3, .int x3), (4, .int x4), (5, .int x5), (6, .int x6)] [] μ := by
  intro n
  induction n with
  | zero =>
    intro x4 x5 x6 μ z h kx
    rw [X10_who_L68] at h
    cases h
  | succ n ih =>
    intro x4 x5 x6 μ z h kx
    rw [X10_who_L68] at h
    refine aw_iload C 4 dX10_who_68 rfl ?_
    refine aw_iconst C 4 dX10_who_70 (by decide) ?_
    refine aw_icmp_ge C 130 dX10_who_71 (by decide) (fun c1 => ?_) (fun c1 => ?_)
    · rw [if_pos c1] at h
      have e9 := inj1 h
      subst e9
      exact aw_sub [0, 1, 2, 3, 4] rfl kx
    · rw [if_neg c1] at h
      refine aw_iload_n C 1 dX10_who_74 rfl rfl ?_
      refine aw_iload C 4 dX10_who_75 rfl ?_
      refine aw_cS_I C [.int x3, .int x6] _ (mt_X10_contains _ _) cs_X10_contains ml_X10_307 st_X10_contains ⟨by decide, by decide⟩ ⟨rfl, rfl⟩ ⟨Nat.zero_le _, Nat.zero_le _⟩ rfl rfl (Nat.le_of_ble_eq_true rfl) dX10_who_77 ?_
      obtain ⟨z14, hz14, h⟩ := bindE h
      have kj80 : AW G 7 X 0 0 124 [(0, .ref (gZ G + a0)), (3, .int x3), (4, .int z14.1), (5, .int z14.2.1), (6, .int x6)] [] z14.2.2 := by
        refine aw_iinc C (x6 + 1) 4 [(6, .int (x6 + 1)), (0, .ref (gZ G + a0)), (3, .int x3), (4, .int z14.1), (5, .int z14.2.1)] dX10_who_124 rfl rfl (by decide) rfl ?_
        refine aw_goto C 68 dX10_who_127 (by decide) ?_
        exact aw_sub [1, 2, 3, 4, 0] rfl (ih _ _ _ _ _ h kx)
      replace h := hz14
      refine aw_if_eq C 124 dX10_who_80 (by decide) (fun c2 => ?_) (fun c2 => ?_)
      · rw [if_pos c2] at h
        have e9 := inj1 h
        subst e9
        exact aw_sub [0, 1, 2, 3, 4] rfl kj80
      · rw [if_neg c2] at h
        refine aw_aload_n C 0 dX10_who_83 rfl rfl ?_
        obtain ⟨v3, hv3, h⟩ := bindE h
        refine aw_gR C fl_X10_12 rfl hv3 dX10_who_84 ?_
        refine aw_iload C 4 dX10_who_87 rfl ?_
        refine aw_aload_n C 0 dX10_who_89 rfl rfl ?_
        obtain ⟨v4, hv4, h⟩ := bindE h
        refine aw_gI C fl_X10_110 rfl hv4 dX10_who_90 ?_
        refine aw_iconst C 0 dX10_who_93 (by decide) ?_
        obtain ⟨g5, hg5, h⟩ := bindE h
        obtain ⟨μ6, hμ6, h⟩ := bindE h
        refine aw_cV_V C [.int x6, .int v4, .int 0] _ (mt_X9_lookAhead hμ6) cs_X9_lookAhead ml_X10_120 im_X9_lookAhead se_X9_lookAhead (ci := 9) rfl rfl hg5 ⟨by decide, by decide⟩ ⟨rfl, rfl⟩ ⟨Nat.zero_le _, Nat.zero_le _⟩ rfl rfl (Nat.le_of_ble_eq_true rfl) dX10_who_94 ?_
        refine aw_aload_n C 0 dX10_who_97 rfl rfl ?_
        obtain ⟨v7, hv7, h⟩ := bindE h
        refine aw_gR C fl_X10_12 rfl hv7 dX10_who_98 ?_
        refine aw_iconst C 0 dX10_who_101 (by decide) ?_
        obtain ⟨g8, hg8, h⟩ := bindE h
        obtain ⟨v9, hv9, h⟩ := bindE h
        refine aw_cV_I C [.int 0] _ (mt_X9_seamOdds hv9) cs_X9_seamOdds ml_X10_127 im_X9_seamOdds se_X9_seamOdds (ci := 9) rfl rfl hg8 ⟨by decide, by decide⟩ ⟨rfl, rfl⟩ ⟨Nat.zero_le _, Nat.zero_le _⟩ rfl rfl (Nat.le_of_ble_eq_true rfl) dX10_who_102 ?_
        refine aw_iload C 3 dX10_who_105 rfl ?_
        refine aw_icmp_le C 124 dX10_who_107 (by decide) (fun c10 => ?_) (fun c10 => ?_)
        · rw [if_pos c10] at h
          have e9 := inj1 h
          subst e9
          exact aw_sub [0, 1, 2, 3, 4] rfl kj80
        · rw [if_neg c10] at h
          refine aw_iload C 4 dX10_who_110 rfl ?_
          refine aw_istore C [(4, .int x6), (0, .ref (gZ G + a0)), (3, .int x3), (5, .int x5), (6, .int x6)] dX10_who_112 (by decide) rfl ?_
          refine aw_aload_n C 1 dX10_who_114 rfl rfl ?_
          obtain ⟨v11, hv11, h⟩ := bindE h
          refine aw_gR C fl_X10_12 rfl hv11 dX10_who_115 ?_
          refine aw_iconst C 0 dX10_who_118 (by decide) ?_
          obtain ⟨g12, hg12, h⟩ := bindE h
          obtain ⟨v13, hv13, h⟩ := bindE h
          refine aw_cV_I C [.int 0] _ (mt_X9_seamOdds hv13) cs_X9_seamOdds ml_X10_127 im_X9_seamOdds se_X9_seamOdds (ci := 9) rfl rfl hg12 ⟨by decide, by decide⟩ ⟨rfl, rfl⟩ ⟨Nat.zero_le _, Nat.zero_le _⟩ rfl rfl (Nat.le_of_ble_eq_true rfl) dX10_who_119 ?_
          refine aw_istore C [(5, .int v13), (4, .int x6), (0, .ref (gZ G + a0)), (3, .int x3), (6, .int x6)] dX10_who_122 (by decide) rfl ?_
          have e9 := inj1 h
          subst e9
          exact aw_sub [2, 3, 1, 0, 4] rfl kj80
set_option maxRecDepth 100000 in
set_option maxHeartbeats 4000000 in
theorem wk_X10_who {G : GL} {X : CX} {a0 : Nat} {x1 : Int32} {x2 : Int32} {μ : Mem} {r : Int32} {μ' : Mem} (C : Ctx G X cX10_who 7 RX10 rm_X10_who) (h : X10_who a0 x1 x2 μ = some (r, μ')) (hret : RtI G 7 X cX10_who 0 0 r μ') : AW G 7 X 0 0 0 [(0, .ref (gZ G + a0)), (1, .int x1), (2, .int x2)] [] μ := by
  unfold X10_who at h
  refine aw_aload_n C 0 dX10_who_0 rfl rfl ?_
  obtain ⟨v1, hv1, h⟩ := bindE h
  refine aw_gR C fl_X10_26 rfl hv1 dX10_who_1 ?_
  refine aw_iload_n C 1 dX10_who_4 rfl rfl ?_
  obtain ⟨g2, hg2, h⟩ := bindE h
  obtain ⟨v3, hv3, h⟩ := bindE h
  refine aw_cV_I C [.int x1] _ (mt_X0_hasThing hv3) cs_X0_hasThing ml_X10_165 im_X0_hasThing se_X0_hasThing (ci := 0) rfl rfl hg2 ⟨by decide, by decide⟩ ⟨rfl, rfl⟩ ⟨Nat.zero_le _, Nat.zero_le _⟩ rfl rfl (Nat.le_of_ble_eq_true rfl) dX10_who_5 ?_
  refine aw_if_ne C 15 dX10_who_8 (by decide) (fun c4 => ?_) (fun c4 => ?_)
  · rw [if_neg c4] at h
    refine aw_iload_n C 2 dX10_who_15 rfl rfl ?_
    refine aw_iconst C 0 dX10_who_16 (by decide) ?_
    refine aw_iconst C 1 dX10_who_17 (by decide) ?_
    refine aw_cS_I C [.int x2, .int 0, .int 1] _ (mt_X10_within _ _ _) cs_X10_within ml_X10_90 st_X10_within ⟨by decide, by decide⟩ ⟨rfl, rfl⟩ ⟨Nat.zero_le _, Nat.zero_le _⟩ rfl rfl (Nat.le_of_ble_eq_true rfl) dX10_who_18 ?_
    refine aw_if_ne C 28 dX10_who_21 (by decide) (fun c5 => ?_) (fun c5 => ?_)
    · rw [if_neg c5] at h
      refine aw_aload_n C 0 dX10_who_28 rfl rfl ?_
      obtain ⟨v6, hv6, h⟩ := bindE h
      refine aw_gR C fl_X10_26 rfl hv6 dX10_who_29 ?_
      obtain ⟨v7, hv7, h⟩ := bindE h
      refine aw_gR C fl_X10_135 rfl hv7 dX10_who_32 ?_
      refine aw_iload_n C 1 dX10_who_35 rfl rfl ?_
      obtain ⟨v8, hv8, h⟩ := bindE h
      refine aw_aR C (by decide) (ty := .object RX6) rfl rfl hv8 dX10_who_36 ?_
      obtain ⟨v9, hv9, h⟩ := bindE h
      refine aw_gI C fl_X10_139 rfl hv9 dX10_who_37 ?_
      refine aw_istore_n C [(3, .int v9), (0, .ref (gZ G + a0)), (1, .int x1), (2, .int x2)] dX10_who_40 rfl (by decide) rfl ?_
      refine aw_iload_n C 3 dX10_who_41 rfl rfl ?_
      refine aw_iconst C 1 dX10_who_42 (by decide) ?_
      obtain ⟨z14, hz14, h⟩ := bindE h
      have kj43 : AW G 7 X 0 0 59 [(0, .ref (gZ G + a0)), (3, .int z14)] [] μ := by
        refine aw_iconst C ((-1)) dX10_who_59 (by decide) ?_
        refine aw_istore C [(4, .int ((-1))), (0, .ref (gZ G + a0)), (3, .int z14)] dX10_who_60 (by decide) rfl ?_
        refine aw_iconst C ((-1)) dX10_who_62 (by decide) ?_
        refine aw_istore C [(5, .int ((-1))), (4, .int ((-1))), (0, .ref (gZ G + a0)), (3, .int z14)] dX10_who_63 (by decide) rfl ?_
        refine aw_iconst C 0 dX10_who_65 (by decide) ?_
        refine aw_istore C [(6, .int 0), (5, .int ((-1))), (4, .int ((-1))), (0, .ref (gZ G + a0)), (3, .int z14)] dX10_who_66 (by decide) rfl ?_
        obtain ⟨z15, hz15, h⟩ := bindE h
        refine aw_sub [3, 4, 2, 1, 0] rfl ?_
        refine X10_who_L68_ok C _ _ _ _ _ _ _ _ hz15 ?_
        refine aw_iload C 2 dX10_who_130 rfl ?_
        obtain ⟨e8, e9⟩ := inj2 h
        subst e8
        subst e9
        exact hret _ _ dX10_who_132
      replace h := hz14
      refine aw_icmp_ne C 59 dX10_who_43 (by decide) (fun c10 => ?_) (fun c10 => ?_)
      · rw [if_neg c10] at h
        have e9 := inj1 h
        subst e9
        exact aw_sub [1, 0] rfl kj43
      · rw [if_pos c10] at h
        refine aw_iload_n C 0 dX10_who_46 rfl rfl ?_
        refine aw_aload_n C 1 dX10_who_47 rfl rfl ?_
        obtain ⟨v11, hv11, h⟩ := bindE h
        refine aw_gR C fl_X10_26 rfl hv11 dX10_who_48 ?_
        refine aw_iload_n C 2 dX10_who_51 rfl rfl ?_
        obtain ⟨g12, hg12, h⟩ := bindE h
        obtain ⟨v13, hv13, h⟩ := bindE h
        refine aw_cV_I C [.int x1] _ (mt_X0_personsWith hv13) cs_X0_personsWith ml_X10_304 im_X0_personsWith se_X0_personsWith (ci := 0) rfl rfl hg12 ⟨by decide, by decide⟩ ⟨rfl, rfl⟩ ⟨Nat.zero_le _, Nat.zero_le _⟩ rfl rfl (Nat.le_of_ble_eq_true rfl) dX10_who_52 ?_
        refine aw_iconst C ((-1)) dX10_who_55 (by decide) ?_
        refine aw_ixor C dX10_who_56 ?_
        refine aw_iand C dX10_who_57 ?_
        refine aw_istore_n C [(3, .int (v9 &&& (v13 ^^^ ((-1))))), (0, .ref (gZ G + a0)), (1, .int x1), (2, .int x2)] dX10_who_58 rfl (by decide) rfl ?_
        have e9 := inj1 h
        subst e9
        exact aw_sub [1, 0] rfl kj43
    · rw [if_pos c5] at h
      refine aw_sipush C ((-1002)) dX10_who_24 (by decide) ?_
      obtain ⟨e8, e9⟩ := inj2 h
      subst e8
      subst e9
      exact hret _ _ dX10_who_27
  · rw [if_pos c4] at h
    refine aw_sipush C ((-1001)) dX10_who_11 (by decide) ?_
    obtain ⟨e8, e9⟩ := inj2 h
    subst e8
    subst e9
    exact hret _ _ dX10_who_14
set_option maxRecDepth 100000 in
set_option maxHeartbeats 4000000 in
theorem mt_X10_who {G : GL} {l : Launch} {a0 : Nat} {x1 : Int32} {x2 : Int32} {μ : Mem} {r : Int32} {μ' : Mem} (h : X10_who a0 x1 x2 μ = some (r, μ')) : MtI G l yX10_who cX10_who 7 (some .int) rm_X10_who false [.ref (gZ G + a0), .int x1, .int x2] μ r μ' := met_I (by decide) rfl rfl (Nat.le_of_ble_eq_true rfl) (fun X _ C _ _ hret => wk_X10_who C h hret)
set_option maxRecDepth 100000 in
set_option maxHeartbeats 4000000 in
theorem wk_X10_tried {G : GL} {X : CX} {a0 : Nat} {x1 : Int32} {x2 : Int32} {x3 : Int32} {x4 : Int32} {μ : Mem} {r : Int32} {μ' : Mem} (C : Ctx G X cX10_tried 5 RX10 rm_X10_tried) (h : X10_tried a0 x1 x2 x3 x4 μ = some (r, μ')) (hret : RtI G 5 X cX10_tried 0 0 r μ') : AW G 5 X 0 0 0 [(0, .ref (gZ G + a0)), (1, .int x1), (2, .int x2), (3, .int x3), (4, .int x4)] [] μ := by
  unfold X10_tried at h
  refine aw_iload_n C 1 dX10_tried_0 rfl rfl ?_
  refine aw_cS_I C [.int x1] _ (mt_X10_isPerson _) cs_X10_isPerson ml_X10_104 st_X10_isPerson ⟨by decide, by decide⟩ ⟨rfl, rfl⟩ ⟨Nat.zero_le _, Nat.zero_le _⟩ rfl rfl (Nat.le_of_ble_eq_true rfl) dX10_tried_1 ?_
  refine aw_if_ne C 11 dX10_tried_4 (by decide) (fun c1 => ?_) (fun c1 => ?_)
  · rw [if_neg c1] at h
    refine aw_iload_n C 2 dX10_tried_11 rfl rfl ?_
    refine aw_iconst C 0 dX10_tried_12 (by decide) ?_
    refine aw_ldc C kc_X10_131 dX10_tried_13 ?_
    refine aw_cS_I C [.int x2, .int 0, .int 1000000] _ (mt_X10_within _ _ _) cs_X10_within ml_X10_90 st_X10_within ⟨by decide, by decide⟩ ⟨rfl, rfl⟩ ⟨Nat.zero_le _, Nat.zero_le _⟩ rfl rfl (Nat.le_of_ble_eq_true rfl) dX10_tried_15 ?_
    refine aw_if_eq C 38 dX10_tried_18 (by decide) (fun c2 => ?_) (fun c2 => ?_)
    · rw [if_pos c2] at h
      refine aw_sipush C ((-1002)) dX10_tried_38 (by decide) ?_
      obtain ⟨e8, e9⟩ := inj2 h
      subst e8
      subst e9
      exact hret _ _ dX10_tried_41
    · rw [if_neg c2] at h
      refine aw_iload_n C 3 dX10_tried_21 rfl rfl ?_
      refine aw_cS_I C [.int x3] _ (mt_X10_isWay _) cs_X10_isWay ml_X10_181 st_X10_isWay ⟨by decide, by decide⟩ ⟨rfl, rfl⟩ ⟨Nat.zero_le _, Nat.zero_le _⟩ rfl rfl (Nat.le_of_ble_eq_true rfl) dX10_tried_22 ?_
      refine aw_if_eq C 38 dX10_tried_25 (by decide) (fun c3 => ?_) (fun c3 => ?_)
      · rw [if_pos c3] at h
        refine aw_sipush C ((-1002)) dX10_tried_38 (by decide) ?_
        obtain ⟨e8, e9⟩ := inj2 h
        subst e8
        subst e9
        exact hret _ _ dX10_tried_41
      · rw [if_neg c3] at h
        refine aw_iload C 4 dX10_tried_28 rfl ?_
        refine aw_iconst C 0 dX10_tried_30 (by decide) ?_
        refine aw_iconst C 3 dX10_tried_31 (by decide) ?_
        refine aw_cS_I C [.int x4, .int 0, .int 3] _ (mt_X10_within _ _ _) cs_X10_within ml_X10_90 st_X10_within ⟨by decide, by decide⟩ ⟨rfl, rfl⟩ ⟨Nat.zero_le _, Nat.zero_le _⟩ rfl rfl (Nat.le_of_ble_eq_true rfl) dX10_tried_32 ?_
        refine aw_if_ne C 42 dX10_tried_35 (by decide) (fun c4 => ?_) (fun c4 => ?_)
        · rw [if_neg c4] at h
          refine aw_aload_n C 0 dX10_tried_42 rfl rfl ?_
          obtain ⟨v5, hv5, h⟩ := bindE h
          refine aw_gR C fl_X10_62 rfl hv5 dX10_tried_43 ?_
          refine aw_iload_n C 1 dX10_tried_46 rfl rfl ?_
          refine aw_iload_n C 2 dX10_tried_47 rfl rfl ?_
          refine aw_iload_n C 3 dX10_tried_48 rfl rfl ?_
          refine aw_aload_n C 0 dX10_tried_49 rfl rfl ?_
          obtain ⟨v6, hv6, h⟩ := bindE h
          refine aw_gI C fl_X10_110 rfl hv6 dX10_tried_50 ?_
          obtain ⟨g7, hg7, h⟩ := bindE h
          obtain ⟨μ8, hμ8, h⟩ := bindE h
          refine aw_cV_V C [.int x1, .int x2, .int x3, .int v6] _ (mt_X7_run hμ8) cs_X7_run ml_X10_310 im_X7_run se_X7_run (ci := 7) rfl rfl hg7 ⟨by decide, by decide⟩ ⟨rfl, rfl⟩ ⟨Nat.zero_le _, Nat.zero_le _⟩ rfl rfl (Nat.le_of_ble_eq_true rfl) dX10_tried_53 ?_
          refine aw_iload C 4 dX10_tried_56 rfl ?_
          by_cases c9 : x4 = Int32.ofNat 0
          · rw [if_pos c9] at h
            refine aw_tin C (0) 84 c9 dX10_tried_58 (by decide) (by decide) rfl (by decide) ?_
            refine aw_aload_n C 0 dX10_tried_84 rfl rfl ?_
            obtain ⟨v10, hv10, h⟩ := bindE h
            refine aw_gR C fl_X10_62 rfl hv10 dX10_tried_85 ?_
            obtain ⟨v11, hv11, h⟩ := bindE h
            refine aw_gI C fl_X10_314 rfl hv11 dX10_tried_88 ?_
            obtain ⟨e8, e9⟩ := inj2 h
            subst e8
            subst e9
            exact hret _ _ dX10_tried_91
          · rw [if_neg c9] at h
            by_cases c12 : x4 = Int32.ofNat 1
            · rw [if_pos c12] at h
              refine aw_tin C (1) 92 c12 dX10_tried_58 (by decide) (by decide) rfl (by decide) ?_
              refine aw_aload_n C 0 dX10_tried_92 rfl rfl ?_
              obtain ⟨v13, hv13, h⟩ := bindE h
              refine aw_gR C fl_X10_62 rfl hv13 dX10_tried_93 ?_
              obtain ⟨v14, hv14, h⟩ := bindE h
              refine aw_gI C fl_X10_317 rfl hv14 dX10_tried_96 ?_
              obtain ⟨e8, e9⟩ := inj2 h
              subst e8
              subst e9
              exact hret _ _ dX10_tried_99
            · rw [if_neg c12] at h
              by_cases c15 : x4 = Int32.ofNat 2
              · rw [if_pos c15] at h
                refine aw_tin C (2) 100 c15 dX10_tried_58 (by decide) (by decide) rfl (by decide) ?_
                refine aw_aload_n C 0 dX10_tried_100 rfl rfl ?_
                obtain ⟨v16, hv16, h⟩ := bindE h
                refine aw_gR C fl_X10_62 rfl hv16 dX10_tried_101 ?_
                obtain ⟨v17, hv17, h⟩ := bindE h
                refine aw_gI C fl_X10_320 rfl hv17 dX10_tried_104 ?_
                obtain ⟨e8, e9⟩ := inj2 h
                subst e8
                subst e9
                exact hret _ _ dX10_tried_107
              · rw [if_neg c15] at h
                refine aw_tout C 108 dX10_tried_58 (tsw_out 3 (by decide) (fun k hk => by rcases (show k = 0 ∨ k = 1 ∨ k = 2 by omega) with rfl | rfl | rfl <;> assumption)) (by decide) ?_
                refine aw_aload_n C 0 dX10_tried_108 rfl rfl ?_
                obtain ⟨v18, hv18, h⟩ := bindE h
                refine aw_gR C fl_X10_62 rfl hv18 dX10_tried_109 ?_
                obtain ⟨v19, hv19, h⟩ := bindE h
                refine aw_gI C fl_X10_323 rfl hv19 dX10_tried_112 ?_
                obtain ⟨e8, e9⟩ := inj2 h
                subst e8
                subst e9
                exact hret _ _ dX10_tried_115
        · rw [if_pos c4] at h
          refine aw_sipush C ((-1002)) dX10_tried_38 (by decide) ?_
          obtain ⟨e8, e9⟩ := inj2 h
          subst e8
          subst e9
          exact hret _ _ dX10_tried_41
  · rw [if_pos c1] at h
    refine aw_sipush C ((-1001)) dX10_tried_7 (by decide) ?_
    obtain ⟨e8, e9⟩ := inj2 h
    subst e8
    subst e9
    exact hret _ _ dX10_tried_10
set_option maxRecDepth 100000 in
set_option maxHeartbeats 4000000 in
theorem mt_X10_tried {G : GL} {l : Launch} {a0 : Nat} {x1 : Int32} {x2 : Int32} {x3 : Int32} {x4 : Int32} {μ : Mem} {r : Int32} {μ' : Mem} (h : X10_tried a0 x1 x2 x3 x4 μ = some (r, μ')) : MtI G l yX10_tried cX10_tried 5 (some .int) rm_X10_tried false [.ref (gZ G + a0), .int x1, .int x2, .int x3, .int x4] μ r μ' := met_I (by decide) rfl rfl (Nat.le_of_ble_eq_true rfl) (fun X _ C _ _ hret => wk_X10_tried C h hret)
