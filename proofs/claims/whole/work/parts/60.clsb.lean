set_option maxRecDepth 100000 in
set_option maxHeartbeats 4000000 in
theorem X3_alwaysFrom_L4_ok {G : GL} {X : CX} (C : Ctx G X cX3_alwaysFrom 3 RX3 rm_X3_alwaysFrom) (a0 : Nat) (μ : Mem) : ∀ (n : Nat) (x1 : Int32) (x2 : Int32) (z : Int32 × Int32), X3_alwaysFrom_L4 a0 μ n x1 x2 = some z → AW G 3 X 0 0 39 [(0, .ref (gZ G + a0)), (1, .int z.1), (2, .int z.2)] [] μ → AW G 3 X 0 0 4 [(0, .ref (gZ G + a0)), (1, .int x1), (2, .int x2)] [] μ := by
  intro n
  induction n with
  | zero =>
    intro x1 x2 z h kx
    rw [X3_alwaysFrom_L4] at h
    cases h
  | succ n ih =>
    intro x1 x2 z h kx
    rw [X3_alwaysFrom_L4] at h
    refine aw_iload_n C 2 dX3_alwaysFrom_4 rfl rfl ?_
    refine aw_aload_n C 0 dX3_alwaysFrom_5 rfl rfl ?_
    obtain ⟨v1, hv1, h⟩ := bindE h
    refine aw_gI C fl_X3_24 rfl hv1 dX3_alwaysFrom_6 ?_
    refine aw_icmp_ge C 39 dX3_alwaysFrom_9 (by decide) (fun c2 => ?_) (fun c2 => ?_)
    · rw [if_pos c2] at h
      have e9 := inj1 h
      subst e9
      exact aw_sub [0, 1, 2] rfl kx
    · rw [if_neg c2] at h
      refine aw_aload_n C 0 dX3_alwaysFrom_12 rfl rfl ?_
      obtain ⟨v3, hv3, h⟩ := bindE h
      refine aw_gR C fl_X3_9 rfl hv3 dX3_alwaysFrom_13 ?_
      refine aw_iload_n C 2 dX3_alwaysFrom_16 rfl rfl ?_
      obtain ⟨v4, hv4, h⟩ := bindE h
      refine aw_aI C hv4 dX3_alwaysFrom_17 ?_
      refine aw_iconst C 4 dX3_alwaysFrom_18 (by decide) ?_
      obtain ⟨z8, hz8, h⟩ := bindE h
      have kj19 : AW G 3 X 0 0 33 [(0, .ref (gZ G + a0)), (1, .int z8), (2, .int x2)] [] μ := by
        refine aw_iinc C (x2 + 1) 2 [(2, .int (x2 + 1)), (0, .ref (gZ G + a0)), (1, .int z8)] dX3_alwaysFrom_33 rfl rfl (by decide) rfl ?_
        refine aw_goto C 4 dX3_alwaysFrom_36 (by decide) ?_
        exact aw_sub [1, 2, 0] rfl (ih _ _ _ h kx)
      replace h := hz8
      refine aw_icmp_ne C 33 dX3_alwaysFrom_19 (by decide) (fun c5 => ?_) (fun c5 => ?_)
      · rw [if_neg c5] at h
        have e9 := inj1 h
        subst e9
        exact aw_sub [0, 1, 2] rfl kj19
      · rw [if_pos c5] at h
        refine aw_iload_n C 1 dX3_alwaysFrom_22 rfl rfl ?_
        refine aw_iconst C 1 dX3_alwaysFrom_23 (by decide) ?_
        refine aw_aload_n C 0 dX3_alwaysFrom_24 rfl rfl ?_
        obtain ⟨v6, hv6, h⟩ := bindE h
        refine aw_gR C fl_X3_15 rfl hv6 dX3_alwaysFrom_25 ?_
        refine aw_iload_n C 2 dX3_alwaysFrom_28 rfl rfl ?_
        obtain ⟨v7, hv7, h⟩ := bindE h
        refine aw_aI C hv7 dX3_alwaysFrom_29 ?_
        refine aw_ishl C dX3_alwaysFrom_30 ?_
        refine aw_ior C dX3_alwaysFrom_31 ?_
        refine aw_istore_n C [(1, .int (x1 ||| (1 <<< (v7 &&& 31)))), (0, .ref (gZ G + a0)), (2, .int x2)] dX3_alwaysFrom_32 rfl (by decide) rfl ?_
        have e9 := inj1 h
        subst e9
        exact aw_sub [1, 0, 2] rfl kj19
set_option maxRecDepth 100000 in
set_option maxHeartbeats 4000000 in
theorem wk_X3_alwaysFrom {G : GL} {X : CX} {a0 : Nat} {μ : Mem} {r : Int32} (C : Ctx G X cX3_alwaysFrom 3 RX3 rm_X3_alwaysFrom) (h : X3_alwaysFrom a0 μ = some r) (hret : RtI G 3 X cX3_alwaysFrom 0 0 r μ) : AW G 3 X 0 0 0 [(0, .ref (gZ G + a0))] [] μ := by
  unfold X3_alwaysFrom at h
  refine aw_iconst C 0 dX3_alwaysFrom_0 (by decide) ?_
  refine aw_istore_n C [(1, .int 0), (0, .ref (gZ G + a0))] dX3_alwaysFrom_1 rfl (by decide) rfl ?_
  refine aw_iconst C 0 dX3_alwaysFrom_2 (by decide) ?_
  refine aw_istore_n C [(2, .int 0), (1, .int 0), (0, .ref (gZ G + a0))] dX3_alwaysFrom_3 rfl (by decide) rfl ?_
  obtain ⟨z1, hz1, h⟩ := bindE h
  refine aw_sub [2, 1, 0] rfl ?_
  refine X3_alwaysFrom_L4_ok C _ _ _ _ _ _ hz1 ?_
  refine aw_iload_n C 1 dX3_alwaysFrom_39 rfl rfl ?_
  have e9 := inj1 h
  subst e9
  exact hret _ _ dX3_alwaysFrom_40
set_option maxRecDepth 100000 in
set_option maxHeartbeats 4000000 in
theorem mt_X3_alwaysFrom {G : GL} {l : Launch} {a0 : Nat} {μ : Mem} {r : Int32} (h : X3_alwaysFrom a0 μ = some r) : MtI G l yX3_alwaysFrom cX3_alwaysFrom 3 (some .int) rm_X3_alwaysFrom false [.ref (gZ G + a0)] μ r μ := met_I (by decide) rfl rfl (Nat.le_of_ble_eq_true rfl) (fun X _ C _ _ hret => wk_X3_alwaysFrom C h hret)
set_option maxRecDepth 100000 in
set_option maxHeartbeats 4000000 in
theorem X3_barredKinds_L4_ok {G : GL} {X : CX} (C : Ctx G X cX3_barredKinds 4 RX3 rm_X3_barredKinds) (a0 : Nat) (x1 : Int32) (μ : Mem) : ∀ (n : Nat) (x2 : Int32) (x3 : Int32) (z : Int32 × Int32), X3_barredKinds_L4 a0 x1 μ n x2 x3 = some z → AW G 4 X 0 0 49 [(0, .ref (gZ G + a0)), (1, .int x1), (2, .int z.1), (3, .int z.2)] [] μ → AW G 4 X 0 0 4 [(0, .ref (gZ G + a0)), (1, .int x1), (2, .int x2), (3, .int x3)] [] μ := by
  intro n
  induction n with
  | zero =>
    intro x2 x3 z h kx
    rw [X3_barredKinds_L4] at h
    cases h
  | succ n ih =>
    intro x2 x3 z h kx
    rw [X3_barredKinds_L4] at h
    refine aw_iload_n C 3 dX3_barredKinds_4 rfl rfl ?_
    refine aw_aload_n C 0 dX3_barredKinds_5 rfl rfl ?_
    obtain ⟨v1, hv1, h⟩ := bindE h
    refine aw_gI C fl_X3_24 rfl hv1 dX3_barredKinds_6 ?_
    refine aw_icmp_ge C 49 dX3_barredKinds_9 (by decide) (fun c2 => ?_) (fun c2 => ?_)
    · rw [if_pos c2] at h
      have e9 := inj1 h
      subst e9
      exact aw_sub [0, 1, 2, 3] rfl kx
    · rw [if_neg c2] at h
      refine aw_aload_n C 0 dX3_barredKinds_12 rfl rfl ?_
      obtain ⟨v3, hv3, h⟩ := bindE h
      refine aw_gR C fl_X3_9 rfl hv3 dX3_barredKinds_13 ?_
      refine aw_iload_n C 3 dX3_barredKinds_16 rfl rfl ?_
      obtain ⟨v4, hv4, h⟩ := bindE h
      refine aw_aI C hv4 dX3_barredKinds_17 ?_
      refine aw_iconst C 2 dX3_barredKinds_18 (by decide) ?_
      obtain ⟨z11, hz11, h⟩ := bindE h
      have kj19 : AW G 4 X 0 0 43 [(0, .ref (gZ G + a0)), (1, .int x1), (2, .int z11), (3, .int x3)] [] μ := by
        refine aw_iinc C (x3 + 1) 3 [(3, .int (x3 + 1)), (0, .ref (gZ G + a0)), (1, .int x1), (2, .int z11)] dX3_barredKinds_43 rfl rfl (by decide) rfl ?_
        refine aw_goto C 4 dX3_barredKinds_46 (by decide) ?_
        exact aw_sub [1, 2, 3, 0] rfl (ih _ _ _ h kx)
      replace h := hz11
      refine aw_icmp_ne C 43 dX3_barredKinds_19 (by decide) (fun c5 => ?_) (fun c5 => ?_)
      · rw [if_neg c5] at h
        have e9 := inj1 h
        subst e9
        exact aw_sub [0, 1, 2, 3] rfl kj19
      · rw [if_pos c5] at h
        refine aw_iload_n C 1 dX3_barredKinds_22 rfl rfl ?_
        refine aw_aload_n C 0 dX3_barredKinds_23 rfl rfl ?_
        obtain ⟨v6, hv6, h⟩ := bindE h
        refine aw_gR C fl_X3_18 rfl hv6 dX3_barredKinds_24 ?_
        refine aw_iload_n C 3 dX3_barredKinds_27 rfl rfl ?_
        obtain ⟨v7, hv7, h⟩ := bindE h
        refine aw_aI C hv7 dX3_barredKinds_28 ?_
        refine aw_icmp_le C 43 dX3_barredKinds_29 (by decide) (fun c8 => ?_) (fun c8 => ?_)
        · rw [if_pos c8] at h
          have e9 := inj1 h
          subst e9
          exact aw_sub [0, 1, 2, 3] rfl kj19
        · rw [if_neg c8] at h
          refine aw_iload_n C 2 dX3_barredKinds_32 rfl rfl ?_
          refine aw_iconst C 1 dX3_barredKinds_33 (by decide) ?_
          refine aw_aload_n C 0 dX3_barredKinds_34 rfl rfl ?_
          obtain ⟨v9, hv9, h⟩ := bindE h
          refine aw_gR C fl_X3_15 rfl hv9 dX3_barredKinds_35 ?_
          refine aw_iload_n C 3 dX3_barredKinds_38 rfl rfl ?_
          obtain ⟨v10, hv10, h⟩ := bindE h
          refine aw_aI C hv10 dX3_barredKinds_39 ?_
          refine aw_ishl C dX3_barredKinds_40 ?_
          refine aw_ior C dX3_barredKinds_41 ?_
          refine aw_istore_n C [(2, .int (x2 ||| (1 <<< (v10 &&& 31)))), (0, .ref (gZ G + a0)), (1, .int x1), (3, .int x3)] dX3_barredKinds_42 rfl (by decide) rfl ?_
          have e9 := inj1 h
          subst e9
          exact aw_sub [1, 2, 0, 3] rfl kj19
set_option maxRecDepth 100000 in
set_option maxHeartbeats 4000000 in
theorem wk_X3_barredKinds {G : GL} {X : CX} {a0 : Nat} {x1 : Int32} {μ : Mem} {r : Int32} (C : Ctx G X cX3_barredKinds 4 RX3 rm_X3_barredKinds) (h : X3_barredKinds a0 x1 μ = some r) (hret : RtI G 4 X cX3_barredKinds 0 0 r μ) : AW G 4 X 0 0 0 [(0, .ref (gZ G + a0)), (1, .int x1)] [] μ := by
  unfold X3_barredKinds at h
  refine aw_iconst C 0 dX3_barredKinds_0 (by decide) ?_
  refine aw_istore_n C [(2, .int 0), (0, .ref (gZ G + a0)), (1, .int x1)] dX3_barredKinds_1 rfl (by decide) rfl ?_
  refine aw_iconst C 0 dX3_barredKinds_2 (by decide) ?_
  refine aw_istore_n C [(3, .int 0), (2, .int 0), (0, .ref (gZ G + a0)), (1, .int x1)] dX3_barredKinds_3 rfl (by decide) rfl ?_
  obtain ⟨z1, hz1, h⟩ := bindE h
  refine aw_sub [2, 3, 1, 0] rfl ?_
  refine X3_barredKinds_L4_ok C _ _ _ _ _ _ _ hz1 ?_
  refine aw_iload_n C 2 dX3_barredKinds_49 rfl rfl ?_
  have e9 := inj1 h
  subst e9
  exact hret _ _ dX3_barredKinds_50
set_option maxRecDepth 100000 in
set_option maxHeartbeats 4000000 in
theorem mt_X3_barredKinds {G : GL} {l : Launch} {a0 : Nat} {x1 : Int32} {μ : Mem} {r : Int32} (h : X3_barredKinds a0 x1 μ = some r) : MtI G l yX3_barredKinds cX3_barredKinds 4 (some .int) rm_X3_barredKinds false [.ref (gZ G + a0), .int x1] μ r μ := met_I (by decide) rfl rfl (Nat.le_of_ble_eq_true rfl) (fun X _ C _ _ hret => wk_X3_barredKinds C h hret)
set_option maxRecDepth 100000 in
set_option maxHeartbeats 4000000 in
theorem wk_X3_isLikely {G : GL} {X : CX} {a0 : Nat} {x1 : Int32} {a2 : Nat} {μ : Mem} {r : Int32} (C : Ctx G X cX3_isLikely 4 RX3 rm_X3_isLikely) (h : X3_isLikely a0 x1 a2 μ = some r) (hret : RtZ G 4 X cX3_isLikely 0 0 r μ) : AW G 4 X 0 0 0 [(0, .ref (gZ G + a0)), (1, .int x1), (2, .ref (gZ G + a2))] [] μ := by
  unfold X3_isLikely at h
  refine aw_aload_n C 0 dX3_isLikely_0 rfl rfl ?_
  obtain ⟨v1, hv1, h⟩ := bindE h
  refine aw_gR C fl_X3_18 rfl hv1 dX3_isLikely_1 ?_
  refine aw_iload_n C 1 dX3_isLikely_4 rfl rfl ?_
  obtain ⟨v2, hv2, h⟩ := bindE h
  refine aw_aI C hv2 dX3_isLikely_5 ?_
  refine aw_istore_n C [(3, .int v2), (0, .ref (gZ G + a0)), (1, .int x1), (2, .ref (gZ G + a2))] dX3_isLikely_6 rfl (by decide) rfl ?_
  refine aw_iload_n C 0 dX3_isLikely_7 rfl rfl ?_
  obtain ⟨z10, hz10, h⟩ := bindE h
  have kj8 : AW G 4 X 0 0 45 [] [.int z10] μ := by
    obtain ⟨v11, hv11, h⟩ := bindE h
    obtain ⟨ev11, zv11⟩ := zzE hv11
    refine aw_topi ev11 ?_
    have e9 := inj1 h
    subst e9
    exact hret _ _ dX3_isLikely_45 zv11
  replace h := hz10
  refine aw_if_lt C 44 dX3_isLikely_8 (by decide) (fun c3 => ?_) (fun c3 => ?_)
  · rw [if_pos c3] at h
    refine aw_iconst C 0 dX3_isLikely_44 (by decide) ?_
    have e9 := inj1 h
    subst e9
    exact aw_sub [] rfl kj8
  · rw [if_neg c3] at h
    refine aw_iload_n C 0 dX3_isLikely_11 rfl rfl ?_
    refine aw_aload_n C 3 dX3_isLikely_12 rfl rfl ?_
    obtain ⟨v4, hv4, h⟩ := bindE h
    refine aw_aL C hv4 dX3_isLikely_13 ?_
    refine aw_icmp_ge C 44 dX3_isLikely_14 (by decide) (fun c5 => ?_) (fun c5 => ?_)
    · rw [if_pos c5] at h
      refine aw_iconst C 0 dX3_isLikely_44 (by decide) ?_
      have e9 := inj1 h
      subst e9
      exact aw_sub [] rfl kj8
    · rw [if_neg c5] at h
      refine aw_aload_n C 3 dX3_isLikely_17 rfl rfl ?_
      refine aw_iload_n C 0 dX3_isLikely_18 rfl rfl ?_
      obtain ⟨v6, hv6, h⟩ := bindE h
      refine aw_aI C hv6 dX3_isLikely_19 ?_
      refine aw_i2l C dX3_isLikely_20 ?_
      refine aw_ldc2 C kl_X3_32 dX3_isLikely_21 ?_
      refine aw_lmul C dX3_isLikely_24 ?_
      refine aw_aload_n C 1 dX3_isLikely_25 rfl rfl ?_
      obtain ⟨v7, hv7, h⟩ := bindE h
      refine aw_gR C fl_X3_21 rfl hv7 dX3_isLikely_26 ?_
      refine aw_iload_n C 2 dX3_isLikely_29 rfl rfl ?_
      obtain ⟨v8, hv8, h⟩ := bindE h
      refine aw_aI C hv8 dX3_isLikely_30 ?_
      refine aw_i2l C dX3_isLikely_31 ?_
      refine aw_ldc2 C kl_X3_34 dX3_isLikely_32 ?_
      refine aw_lmul C dX3_isLikely_35 ?_
      refine aw_lcmp C dX3_isLikely_36 ?_
      refine aw_if_lt C 44 dX3_isLikely_37 (by decide) (fun c9 => ?_) (fun c9 => ?_)
      · rw [if_pos c9] at h
        refine aw_iconst C 0 dX3_isLikely_44 (by decide) ?_
        have e9 := inj1 h
        subst e9
        exact aw_sub [] rfl kj8
      · rw [if_neg c9] at h
        refine aw_iconst C 1 dX3_isLikely_40 (by decide) ?_
        refine aw_goto C 45 dX3_isLikely_41 (by decide) ?_
        have e9 := inj1 h
        subst e9
        exact aw_sub [] rfl kj8
set_option maxRecDepth 100000 in
set_option maxHeartbeats 4000000 in
theorem mt_X3_isLikely {G : GL} {l : Launch} {a0 : Nat} {x1 : Int32} {a2 : Nat} {μ : Mem} {r : Int32} (h : X3_isLikely a0 x1 a2 μ = some r) : MtI G l yX3_isLikely cX3_isLikely 4 (some .boolean) rm_X3_isLikely false [.ref (gZ G + a0), .int x1, .ref (gZ G + a2)] μ r μ := met_Z (by decide) rfl (Nat.le_of_ble_eq_true rfl) (fun X _ C _ _ hret => wk_X3_isLikely C h hret)
set_option maxRecDepth 100000 in
set_option maxHeartbeats 4000000 in
theorem X3_barredWays_L4_ok {G : GL} {X : CX} (C : Ctx G X cX3_barredWays 4 RX3 rm_X3_barredWays) (a0 : Nat) (a1 : Nat) (μ : Mem) : ∀ (n : Nat) (x2 : Int32) (x3 : Int32) (z : Int32 × Int32), X3_barredWays_L4 a0 a1 μ n x2 x3 = some z → AW G 4 X 0 0 57 [(0, .ref (gZ G + a0)), (1, .ref (gZ G + a1)), (2, .int z.1), (3, .int z.2)] [] μ → AW G 4 X 0 0 4 [(0, .ref (gZ G + a0)), (1, .ref (gZ G + a1)), (2, .int x2), (3, .int x3)] [] μ := by
  intro n
  induction n with
  | zero =>
    intro x2 x3 z h kx
    rw [X3_barredWays_L4] at h
    cases h
  | succ n ih =>
    intro x2 x3 z h kx
    rw [X3_barredWays_L4] at h
    refine aw_iload_n C 3 dX3_barredWays_4 rfl rfl ?_
    refine aw_aload_n C 0 dX3_barredWays_5 rfl rfl ?_
    obtain ⟨v1, hv1, h⟩ := bindE h
    refine aw_gI C fl_X3_24 rfl hv1 dX3_barredWays_6 ?_
    refine aw_icmp_ge C 57 dX3_barredWays_9 (by decide) (fun c2 => ?_) (fun c2 => ?_)
    · rw [if_pos c2] at h
      have e9 := inj1 h
      subst e9
      exact aw_sub [0, 1, 2, 3] rfl kx
    · rw [if_neg c2] at h
      refine aw_aload_n C 0 dX3_barredWays_12 rfl rfl ?_
      obtain ⟨v3, hv3, h⟩ := bindE h
      refine aw_gR C fl_X3_9 rfl hv3 dX3_barredWays_13 ?_
      refine aw_iload_n C 3 dX3_barredWays_16 rfl rfl ?_
      obtain ⟨v4, hv4, h⟩ := bindE h
      refine aw_aI C hv4 dX3_barredWays_17 ?_
      obtain ⟨z16, hz16, h⟩ := bindE h
      have kj18 : AW G 4 X 0 0 51 [(0, .ref (gZ G + a0)), (1, .ref (gZ G + a1)), (2, .int z16), (3, .int x3)] [] μ := by
        refine aw_iinc C (x3 + 1) 3 [(3, .int (x3 + 1)), (0, .ref (gZ G + a0)), (1, .ref (gZ G + a1)), (2, .int z16)] dX3_barredWays_51 rfl rfl (by decide) rfl ?_
        refine aw_goto C 4 dX3_barredWays_54 (by decide) ?_
        exact aw_sub [1, 2, 3, 0] rfl (ih _ _ _ h kx)
      replace h := hz16
      refine aw_if_eq C 40 dX3_barredWays_18 (by decide) (fun c5 => ?_) (fun c5 => ?_)
      · rw [if_pos c5] at h
        refine aw_iload_n C 2 dX3_barredWays_40 rfl rfl ?_
        refine aw_iconst C 1 dX3_barredWays_41 (by decide) ?_
        refine aw_aload_n C 0 dX3_barredWays_42 rfl rfl ?_
        obtain ⟨v6, hv6, h⟩ := bindE h
        refine aw_gR C fl_X3_15 rfl hv6 dX3_barredWays_43 ?_
        refine aw_iload_n C 3 dX3_barredWays_46 rfl rfl ?_
        obtain ⟨v7, hv7, h⟩ := bindE h
        refine aw_aI C hv7 dX3_barredWays_47 ?_
        refine aw_ishl C dX3_barredWays_48 ?_
        refine aw_ior C dX3_barredWays_49 ?_
        refine aw_istore_n C [(2, .int (x2 ||| (1 <<< (v7 &&& 31)))), (0, .ref (gZ G + a0)), (1, .ref (gZ G + a1)), (3, .int x3)] dX3_barredWays_50 rfl (by decide) rfl ?_
        have e9 := inj1 h
        subst e9
        exact aw_sub [1, 2, 0, 3] rfl kj18
      · rw [if_neg c5] at h
        refine aw_aload_n C 0 dX3_barredWays_21 rfl rfl ?_
        obtain ⟨v8, hv8, h⟩ := bindE h
        refine aw_gR C fl_X3_9 rfl hv8 dX3_barredWays_22 ?_
        refine aw_iload_n C 3 dX3_barredWays_25 rfl rfl ?_
        obtain ⟨v9, hv9, h⟩ := bindE h
        refine aw_aI C hv9 dX3_barredWays_26 ?_
        refine aw_iconst C 1 dX3_barredWays_27 (by decide) ?_
        refine aw_icmp_ne C 51 dX3_barredWays_28 (by decide) (fun c10 => ?_) (fun c10 => ?_)
        · rw [if_neg c10] at h
          have e9 := inj1 h
          subst e9
          exact aw_sub [0, 1, 2, 3] rfl kj18
        · rw [if_pos c10] at h
          refine aw_aload_n C 0 dX3_barredWays_31 rfl rfl ?_
          refine aw_iload_n C 3 dX3_barredWays_32 rfl rfl ?_
          refine aw_aload_n C 1 dX3_barredWays_33 rfl rfl ?_
          obtain ⟨g11, hg11, h⟩ := bindE h
          obtain ⟨v12, hv12, h⟩ := bindE h
          refine aw_cV_I C [.int x3, .ref (gZ G + a1)] _ (mt_X3_isLikely hv12) cs_X3_isLikely ml_X3_28 im_X3_isLikely se_X3_isLikely (ci := 3) rfl rfl hg11 ⟨by decide, by decide⟩ ⟨rfl, rfl⟩ ⟨Nat.zero_le _, Nat.zero_le _⟩ rfl rfl (Nat.le_of_ble_eq_true rfl) dX3_barredWays_34 ?_
          refine aw_if_eq C 51 dX3_barredWays_37 (by decide) (fun c13 => ?_) (fun c13 => ?_)
          · rw [if_pos c13] at h
            have e9 := inj1 h
            subst e9
            exact aw_sub [0, 1, 2, 3] rfl kj18
          · rw [if_neg c13] at h
            refine aw_iload_n C 2 dX3_barredWays_40 rfl rfl ?_
            refine aw_iconst C 1 dX3_barredWays_41 (by decide) ?_
            refine aw_aload_n C 0 dX3_barredWays_42 rfl rfl ?_
            obtain ⟨v14, hv14, h⟩ := bindE h
            refine aw_gR C fl_X3_15 rfl hv14 dX3_barredWays_43 ?_
            refine aw_iload_n C 3 dX3_barredWays_46 rfl rfl ?_
            obtain ⟨v15, hv15, h⟩ := bindE h
            refine aw_aI C hv15 dX3_barredWays_47 ?_
            refine aw_ishl C dX3_barredWays_48 ?_
            refine aw_ior C dX3_barredWays_49 ?_
            refine aw_istore_n C [(2, .int (x2 ||| (1 <<< (v15 &&& 31)))), (0, .ref (gZ G + a0)), (1, .ref (gZ G + a1)), (3, .int x3)] dX3_barredWays_50 rfl (by decide) rfl ?_
            have e9 := inj1 h
            subst e9
            exact aw_sub [1, 2, 0, 3] rfl kj18
set_option maxRecDepth 100000 in
set_option maxHeartbeats 4000000 in
theorem wk_X3_barredWays {G : GL} {X : CX} {a0 : Nat} {a1 : Nat} {μ : Mem} {r : Int32} (C : Ctx G X cX3_barredWays 4 RX3 rm_X3_barredWays) (h : X3_barredWays a0 a1 μ = some r) (hret : RtI G 4 X cX3_barredWays 0 0 r μ) : AW G 4 X 0 0 0 [(0, .ref (gZ G + a0)), (1, .ref (gZ G + a1))] [] μ := by
  unfold X3_barredWays at h
  refine aw_iconst C 0 dX3_barredWays_0 (by decide) ?_
  refine aw_istore_n C [(2, .int 0), (0, .ref (gZ G + a0)), (1, .ref (gZ G + a1))] dX3_barredWays_1 rfl (by decide) rfl ?_
  refine aw_iconst C 0 dX3_barredWays_2 (by decide) ?_
  refine aw_istore_n C [(3, .int 0), (2, .int 0), (0, .ref (gZ G + a0)), (1, .ref (gZ G + a1))] dX3_barredWays_3 rfl (by decide) rfl ?_
  obtain ⟨z1, hz1, h⟩ := bindE h
  refine aw_sub [2, 3, 1, 0] rfl ?_
  refine X3_barredWays_L4_ok C _ _ _ _ _ _ _ hz1 ?_
  refine aw_iload_n C 2 dX3_barredWays_57 rfl rfl ?_
  have e9 := inj1 h
  subst e9
  exact hret _ _ dX3_barredWays_58
set_option maxRecDepth 100000 in
set_option maxHeartbeats 4000000 in
theorem mt_X3_barredWays {G : GL} {l : Launch} {a0 : Nat} {a1 : Nat} {μ : Mem} {r : Int32} (h : X3_barredWays a0 a1 μ = some r) : MtI G l yX3_barredWays cX3_barredWays 4 (some .int) rm_X3_barredWays false [.ref (gZ G + a0), .ref (gZ G + a1)] μ r μ := met_I (by decide) rfl rfl (Nat.le_of_ble_eq_true rfl) (fun X _ C _ _ hret => wk_X3_barredWays C h hret)
set_option maxRecDepth 100000 in
set_option maxHeartbeats 4000000 in
theorem X1_open_L36_ok {G : GL} {X : CX} (C : Ctx G X cX1_open 8 RX1 rm_X1_open) (a0 : Nat) (a2 : Nat) (x5 : Int32) (x6 : Int32) : ∀ (n : Nat) (x7 : Int32) (μ : Mem) (z : Int32 × Mem), X1_open_L36 a0 a2 x5 x6 n x7 μ = some z → AW G 8 X 0 0 116 [(0, .ref (gZ G + a0)), (2, .ref (gZ G + a2)), (5, .int x5), (6, .int x6), (7, .int z.1)] [] z.2 → AW G 8 X 0 0 36 [(0, .ref (gZ G + a0)), (2, .ref (gZ G + a2)), (5, .int x5), (6, .int x6), (7, .int x7)] [] μ := by
  intro n
  induction n with
  | zero =>
    intro x7 μ z h kx
    rw [X1_open_L36] at h
    cases h
  | succ n ih =>
    intro x7 μ z h kx
    rw [X1_open_L36] at h
    refine aw_iload C 4 dX1_open_36 rfl ?_
    refine aw_aload_n C 1 dX1_open_38 rfl rfl ?_
    obtain ⟨v1, hv1, h⟩ := bindE h
    refine aw_gI C fl_X1_33 rfl hv1 dX1_open_39 ?_
    refine aw_icmp_ge C 116 dX1_open_42 (by decide) (fun c2 => ?_) (fun c2 => ?_)
    · rw [if_pos c2] at h
      have e9 := inj1 h
      subst e9
      exact aw_sub [0, 1, 2, 3, 4] rfl kx
    · rw [if_neg c2] at h
      refine aw_iload C 2 dX1_open_45 rfl ?_
      refine aw_aload_n C 1 dX1_open_47 rfl rfl ?_
      obtain ⟨v3, hv3, h⟩ := bindE h
      refine aw_gR C fl_X1_38 rfl hv3 dX1_open_48 ?_
      refine aw_iload C 4 dX1_open_51 rfl ?_
      obtain ⟨v4, hv4, h⟩ := bindE h
      refine aw_aR C (by decide) (ty := .object RX6) rfl rfl hv4 dX1_open_53 ?_
      obtain ⟨v5, hv5, h⟩ := bindE h
      refine aw_gI C fl_X1_42 rfl hv5 dX1_open_54 ?_
      refine aw_cSN_I C [.int x5, .int v5] _ (mt_X10_contains _ _) cs_X10_contains ml_X1_47 st_X10_contains ⟨by decide, by decide⟩ ⟨rfl, rfl⟩ ⟨Nat.zero_le _, Nat.zero_le _⟩ rfl rfl (Nat.le_of_ble_eq_true rfl) dX1_open_57 ?_
      obtain ⟨z15, hz15, h⟩ := bindE h
      have kj60 : AW G 8 X 0 0 110 [(0, .ref (gZ G + a0)), (2, .ref (gZ G + a2)), (5, .int x5), (6, .int x6), (7, .int x7)] [] z15 := by
        refine aw_iinc C (x7 + 1) 4 [(7, .int (x7 + 1)), (0, .ref (gZ G + a0)), (2, .ref (gZ G + a2)), (5, .int x5), (6, .int x6)] dX1_open_110 rfl rfl (by decide) rfl ?_
        refine aw_goto C 36 dX1_open_113 (by decide) ?_
        exact aw_sub [1, 2, 3, 4, 0] rfl (ih _ _ _ h kx)
      replace h := hz15
      refine aw_if_eq C 79 dX1_open_60 (by decide) (fun c6 => ?_) (fun c6 => ?_)
      · rw [if_pos c6] at h
        refine aw_iload C 3 dX1_open_79 rfl ?_
        refine aw_aload_n C 1 dX1_open_81 rfl rfl ?_
        obtain ⟨v7, hv7, h⟩ := bindE h
        refine aw_gR C fl_X1_38 rfl hv7 dX1_open_82 ?_
        refine aw_iload C 4 dX1_open_85 rfl ?_
        obtain ⟨v8, hv8, h⟩ := bindE h
        refine aw_aR C (by decide) (ty := .object RX6) rfl rfl hv8 dX1_open_87 ?_
        obtain ⟨v9, hv9, h⟩ := bindE h
        refine aw_gI C fl_X1_53 rfl hv9 dX1_open_88 ?_
        refine aw_cSN_I C [.int x6, .int v9] _ (mt_X10_contains _ _) cs_X10_contains ml_X1_47 st_X10_contains ⟨by decide, by decide⟩ ⟨rfl, rfl⟩ ⟨Nat.zero_le _, Nat.zero_le _⟩ rfl rfl (Nat.le_of_ble_eq_true rfl) dX1_open_91 ?_
        refine aw_if_eq C 110 dX1_open_94 (by decide) (fun c10 => ?_) (fun c10 => ?_)
        · rw [if_pos c10] at h
          have e9 := inj1 h
          subst e9
          exact aw_sub [0, 1, 2, 3, 4] rfl kj60
        · rw [if_neg c10] at h
          refine aw_aload_n C 0 dX1_open_97 rfl rfl ?_
          refine aw_dup C dX1_open_98 rfl ?_
          obtain ⟨v11, hv11, h⟩ := bindE h
          refine aw_gI C fl_X1_30 rfl hv11 dX1_open_99 ?_
          refine aw_iconst C 1 dX1_open_102 (by decide) ?_
          refine aw_iload C 4 dX1_open_103 rfl ?_
          refine aw_ishl C dX1_open_105 ?_
          refine aw_ior C dX1_open_106 ?_
          obtain ⟨μ12, hμ12, h⟩ := bindE h
          refine aw_pI C fl_X1_30 rfl hμ12 dX1_open_107 ?_
          have e9 := inj1 h
          subst e9
          exact aw_sub [0, 1, 2, 3, 4] rfl kj60
      · rw [if_neg c6] at h
        refine aw_aload_n C 0 dX1_open_63 rfl rfl ?_
        refine aw_dup C dX1_open_64 rfl ?_
        obtain ⟨v13, hv13, h⟩ := bindE h
        refine aw_gI C fl_X1_27 rfl hv13 dX1_open_65 ?_
        refine aw_iconst C 1 dX1_open_68 (by decide) ?_
        refine aw_iload C 4 dX1_open_69 rfl ?_
        refine aw_ishl C dX1_open_71 ?_
        refine aw_ior C dX1_open_72 ?_
        obtain ⟨μ14, hμ14, h⟩ := bindE h
        refine aw_pI C fl_X1_27 rfl hμ14 dX1_open_73 ?_
        refine aw_goto C 110 dX1_open_76 (by decide) ?_
        have e9 := inj1 h
        subst e9
        exact aw_sub [0, 1, 2, 3, 4] rfl kj60
set_option maxRecDepth 100000 in
set_option maxHeartbeats 4000000 in
theorem wk_X1_open {G : GL} {X : CX} {a0 : Nat} {a1 : Nat} {a2 : Nat} {x3 : Int32} {a4 : Nat} {μ : Mem} {μ' : Mem} (C : Ctx G X cX1_open 8 RX1 rm_X1_open) (h : X1_open a0 a1 a2 x3 a4 μ = some μ') (hret : RtV G 8 X cX1_open 0 0 μ') : AW G 8 X 0 0 0 [(0, .ref (gZ G + a0)), (1, .ref (gZ G + a1)), (2, .ref (gZ G + a2)), (3, .int x3), (4, .ref (gZ G + a4))] [] μ := by
  unfold X1_open at h
  refine aw_aload_n C 1 dX1_open_0 rfl rfl ?_
  obtain ⟨g1, hg1, h⟩ := bindE h
  obtain ⟨v2, hv2, h⟩ := bindE h
  refine aw_cV_I C [] _ (mt_X3_alwaysFrom hv2) cs_X3_alwaysFrom ml_X1_7 im_X3_alwaysFrom se_X3_alwaysFrom (ci := 3) rfl rfl hg1 ⟨by decide, by decide⟩ ⟨rfl, rfl⟩ ⟨Nat.zero_le _, Nat.zero_le _⟩ rfl rfl (Nat.le_of_ble_eq_true rfl) dX1_open_1 ?_
  refine aw_istore C [(5, .int v2), (0, .ref (gZ G + a0)), (1, .ref (gZ G + a1)), (2, .ref (gZ G + a2)), (3, .int x3), (4, .ref (gZ G + a4))] dX1_open_4 (by decide) rfl ?_
  refine aw_aload_n C 2 dX1_open_6 rfl rfl ?_
  refine aw_iload_n C 4 dX1_open_7 rfl rfl ?_
  obtain ⟨g3, hg3, h⟩ := bindE h
  obtain ⟨v4, hv4, h⟩ := bindE h
  refine aw_cV_I C [.int x3] _ (mt_X3_barredKinds hv4) cs_X3_barredKinds ml_X1_13 im_X3_barredKinds se_X3_barredKinds (ci := 3) rfl rfl hg3 ⟨by decide, by decide⟩ ⟨rfl, rfl⟩ ⟨Nat.zero_le _, Nat.zero_le _⟩ rfl rfl (Nat.le_of_ble_eq_true rfl) dX1_open_8 ?_
  refine aw_istore C [(6, .int v4), (5, .int v2), (0, .ref (gZ G + a0)), (1, .ref (gZ G + a1)), (2, .ref (gZ G + a2)), (3, .int x3), (4, .ref (gZ G + a4))] dX1_open_11 (by decide) rfl ?_
  refine aw_aload_n C 2 dX1_open_13 rfl rfl ?_
  refine aw_aload_n C 3 dX1_open_14 rfl rfl ?_
  refine aw_aload C 6 dX1_open_15 rfl ?_
  obtain ⟨g5, hg5, h⟩ := bindE h
  obtain ⟨v6, hv6, h⟩ := bindE h
  refine aw_cV_I C [.ref (gZ G + a4)] _ (mt_X3_barredWays hv6) cs_X3_barredWays ml_X1_17 im_X3_barredWays se_X3_barredWays (ci := 3) rfl rfl hg5 ⟨by decide, by decide⟩ ⟨rfl, rfl⟩ ⟨Nat.zero_le _, Nat.zero_le _⟩ rfl rfl (Nat.le_of_ble_eq_true rfl) dX1_open_17 ?_
  obtain ⟨μ7, hμ7, h⟩ := bindE h
  refine aw_pI C fl_X1_21 rfl hμ7 dX1_open_20 ?_
  refine aw_aload_n C 2 dX1_open_23 rfl rfl ?_
  refine aw_iconst C 0 dX1_open_24 (by decide) ?_
  obtain ⟨μ8, hμ8, h⟩ := bindE h
  refine aw_pI C fl_X1_27 rfl hμ8 dX1_open_25 ?_
  refine aw_aload_n C 2 dX1_open_28 rfl rfl ?_
  refine aw_iconst C 0 dX1_open_29 (by decide) ?_
  obtain ⟨μ9, hμ9, h⟩ := bindE h
  refine aw_pI C fl_X1_30 rfl hμ9 dX1_open_30 ?_
  refine aw_iconst C 0 dX1_open_33 (by decide) ?_
  refine aw_istore C [(7, .int 0), (6, .int v4), (5, .int v2), (0, .ref (gZ G + a0)), (1, .ref (gZ G + a1)), (2, .ref (gZ G + a2)), (3, .int x3), (4, .ref (gZ G + a4))] dX1_open_34 (by decide) rfl ?_
  obtain ⟨z10, hz10, h⟩ := bindE h
  refine aw_sub [3, 5, 2, 1, 0] rfl ?_
  refine X1_open_L36_ok C _ _ _ _ _ _ _ _ hz10 ?_
  have e9 := inj1 h
  subst e9
  exact hret _ _ dX1_open_116
set_option maxRecDepth 100000 in
set_option maxHeartbeats 4000000 in
theorem mt_X1_open {G : GL} {l : Launch} {a0 : Nat} {a1 : Nat} {a2 : Nat} {x3 : Int32} {a4 : Nat} {μ : Mem} {μ' : Mem} (h : X1_open a0 a1 a2 x3 a4 μ = some μ') : MtV G l yX1_open cX1_open 8 none rm_X1_open false [.ref (gZ G + a0), .ref (gZ G + a1), .ref (gZ G + a2), .int x3, .ref (gZ G + a4)] μ μ' := met_V (by decide) rfl (Nat.le_of_ble_eq_true rfl) (fun X _ C _ _ hret => wk_X1_open C h hret)
set_option maxRecDepth 100000 in
set_option maxHeartbeats 4000000 in
theorem wk_X1_isAlways {G : GL} {X : CX} {a0 : Nat} {x1 : Int32} {μ : Mem} {r : Int32} (C : Ctx G X cX1_isAlways 2 RX1 rm_X1_isAlways) (h : X1_isAlways a0 x1 μ = some r) (hret : RtZ G 2 X cX1_isAlways 0 0 r μ) : AW G 2 X 0 0 0 [(0, .ref (gZ G + a0)), (1, .int x1)] [] μ := by
  unfold X1_isAlways at h
  refine aw_iload_n C 1 dX1_isAlways_0 rfl rfl ?_
  refine aw_aload_n C 0 dX1_isAlways_1 rfl rfl ?_
  obtain ⟨v1, hv1, h⟩ := bindE h
  refine aw_gI C fl_X1_27 rfl hv1 dX1_isAlways_2 ?_
  refine aw_iconst C ((-1)) dX1_isAlways_5 (by decide) ?_
  refine aw_ixor C dX1_isAlways_6 ?_
  refine aw_iand C dX1_isAlways_7 ?_
  obtain ⟨v3, ev3, h⟩ := bindS h
  have kj8 : AW G 2 X 0 0 16 [] [.int v3] μ := by
    obtain ⟨v4, hv4, h⟩ := bindE h
    obtain ⟨ev4, zv4⟩ := zzE hv4
    refine aw_topi ev4 ?_
    have e9 := inj1 h
    subst e9
    exact hret _ _ dX1_isAlways_16 zv4
  clear h
  refine aw_if_ne C 15 dX1_isAlways_8 (by decide) (fun c2 => ?_) (fun c2 => ?_)
  · refine aw_iconst C 0 dX1_isAlways_15 (by decide) ?_
    rw [if_neg c2] at ev3
    subst ev3
    exact aw_sub [] rfl kj8
  · refine aw_iconst C 1 dX1_isAlways_11 (by decide) ?_
    refine aw_goto C 16 dX1_isAlways_12 (by decide) ?_
    rw [if_pos c2] at ev3
    subst ev3
    exact aw_sub [] rfl kj8
set_option maxRecDepth 100000 in
set_option maxHeartbeats 4000000 in
theorem mt_X1_isAlways {G : GL} {l : Launch} {a0 : Nat} {x1 : Int32} {μ : Mem} {r : Int32} (h : X1_isAlways a0 x1 μ = some r) : MtI G l yX1_isAlways cX1_isAlways 2 (some .boolean) rm_X1_isAlways false [.ref (gZ G + a0), .int x1] μ r μ := met_Z (by decide) rfl (Nat.le_of_ble_eq_true rfl) (fun X _ C _ _ hret => wk_X1_isAlways C h hret)
set_option maxRecDepth 100000 in
set_option maxHeartbeats 4000000 in
theorem wk_X1_bar {G : GL} {X : CX} {a0 : Nat} {x1 : Int32} {x2 : Int32} {x3 : Int32} {μ : Mem} {r : Int32} (C : Ctx G X cX1_bar 5 RX1 rm_X1_bar) (h : X1_bar a0 x1 x2 x3 μ = some r) (hret : RtI G 5 X cX1_bar 0 0 r μ) : AW G 5 X 0 0 0 [(0, .ref (gZ G + a0)), (1, .int x1), (2, .int x2), (3, .int x3)] [] μ := by
  unfold X1_bar at h
  refine aw_aload_n C 0 dX1_bar_0 rfl rfl ?_
  refine aw_iload_n C 1 dX1_bar_1 rfl rfl ?_
  obtain ⟨g1, hg1, h⟩ := bindE h
  obtain ⟨v2, hv2, h⟩ := bindE h
  refine aw_cV_I C [.int x1] _ (mt_X1_isAlways hv2) cs_X1_isAlways ml_X1_56 im_X1_isAlways se_X1_isAlways (ci := 1) rfl rfl hg1 ⟨by decide, by decide⟩ ⟨rfl, rfl⟩ ⟨Nat.zero_le _, Nat.zero_le _⟩ rfl rfl (Nat.le_of_ble_eq_true rfl) dX1_bar_2 ?_
  refine aw_istore C [(4, .int v2), (0, .ref (gZ G + a0)), (1, .int x1), (2, .int x2), (3, .int x3)] dX1_bar_5 (by decide) rfl ?_
  refine aw_iload C 0 dX1_bar_7 rfl ?_
  refine aw_if_ne C 25 dX1_bar_9 (by decide) (fun c3 => ?_) (fun c3 => ?_)
  · rw [if_neg c3] at h
    refine aw_iload_n C 2 dX1_bar_25 rfl rfl ?_
    refine aw_aload_n C 1 dX1_bar_26 rfl rfl ?_
    obtain ⟨v4, hv4, h⟩ := bindE h
    refine aw_gI C fl_X1_30 rfl hv4 dX1_bar_27 ?_
    refine aw_iand C dX1_bar_30 ?_
    refine aw_if_eq C 36 dX1_bar_31 (by decide) (fun c5 => ?_) (fun c5 => ?_)
    · rw [if_pos c5] at h
      refine aw_iload C 0 dX1_bar_36 rfl ?_
      obtain ⟨v7, ev7, h⟩ := bindS h
      have kj38 : AW G 5 X 0 0 50 [] [.int v7] μ := by
        have e9 := inj1 h
        subst e9
        exact hret _ _ dX1_bar_50
      clear h
      refine aw_if_ne C 49 dX1_bar_38 (by decide) (fun c6 => ?_) (fun c6 => ?_)
      · refine aw_iconst C 0 dX1_bar_49 (by decide) ?_
        rw [if_neg c6] at ev7
        subst ev7
        exact aw_sub [] rfl kj38
      · refine aw_iload_n C 4 dX1_bar_41 rfl rfl ?_
        refine aw_if_eq C 49 dX1_bar_42 (by decide) (fun c8 => ?_) (fun c8 => ?_)
        · refine aw_iconst C 0 dX1_bar_49 (by decide) ?_
          rw [if_pos c6, if_pos c8] at ev7
          subst ev7
          exact aw_sub [] rfl kj38
        · refine aw_iconst C 3 dX1_bar_45 (by decide) ?_
          refine aw_goto C 50 dX1_bar_46 (by decide) ?_
          rw [if_pos c6, if_neg c8] at ev7
          subst ev7
          exact aw_sub [] rfl kj38
    · rw [if_neg c5] at h
      refine aw_iconst C 2 dX1_bar_34 (by decide) ?_
      have e9 := inj1 h
      subst e9
      exact hret _ _ dX1_bar_35
  · rw [if_pos c3] at h
    refine aw_aload_n C 1 dX1_bar_12 rfl rfl ?_
    obtain ⟨v9, hv9, h⟩ := bindE h
    refine aw_gI C fl_X1_21 rfl hv9 dX1_bar_13 ?_
    refine aw_iload_n C 3 dX1_bar_16 rfl rfl ?_
    refine aw_cSN_I C [.int v9, .int x2] _ (mt_X10_contains _ _) cs_X10_contains ml_X1_47 st_X10_contains ⟨by decide, by decide⟩ ⟨rfl, rfl⟩ ⟨Nat.zero_le _, Nat.zero_le _⟩ rfl rfl (Nat.le_of_ble_eq_true rfl) dX1_bar_17 ?_
    refine aw_if_eq C 25 dX1_bar_20 (by decide) (fun c10 => ?_) (fun c10 => ?_)
    · rw [if_pos c10] at h
      refine aw_iload_n C 2 dX1_bar_25 rfl rfl ?_
      refine aw_aload_n C 1 dX1_bar_26 rfl rfl ?_
      obtain ⟨v11, hv11, h⟩ := bindE h
      refine aw_gI C fl_X1_30 rfl hv11 dX1_bar_27 ?_
      refine aw_iand C dX1_bar_30 ?_
      refine aw_if_eq C 36 dX1_bar_31 (by decide) (fun c12 => ?_) (fun c12 => ?_)
      · rw [if_pos c12] at h
        refine aw_iload C 0 dX1_bar_36 rfl ?_
        obtain ⟨v14, ev14, h⟩ := bindS h
        have kj38 : AW G 5 X 0 0 50 [] [.int v14] μ := by
          have e9 := inj1 h
          subst e9
          exact hret _ _ dX1_bar_50
        clear h
        refine aw_if_ne C 49 dX1_bar_38 (by decide) (fun c13 => ?_) (fun c13 => ?_)
        · refine aw_iconst C 0 dX1_bar_49 (by decide) ?_
          rw [if_neg c13] at ev14
          subst ev14
          exact aw_sub [] rfl kj38
        · refine aw_iload_n C 4 dX1_bar_41 rfl rfl ?_
          refine aw_if_eq C 49 dX1_bar_42 (by decide) (fun c15 => ?_) (fun c15 => ?_)
          · refine aw_iconst C 0 dX1_bar_49 (by decide) ?_
            rw [if_pos c13, if_pos c15] at ev14
            subst ev14
            exact aw_sub [] rfl kj38
          · refine aw_iconst C 3 dX1_bar_45 (by decide) ?_
            refine aw_goto C 50 dX1_bar_46 (by decide) ?_
            rw [if_pos c13, if_neg c15] at ev14
            subst ev14
            exact aw_sub [] rfl kj38
      · rw [if_neg c12] at h
        refine aw_iconst C 2 dX1_bar_34 (by decide) ?_
        have e9 := inj1 h
        subst e9
        exact hret _ _ dX1_bar_35
    · rw [if_neg c10] at h
      refine aw_iconst C 1 dX1_bar_23 (by decide) ?_
      have e9 := inj1 h
      subst e9
      exact hret _ _ dX1_bar_24
set_option maxRecDepth 100000 in
set_option maxHeartbeats 4000000 in
theorem mt_X1_bar {G : GL} {l : Launch} {a0 : Nat} {x1 : Int32} {x2 : Int32} {x3 : Int32} {μ : Mem} {r : Int32} (h : X1_bar a0 x1 x2 x3 μ = some r) : MtI G l yX1_bar cX1_bar 5 (some .int) rm_X1_bar false [.ref (gZ G + a0), .int x1, .int x2, .int x3] μ r μ := met_I (by decide) rfl rfl (Nat.le_of_ble_eq_true rfl) (fun X _ C _ _ hret => wk_X1_bar C h hret)
set_option maxRecDepth 100000 in
set_option maxHeartbeats 4000000 in
theorem wk_X2_init {G : GL} {X : CX} {a0 : Nat} {μ : Mem} {μ' : Mem} (C : Ctx G X cX2_init 1 RX2 rm_X2_init) (hi : (xT X).name = "<init>") (hb : (xS X).heap.size = gZ G + mN μ) (h : X2_init a0 μ = some μ') (hret : RtV G 1 X cX2_init 1 160 μ') : AW G 1 X 0 0 0 [(0, .ref (gZ G + a0))] [] μ := by
  unfold X2_init at h
  refine aw_aload_n C 0 dX2_init_0 rfl rfl ?_
  refine aw_oinit C mo_X2_3 ob_im ob_co (by decide) (by decide) (Nat.le_of_ble_eq_true rfl) dX2_init_1 ?_
  refine aw_aload_n C 0 dX2_init_4 rfl rfl ?_
  refine aw_iconst C ((-1)) dX2_init_5 (by decide) ?_
  obtain ⟨μ1, hμ1, h⟩ := bindE h
  refine aw_pI C fl_X2_9 rfl hμ1 dX2_init_6 ?_
  refine aw_aload_n C 0 dX2_init_9 rfl rfl ?_
  refine aw_sipush C 160 dX2_init_10 (by decide) ?_
  obtain ⟨μ2, hμ2, h⟩ := bindE h
  refine aw_newaI C (N' := 160) 1 160 ac_int hb hμ2 (by decide) (by decide) (by decide) (by decide) rfl rfl dX2_init_13 ?_
  obtain ⟨μ3, hμ3, h⟩ := bindE h
  refine aw_pRF C fl_X2_15 hi rfl rfl rfl rfl hμ3 dX2_init_15 ?_
  have e9 := inj1 h
  subst e9
  exact hret _ _ dX2_init_18
set_option maxRecDepth 100000 in
set_option maxHeartbeats 4000000 in
theorem mt_X2_init {G : GL} {l : Launch} {a0 : Nat} {μ : Mem} {μ' : Mem} (h : X2_init a0 μ = some μ') : MtV G l yX2_init cX2_init 1 none rm_X2_init true [.ref (gZ G + a0)] μ μ' := met_V (by decide) rfl (Nat.le_of_ble_eq_true rfl) (fun X _ C hi hb hret => wk_X2_init C hi (hb rfl) h hret)
set_option maxRecDepth 100000 in
set_option maxHeartbeats 4000000 in
theorem wk_X2_append {G : GL} {X : CX} {a0 : Nat} {x1 : Int32} {μ : Mem} {μ' : Mem} (C : Ctx G X cX2_append 2 RX2 rm_X2_append) (h : X2_append a0 x1 μ = some μ') (hret : RtV G 2 X cX2_append 0 0 μ') : AW G 2 X 0 0 0 [(0, .ref (gZ G + a0)), (1, .int x1)] [] μ := by
  unfold X2_append at h
  refine aw_aload_n C 0 dX2_append_0 rfl rfl ?_
  obtain ⟨v1, hv1, h⟩ := bindE h
  refine aw_gI C fl_X2_19 rfl hv1 dX2_append_1 ?_
  refine aw_sipush C 160 dX2_append_4 (by decide) ?_
  obtain ⟨z8, hz8, h⟩ := bindE h
  have kj7 : AW G 2 X 0 0 30 [] [] z8 := by
    have e9 := inj1 h
    subst e9
    exact hret _ _ dX2_append_30
  replace h := hz8
  refine aw_icmp_ge C 30 dX2_append_7 (by decide) (fun c2 => ?_) (fun c2 => ?_)
  · rw [if_pos c2] at h
    have e9 := inj1 h
    subst e9
    exact aw_sub [] rfl kj7
  · rw [if_neg c2] at h
    refine aw_aload_n C 0 dX2_append_10 rfl rfl ?_
    obtain ⟨v3, hv3, h⟩ := bindE h
    refine aw_gR C fl_X2_15 rfl hv3 dX2_append_11 ?_
    refine aw_aload_n C 0 dX2_append_14 rfl rfl ?_
    obtain ⟨v4, hv4, h⟩ := bindE h
    refine aw_gI C fl_X2_19 rfl hv4 dX2_append_15 ?_
    refine aw_iload_n C 1 dX2_append_18 rfl rfl ?_
    obtain ⟨μ5, hμ5, h⟩ := bindE h
    refine aw_sI C hμ5 dX2_append_19 ?_
    refine aw_aload_n C 0 dX2_append_20 rfl rfl ?_
    refine aw_dup C dX2_append_21 rfl ?_
    obtain ⟨v6, hv6, h⟩ := bindE h
    refine aw_gI C fl_X2_19 rfl hv6 dX2_append_22 ?_
    refine aw_iconst C 1 dX2_append_25 (by decide) ?_
    refine aw_iadd C dX2_append_26 ?_
    obtain ⟨μ7, hμ7, h⟩ := bindE h
    refine aw_pI C fl_X2_19 rfl hμ7 dX2_append_27 ?_
    have e9 := inj1 h
    subst e9
    exact aw_sub [] rfl kj7
set_option maxRecDepth 100000 in
set_option maxHeartbeats 4000000 in
theorem mt_X2_append {G : GL} {l : Launch} {a0 : Nat} {x1 : Int32} {μ : Mem} {μ' : Mem} (h : X2_append a0 x1 μ = some μ') : MtV G l yX2_append cX2_append 2 none rm_X2_append false [.ref (gZ G + a0), .int x1] μ μ' := met_V (by decide) rfl (Nat.le_of_ble_eq_true rfl) (fun X _ C _ _ hret => wk_X2_append C h hret)
set_option maxRecDepth 100000 in
set_option maxHeartbeats 4000000 in
theorem X2_skipBlanks_L0_ok {G : GL} {X : CX} (C : Ctx G X cX2_skipBlanks 1 RX2 rm_X2_skipBlanks) (a0 : Nat) : ∀ (n : Nat)  (μ : Mem) (z : Mem), X2_skipBlanks_L0 a0 n μ = some z → AW G 1 X 0 0 38 [(0, .ref (gZ G + a0))] [] z → AW G 1 X 0 0 0 [(0, .ref (gZ G + a0))] [] μ := by
  intro n
  induction n with
  | zero =>
    intro  μ z h kx
    rw [X2_skipBlanks_L0] at h
    cases h
  | succ n ih =>
    intro  μ z h kx
    rw [X2_skipBlanks_L0] at h
    refine aw_aload_n C 0 dX2_skipBlanks_0 rfl rfl ?_
    obtain ⟨v1, hv1, h⟩ := bindE h
    refine aw_gI C fl_X2_22 rfl hv1 dX2_skipBlanks_1 ?_
    refine aw_aload_n C 0 dX2_skipBlanks_4 rfl rfl ?_
    obtain ⟨v2, hv2, h⟩ := bindE h
    refine aw_gI C fl_X2_19 rfl hv2 dX2_skipBlanks_5 ?_
    refine aw_icmp_ge C 38 dX2_skipBlanks_8 (by decide) (fun c3 => ?_) (fun c3 => ?_)
    · rw [if_pos c3] at h
      have e9 := inj1 h
      subst e9
      exact aw_sub [0] rfl kx
    · rw [if_neg c3] at h
      refine aw_aload_n C 0 dX2_skipBlanks_11 rfl rfl ?_
      obtain ⟨v4, hv4, h⟩ := bindE h
      refine aw_gR C fl_X2_15 rfl hv4 dX2_skipBlanks_12 ?_
      refine aw_aload_n C 0 dX2_skipBlanks_15 rfl rfl ?_
      obtain ⟨v5, hv5, h⟩ := bindE h
      refine aw_gI C fl_X2_22 rfl hv5 dX2_skipBlanks_16 ?_
      obtain ⟨v6, hv6, h⟩ := bindE h
      refine aw_aI C hv6 dX2_skipBlanks_19 ?_
      refine aw_bipush C 32 dX2_skipBlanks_20 (by decide) ?_
      refine aw_icmp_ne C 38 dX2_skipBlanks_22 (by decide) (fun c7 => ?_) (fun c7 => ?_)
      · rw [if_neg c7] at h
        have e9 := inj1 h
        subst e9
        exact aw_sub [0] rfl kx
      · rw [if_pos c7] at h
        refine aw_aload_n C 0 dX2_skipBlanks_25 rfl rfl ?_
        refine aw_dup C dX2_skipBlanks_26 rfl ?_
        obtain ⟨v8, hv8, h⟩ := bindE h
        refine aw_gI C fl_X2_22 rfl hv8 dX2_skipBlanks_27 ?_
        refine aw_iconst C 1 dX2_skipBlanks_30 (by decide) ?_
        refine aw_iadd C dX2_skipBlanks_31 ?_
        obtain ⟨μ9, hμ9, h⟩ := bindE h
        refine aw_pI C fl_X2_22 rfl hμ9 dX2_skipBlanks_32 ?_
        refine aw_goto C 0 dX2_skipBlanks_35 (by decide) ?_
        exact aw_sub [0] rfl (ih _ _ h kx)
set_option maxRecDepth 100000 in
set_option maxHeartbeats 4000000 in
theorem wk_X2_skipBlanks {G : GL} {X : CX} {a0 : Nat} {μ : Mem} {μ' : Mem} (C : Ctx G X cX2_skipBlanks 1 RX2 rm_X2_skipBlanks) (h : X2_skipBlanks a0 μ = some μ') (hret : RtV G 1 X cX2_skipBlanks 0 0 μ') : AW G 1 X 0 0 0 [(0, .ref (gZ G + a0))] [] μ := by
  unfold X2_skipBlanks at h
  obtain ⟨z1, hz1, h⟩ := bindE h
  refine aw_sub [0] rfl ?_
  refine X2_skipBlanks_L0_ok C _ _ _ _ hz1 ?_
  have e9 := inj1 h
  subst e9
  exact hret _ _ dX2_skipBlanks_38
set_option maxRecDepth 100000 in
set_option maxHeartbeats 4000000 in
theorem mt_X2_skipBlanks {G : GL} {l : Launch} {a0 : Nat} {μ : Mem} {μ' : Mem} (h : X2_skipBlanks a0 μ = some μ') : MtV G l yX2_skipBlanks cX2_skipBlanks 1 none rm_X2_skipBlanks false [.ref (gZ G + a0)] μ μ' := met_V (by decide) rfl (Nat.le_of_ble_eq_true rfl) (fun X _ C _ _ hret => wk_X2_skipBlanks C h hret)
set_option maxRecDepth 100000 in
set_option maxHeartbeats 4000000 in
theorem X2_takeWord_L18_ok {G : GL} {X : CX} (C : Ctx G X cX2_takeWord 4 RX2 rm_X2_takeWord) (a0 : Nat) (w1 : Nat) (μ : Mem) : ∀ (n : Nat) (x2 : Int32) (z : Int32), X2_takeWord_L18 a0 w1 μ n x2 = some z → AW G 4 X 0 0 54 [(0, .ref (gZ G + a0)), (1, .ref (gK G w1)), (2, .int z)] [] μ → AW G 4 X 0 0 18 [(0, .ref (gZ G + a0)), (1, .ref (gK G w1)), (2, .int x2)] [] μ := by
  intro n
  induction n with
  | zero =>
    intro x2 z h kx
    rw [X2_takeWord_L18] at h
    cases h
  | succ n ih =>
    intro x2 z h kx
    rw [X2_takeWord_L18] at h
    refine aw_iload_n C 2 dX2_takeWord_18 rfl rfl ?_
    refine aw_aload_n C 0 dX2_takeWord_19 rfl rfl ?_
    obtain ⟨v1, hv1, h⟩ := bindE h
    refine aw_gI C fl_X2_19 rfl hv1 dX2_takeWord_20 ?_
    refine aw_icmp_ge C 54 dX2_takeWord_23 (by decide) (fun c2 => ?_) (fun c2 => ?_)
    · rw [if_pos c2] at h
      have e9 := inj1 h
      subst e9
      exact aw_sub [0, 1, 2] rfl kx
    · rw [if_neg c2] at h
      refine aw_aload_n C 0 dX2_takeWord_26 rfl rfl ?_
      obtain ⟨v3, hv3, h⟩ := bindE h
      refine aw_gR C fl_X2_15 rfl hv3 dX2_takeWord_27 ?_
      refine aw_iload_n C 2 dX2_takeWord_30 rfl rfl ?_
      obtain ⟨v4, hv4, h⟩ := bindE h
      refine aw_aI C hv4 dX2_takeWord_31 ?_
      refine aw_bipush C 97 dX2_takeWord_32 (by decide) ?_
      refine aw_icmp_lt C 54 dX2_takeWord_34 (by decide) (fun c5 => ?_) (fun c5 => ?_)
      · rw [if_pos c5] at h
        have e9 := inj1 h
        subst e9
        exact aw_sub [0, 1, 2] rfl kx
      · rw [if_neg c5] at h
        refine aw_aload_n C 0 dX2_takeWord_37 rfl rfl ?_
        obtain ⟨v6, hv6, h⟩ := bindE h
        refine aw_gR C fl_X2_15 rfl hv6 dX2_takeWord_38 ?_
        refine aw_iload_n C 2 dX2_takeWord_41 rfl rfl ?_
        obtain ⟨v7, hv7, h⟩ := bindE h
        refine aw_aI C hv7 dX2_takeWord_42 ?_
        refine aw_bipush C 122 dX2_takeWord_43 (by decide) ?_
        refine aw_icmp_gt C 54 dX2_takeWord_45 (by decide) (fun c8 => ?_) (fun c8 => ?_)
        · rw [if_pos c8] at h
          have e9 := inj1 h
          subst e9
          exact aw_sub [0, 1, 2] rfl kx
        · rw [if_neg c8] at h
          refine aw_iinc C (x2 + 1) 2 [(2, .int (x2 + 1)), (0, .ref (gZ G + a0)), (1, .ref (gK G w1))] dX2_takeWord_48 rfl rfl (by decide) rfl ?_
          refine aw_goto C 18 dX2_takeWord_51 (by decide) ?_
          exact aw_sub [1, 2, 0] rfl (ih _ _ h kx)
set_option maxRecDepth 100000 in
set_option maxHeartbeats 4000000 in
theorem X2_takeWord_L71_ok {G : GL} {X : CX} (C : Ctx G X cX2_takeWord 4 RX2 rm_X2_takeWord) {r : Int32} {μ' : Mem} {μ : Mem} (hret : RtZ G 4 X cX2_takeWord 0 0 r μ') (a0 : Nat) (w1 : Nat) (x2 : Int32) : ∀ (n : Nat) (x3 : Int32), X2_takeWord_L71 a0 w1 x2 μ n x3 = some (r, μ') → AW G 4 X 0 0 71 [(0, .ref (gZ G + a0)), (1, .ref (gK G w1)), (2, .int x2), (3, .int x3)] [] μ := by
  intro n
  induction n with
  | zero =>
    intro x3 h
    rw [X2_takeWord_L71] at h
    cases h
  | succ n ih =>
    intro x3 h
    rw [X2_takeWord_L71] at h
    refine aw_iload_n C 3 dX2_takeWord_71 rfl rfl ?_
    refine aw_aload_n C 1 dX2_takeWord_72 rfl rfl ?_
    obtain ⟨v1, hv1, h⟩ := bindE h
    refine aw_slen C ml_X2_89 (by decide) (by decide) ⟨Nat.zero_le _, Nat.zero_le _⟩ (Nat.le_of_ble_eq_true rfl) hv1 dX2_takeWord_73 ?_
    refine aw_icmp_ge C 106 dX2_takeWord_76 (by decide) (fun c2 => ?_) (fun c2 => ?_)
    · rw [if_pos c2] at h
      refine aw_aload_n C 0 dX2_takeWord_106 rfl rfl ?_
      refine aw_iload_n C 2 dX2_takeWord_107 rfl rfl ?_
      obtain ⟨μ3, hμ3, h⟩ := bindE h
      refine aw_pI C fl_X2_22 rfl hμ3 dX2_takeWord_108 ?_
      refine aw_iconst C 1 dX2_takeWord_111 (by decide) ?_
      obtain ⟨e8, e9⟩ := inj2 h
      subst e8
      subst e9
      exact hret _ _ dX2_takeWord_112 (Or.inr rfl)
    · rw [if_neg c2] at h
      refine aw_aload_n C 0 dX2_takeWord_79 rfl rfl ?_
      obtain ⟨v4, hv4, h⟩ := bindE h
      refine aw_gR C fl_X2_15 rfl hv4 dX2_takeWord_80 ?_
      refine aw_aload_n C 0 dX2_takeWord_83 rfl rfl ?_
      obtain ⟨v5, hv5, h⟩ := bindE h
      refine aw_gI C fl_X2_22 rfl hv5 dX2_takeWord_84 ?_
      refine aw_iload_n C 3 dX2_takeWord_87 rfl rfl ?_
      refine aw_iadd C dX2_takeWord_88 ?_
      obtain ⟨v6, hv6, h⟩ := bindE h
      refine aw_aI C hv6 dX2_takeWord_89 ?_
      refine aw_aload_n C 1 dX2_takeWord_90 rfl rfl ?_
      refine aw_iload_n C 3 dX2_takeWord_91 rfl rfl ?_
      obtain ⟨v7, hv7, h⟩ := bindE h
      refine aw_schr C ml_X2_94 (by decide) (by decide) ⟨Nat.zero_le _, Nat.zero_le _⟩ (Nat.le_of_ble_eq_true rfl) hv7 dX2_takeWord_92 ?_
      refine aw_icmp_eq C 100 dX2_takeWord_95 (by decide) (fun c8 => ?_) (fun c8 => ?_)
      · rw [if_pos c8] at h
        refine aw_iinc C (x3 + 1) 3 [(3, .int (x3 + 1)), (0, .ref (gZ G + a0)), (1, .ref (gK G w1)), (2, .int x2)] dX2_takeWord_100 rfl rfl (by decide) rfl ?_
        refine aw_goto C 71 dX2_takeWord_103 (by decide) ?_
        exact aw_sub [1, 2, 3, 0] rfl (ih _ h)
      · rw [if_neg c8] at h
        refine aw_iconst C 0 dX2_takeWord_98 (by decide) ?_
        obtain ⟨e8, e9⟩ := inj2 h
        subst e8
        subst e9
        exact hret _ _ dX2_takeWord_99 (Or.inl rfl)
set_option maxRecDepth 100000 in
set_option maxHeartbeats 4000000 in
theorem wk_X2_takeWord {G : GL} {X : CX} {a0 : Nat} {w1 : Nat} {μ : Mem} {r : Int32} {μ' : Mem} (C : Ctx G X cX2_takeWord 4 RX2 rm_X2_takeWord) (h : X2_takeWord a0 w1 μ = some (r, μ')) (hret : RtZ G 4 X cX2_takeWord 0 0 r μ') : AW G 4 X 0 0 0 [(0, .ref (gZ G + a0)), (1, .ref (gK G w1))] [] μ := by
  unfold X2_takeWord at h
  refine aw_aload_n C 0 dX2_takeWord_0 rfl rfl ?_
  obtain ⟨v1, hv1, h⟩ := bindE h
  refine aw_gI C fl_X2_25 rfl hv1 dX2_takeWord_1 ?_
  refine aw_if_eq C 9 dX2_takeWord_4 (by decide) (fun c2 => ?_) (fun c2 => ?_)
  · rw [if_pos c2] at h
    refine aw_aload_n C 0 dX2_takeWord_9 rfl rfl ?_
    obtain ⟨g3, hg3, h⟩ := bindE h
    obtain ⟨μ4, hμ4, h⟩ := bindE h
    refine aw_cV_V C [] _ (mt_X2_skipBlanks hμ4) cs_X2_skipBlanks ml_X2_33 im_X2_skipBlanks se_X2_skipBlanks (ci := 2) rfl rfl hg3 ⟨by decide, by decide⟩ ⟨rfl, rfl⟩ ⟨Nat.zero_le _, Nat.zero_le _⟩ rfl rfl (Nat.le_of_ble_eq_true rfl) dX2_takeWord_10 ?_
    refine aw_aload_n C 0 dX2_takeWord_13 rfl rfl ?_
    obtain ⟨v5, hv5, h⟩ := bindE h
    refine aw_gI C fl_X2_22 rfl hv5 dX2_takeWord_14 ?_
    refine aw_istore_n C [(2, .int v5), (0, .ref (gZ G + a0)), (1, .ref (gK G w1))] dX2_takeWord_17 rfl (by decide) rfl ?_
    obtain ⟨z6, hz6, h⟩ := bindE h
    refine aw_sub [1, 2, 0] rfl ?_
    refine X2_takeWord_L18_ok C _ _ _ _ _ _ hz6 ?_
    refine aw_iload_n C 2 dX2_takeWord_54 rfl rfl ?_
    refine aw_aload_n C 0 dX2_takeWord_55 rfl rfl ?_
    obtain ⟨v7, hv7, h⟩ := bindE h
    refine aw_gI C fl_X2_22 rfl hv7 dX2_takeWord_56 ?_
    refine aw_isub C dX2_takeWord_59 ?_
    refine aw_aload_n C 1 dX2_takeWord_60 rfl rfl ?_
    obtain ⟨v8, hv8, h⟩ := bindE h
    refine aw_slen C ml_X2_89 (by decide) (by decide) ⟨Nat.zero_le _, Nat.zero_le _⟩ (Nat.le_of_ble_eq_true rfl) hv8 dX2_takeWord_61 ?_
    refine aw_icmp_eq C 69 dX2_takeWord_64 (by decide) (fun c9 => ?_) (fun c9 => ?_)
    · rw [if_pos c9] at h
      refine aw_iconst C 0 dX2_takeWord_69 (by decide) ?_
      refine aw_istore_n C [(3, .int 0), (0, .ref (gZ G + a0)), (1, .ref (gK G w1)), (2, .int z6)] dX2_takeWord_70 rfl (by decide) rfl ?_
      refine aw_sub [1, 2, 3, 0] rfl ?_
      exact X2_takeWord_L71_ok C hret _ _ _ _ _ h
    · rw [if_neg c9] at h
      refine aw_iconst C 0 dX2_takeWord_67 (by decide) ?_
      obtain ⟨e8, e9⟩ := inj2 h
      subst e8
      subst e9
      exact hret _ _ dX2_takeWord_68 (Or.inl rfl)
  · rw [if_neg c2] at h
    refine aw_iconst C 0 dX2_takeWord_7 (by decide) ?_
    obtain ⟨e8, e9⟩ := inj2 h
    subst e8
    subst e9
    exact hret _ _ dX2_takeWord_8 (Or.inl rfl)
set_option maxRecDepth 100000 in
set_option maxHeartbeats 4000000 in
theorem mt_X2_takeWord {G : GL} {l : Launch} {a0 : Nat} {w1 : Nat} {μ : Mem} {r : Int32} {μ' : Mem} (h : X2_takeWord a0 w1 μ = some (r, μ')) : MtI G l yX2_takeWord cX2_takeWord 4 (some .boolean) rm_X2_takeWord false [.ref (gZ G + a0), .ref (gK G w1)] μ r μ' := met_Z (by decide) rfl (Nat.le_of_ble_eq_true rfl) (fun X _ C _ _ hret => wk_X2_takeWord C h hret)
set_option maxRecDepth 100000 in
set_option maxHeartbeats 4000000 in
theorem wk_X2_note {G : GL} {X : CX} {a0 : Nat} {x1 : Int32} {x2 : Int32} {μ : Mem} {μ' : Mem} (C : Ctx G X cX2_note 3 RX2 rm_X2_note) (h : X2_note a0 x1 x2 μ = some μ') (hret : RtV G 3 X cX2_note 0 0 μ') : AW G 3 X 0 0 0 [(0, .ref (gZ G + a0)), (1, .int x1), (2, .int x2)] [] μ := by
  unfold X2_note at h
  refine aw_aload_n C 0 dX2_note_0 rfl rfl ?_
  obtain ⟨v1, hv1, h⟩ := bindE h
  refine aw_gI C fl_X2_25 rfl hv1 dX2_note_1 ?_
  obtain ⟨z5, hz5, h⟩ := bindE h
  have kj4 : AW G 3 X 0 0 17 [] [] z5 := by
    have e9 := inj1 h
    subst e9
    exact hret _ _ dX2_note_17
  replace h := hz5
  refine aw_if_ne C 17 dX2_note_4 (by decide) (fun c2 => ?_) (fun c2 => ?_)
  · rw [if_neg c2] at h
    have e9 := inj1 h
    subst e9
    exact aw_sub [] rfl kj4
  · rw [if_pos c2] at h
    refine aw_aload_n C 0 dX2_note_7 rfl rfl ?_
    refine aw_iload_n C 1 dX2_note_8 rfl rfl ?_
    obtain ⟨μ3, hμ3, h⟩ := bindE h
    refine aw_pI C fl_X2_25 rfl hμ3 dX2_note_9 ?_
    refine aw_aload_n C 0 dX2_note_12 rfl rfl ?_
    refine aw_iload_n C 2 dX2_note_13 rfl rfl ?_
    obtain ⟨μ4, hμ4, h⟩ := bindE h
    refine aw_pI C fl_X2_9 rfl hμ4 dX2_note_14 ?_
    have e9 := inj1 h
    subst e9
    exact aw_sub [] rfl kj4
set_option maxRecDepth 100000 in
set_option maxHeartbeats 4000000 in
theorem mt_X2_note {G : GL} {l : Launch} {a0 : Nat} {x1 : Int32} {x2 : Int32} {μ : Mem} {μ' : Mem} (h : X2_note a0 x1 x2 μ = some μ') : MtV G l yX2_note cX2_note 3 none rm_X2_note false [.ref (gZ G + a0), .int x1, .int x2] μ μ' := met_V (by decide) rfl (Nat.le_of_ble_eq_true rfl) (fun X _ C _ _ hret => wk_X2_note C h hret)
set_option maxRecDepth 100000 in
set_option maxHeartbeats 4000000 in
theorem wk_X2_refuseNinth {G : GL} {X : CX} {a0 : Nat} {a1 : Nat} {x2 : Int32} {μ : Mem} {μ' : Mem} (C : Ctx G X cX2_refuseNinth 3 RX2 rm_X2_refuseNinth) (h : X2_refuseNinth a0 a1 x2 μ = some μ') (hret : RtV G 3 X cX2_refuseNinth 0 0 μ') : AW G 3 X 0 0 0 [(0, .ref (gZ G + a0)), (1, .ref (gZ G + a1)), (2, .int x2)] [] μ := by
  unfold X2_refuseNinth at h
  refine aw_aload_n C 1 dX2_refuseNinth_0 rfl rfl ?_
  obtain ⟨v1, hv1, h⟩ := bindE h
  refine aw_gI C fl_X2_28 rfl hv1 dX2_refuseNinth_1 ?_
  refine aw_bipush C 8 dX2_refuseNinth_4 (by decide) ?_
  obtain ⟨z5, hz5, h⟩ := bindE h
  have kj6 : AW G 3 X 0 0 15 [] [] z5 := by
    have e9 := inj1 h
    subst e9
    exact hret _ _ dX2_refuseNinth_15
  replace h := hz5
  refine aw_icmp_lt C 15 dX2_refuseNinth_6 (by decide) (fun c2 => ?_) (fun c2 => ?_)
  · rw [if_pos c2] at h
    have e9 := inj1 h
    subst e9
    exact aw_sub [] rfl kj6
  · rw [if_neg c2] at h
    refine aw_aload_n C 0 dX2_refuseNinth_9 rfl rfl ?_
    refine aw_iconst C 3 dX2_refuseNinth_10 (by decide) ?_
    refine aw_iload_n C 2 dX2_refuseNinth_11 rfl rfl ?_
    obtain ⟨g3, hg3, h⟩ := bindE h
    obtain ⟨μ4, hμ4, h⟩ := bindE h
    refine aw_cV_V C [.int 3, .int x2] _ (mt_X2_note hμ4) cs_X2_note ml_X2_73 im_X2_note se_X2_note (ci := 2) rfl rfl hg3 ⟨by decide, by decide⟩ ⟨rfl, rfl⟩ ⟨Nat.zero_le _, Nat.zero_le _⟩ rfl rfl (Nat.le_of_ble_eq_true rfl) dX2_refuseNinth_12 ?_
    have e9 := inj1 h
    subst e9
    exact aw_sub [] rfl kj6
set_option maxRecDepth 100000 in
set_option maxHeartbeats 4000000 in
theorem mt_X2_refuseNinth {G : GL} {l : Launch} {a0 : Nat} {a1 : Nat} {x2 : Int32} {μ : Mem} {μ' : Mem} (h : X2_refuseNinth a0 a1 x2 μ = some μ') : MtV G l yX2_refuseNinth cX2_refuseNinth 3 none rm_X2_refuseNinth false [.ref (gZ G + a0), .ref (gZ G + a1), .int x2] μ μ' := met_V (by decide) rfl (Nat.le_of_ble_eq_true rfl) (fun X _ C _ _ hret => wk_X2_refuseNinth C h hret)
set_option maxRecDepth 100000 in
set_option maxHeartbeats 4000000 in
theorem wk_X10_within {G : GL} {X : CX} {x0 : Int32} {x1 : Int32} {x2 : Int32} {μ : Mem} (C : Ctx G X cX10_within 3 RX10 rm_X10_within) (hret : RtZ G 3 X cX10_within 0 0 (X10_within x0 x1 x2) μ) : AW G 3 X 0 0 0 [(0, .int x0), (1, .int x1), (2, .int x2)] [] μ := by
  unfold X10_within at hret
  refine aw_iload_n C 0 dX10_within_0 rfl rfl ?_
  refine aw_iload_n C 1 dX10_within_1 rfl rfl ?_
  have kj2 : ∀ (q2_0 : Int32), q2_0 = (if x0 < x1 then 0 else if x2 < x0 then 0 else 1) → AW G 3 X 0 0 15 [] [.int q2_0] μ := by
    rintro _ rfl
    exact hret _ _ dX10_within_15 (by repeat (first | exact Or.inl rfl | exact Or.inr rfl | split))
  refine aw_icmp_lt C 14 dX10_within_2 (by decide) (fun c1 => ?_) (fun c1 => ?_)
  · refine aw_iconst C 0 dX10_within_14 (by decide) ?_
    exact aw_sub [] rfl (kj2 _ (by simp only [if_pos c1]))
  · refine aw_iload_n C 0 dX10_within_5 rfl rfl ?_
    refine aw_iload_n C 2 dX10_within_6 rfl rfl ?_
    refine aw_icmp_gt C 14 dX10_within_7 (by decide) (fun c2 => ?_) (fun c2 => ?_)
    · refine aw_iconst C 0 dX10_within_14 (by decide) ?_
      exact aw_sub [] rfl (kj2 _ (by simp only [if_neg c1, if_pos c2]))
    · refine aw_iconst C 1 dX10_within_10 (by decide) ?_
      refine aw_goto C 15 dX10_within_11 (by decide) ?_
      exact aw_sub [] rfl (kj2 _ (by simp only [if_neg c1, if_neg c2]))
set_option maxRecDepth 100000 in
set_option maxHeartbeats 4000000 in
theorem mt_X10_within {G : GL} {l : Launch} (x0 : Int32) (x1 : Int32) (x2 : Int32) {μ : Mem} : MtI G l yX10_within cX10_within 3 (some .boolean) rm_X10_within false [.int x0, .int x1, .int x2] μ (X10_within x0 x1 x2) μ := met_Z (by decide) rfl (Nat.le_of_ble_eq_true rfl) (fun X _ C _ _ hret => wk_X10_within C hret)
theorem z_X10_within (x0 : Int32) (x1 : Int32) (x2 : Int32) : X10_within x0 x1 x2 = 0 ∨ X10_within x0 x1 x2 = 1 := by
  unfold X10_within
  repeat (first | exact Or.inl rfl | exact Or.inr rfl | split)
set_option maxRecDepth 100000 in
set_option maxHeartbeats 4000000 in
theorem X2_takeNumber_L21_ok {G : GL} {X : CX} (C : Ctx G X cX2_takeNumber 5 RX2 rm_X2_takeNumber) (a0 : Nat) (x1 : Int32) (x2 : Int32) (x3 : Int32) : ∀ (n : Nat) (x4 : Int32) (μ : Mem) (z : Int32 × Mem), X2_takeNumber_L21 a0 x1 x2 x3 n x4 μ = some z → AW G 5 X 0 0 103 [(0, .ref (gZ G + a0)), (1, .int x1), (2, .int x2), (3, .int x3), (4, .int z.1)] [] z.2 → AW G 5 X 0 0 21 [(0, .ref (gZ G + a0)), (1, .int x1), (2, .int x2), (3, .int x3), (4, .int x4)] [] μ := by
  intro n
  induction n with
  | zero =>
    intro x4 μ z h kx
    rw [X2_takeNumber_L21] at h
    cases h
  | succ n ih =>
    intro x4 μ z h kx
    rw [X2_takeNumber_L21] at h
    refine aw_aload_n C 0 dX2_takeNumber_21 rfl rfl ?_
    obtain ⟨v1, hv1, h⟩ := bindE h
    refine aw_gI C fl_X2_22 rfl hv1 dX2_takeNumber_22 ?_
    refine aw_aload_n C 0 dX2_takeNumber_25 rfl rfl ?_
    obtain ⟨v2, hv2, h⟩ := bindE h
    refine aw_gI C fl_X2_19 rfl hv2 dX2_takeNumber_26 ?_
    refine aw_icmp_ge C 103 dX2_takeNumber_29 (by decide) (fun c3 => ?_) (fun c3 => ?_)
    · rw [if_pos c3] at h
      have e9 := inj1 h
      subst e9
      exact aw_sub [0, 1, 2, 3, 4] rfl kx
    · rw [if_neg c3] at h
      refine aw_aload_n C 0 dX2_takeNumber_32 rfl rfl ?_
      obtain ⟨v4, hv4, h⟩ := bindE h
      refine aw_gR C fl_X2_15 rfl hv4 dX2_takeNumber_33 ?_
      refine aw_aload_n C 0 dX2_takeNumber_36 rfl rfl ?_
      obtain ⟨v5, hv5, h⟩ := bindE h
      refine aw_gI C fl_X2_22 rfl hv5 dX2_takeNumber_37 ?_
      obtain ⟨v6, hv6, h⟩ := bindE h
      refine aw_aI C hv6 dX2_takeNumber_40 ?_
      refine aw_bipush C 48 dX2_takeNumber_41 (by decide) ?_
      refine aw_icmp_lt C 103 dX2_takeNumber_43 (by decide) (fun c7 => ?_) (fun c7 => ?_)
      · rw [if_pos c7] at h
        have e9 := inj1 h
        subst e9
        exact aw_sub [0, 1, 2, 3, 4] rfl kx
      · rw [if_neg c7] at h
        refine aw_aload_n C 0 dX2_takeNumber_46 rfl rfl ?_
        obtain ⟨v8, hv8, h⟩ := bindE h
        refine aw_gR C fl_X2_15 rfl hv8 dX2_takeNumber_47 ?_
        refine aw_aload_n C 0 dX2_takeNumber_50 rfl rfl ?_
        obtain ⟨v9, hv9, h⟩ := bindE h
        refine aw_gI C fl_X2_22 rfl hv9 dX2_takeNumber_51 ?_
        obtain ⟨v10, hv10, h⟩ := bindE h
        refine aw_aI C hv10 dX2_takeNumber_54 ?_
        refine aw_bipush C 57 dX2_takeNumber_55 (by decide) ?_
        refine aw_icmp_gt C 103 dX2_takeNumber_57 (by decide) (fun c11 => ?_) (fun c11 => ?_)
        · rw [if_pos c11] at h
          have e9 := inj1 h
          subst e9
          exact aw_sub [0, 1, 2, 3, 4] rfl kx
        · rw [if_neg c11] at h
          refine aw_aload_n C 0 dX2_takeNumber_60 rfl rfl ?_
          obtain ⟨v12, hv12, h⟩ := bindE h
          refine aw_gI C fl_X2_22 rfl hv12 dX2_takeNumber_61 ?_
          refine aw_iload_n C 3 dX2_takeNumber_64 rfl rfl ?_
          refine aw_isub C dX2_takeNumber_65 ?_
          refine aw_iconst C 3 dX2_takeNumber_66 (by decide) ?_
          obtain ⟨z17, hz17, h⟩ := bindE h
          have kj67 : AW G 5 X 0 0 90 [(0, .ref (gZ G + a0)), (1, .int x1), (2, .int x2), (3, .int x3), (4, .int z17)] [] μ := by
            refine aw_aload_n C 0 dX2_takeNumber_90 rfl rfl ?_
            refine aw_dup C dX2_takeNumber_91 rfl ?_
            obtain ⟨v18, hv18, h⟩ := bindE h
            refine aw_gI C fl_X2_22 rfl hv18 dX2_takeNumber_92 ?_
            refine aw_iconst C 1 dX2_takeNumber_95 (by decide) ?_
            refine aw_iadd C dX2_takeNumber_96 ?_
            obtain ⟨μ19, hμ19, h⟩ := bindE h
            refine aw_pI C fl_X2_22 rfl hμ19 dX2_takeNumber_97 ?_
            refine aw_goto C 21 dX2_takeNumber_100 (by decide) ?_
            exact aw_sub [0, 1, 2, 3, 4] rfl (ih _ _ _ h kx)
          replace h := hz17
          refine aw_icmp_ge C 90 dX2_takeNumber_67 (by decide) (fun c13 => ?_) (fun c13 => ?_)
          · rw [if_pos c13] at h
            have e9 := inj1 h
            subst e9
            exact aw_sub [0, 1, 2, 3, 4] rfl kj67
          · rw [if_neg c13] at h
            refine aw_iload C 4 dX2_takeNumber_70 rfl ?_
            refine aw_bipush C 10 dX2_takeNumber_72 (by decide) ?_
            refine aw_imul C dX2_takeNumber_74 ?_
            refine aw_aload_n C 0 dX2_takeNumber_75 rfl rfl ?_
            obtain ⟨v14, hv14, h⟩ := bindE h
            refine aw_gR C fl_X2_15 rfl hv14 dX2_takeNumber_76 ?_
            refine aw_aload_n C 0 dX2_takeNumber_79 rfl rfl ?_
            obtain ⟨v15, hv15, h⟩ := bindE h
            refine aw_gI C fl_X2_22 rfl hv15 dX2_takeNumber_80 ?_
            obtain ⟨v16, hv16, h⟩ := bindE h
            refine aw_aI C hv16 dX2_takeNumber_83 ?_
            refine aw_iadd C dX2_takeNumber_84 ?_
            refine aw_bipush C 48 dX2_takeNumber_85 (by decide) ?_
            refine aw_isub C dX2_takeNumber_87 ?_
            refine aw_istore C [(4, .int (((x4 * 10) + v16) - 48)), (0, .ref (gZ G + a0)), (1, .int x1), (2, .int x2), (3, .int x3)] dX2_takeNumber_88 (by decide) rfl ?_
            have e9 := inj1 h
            subst e9
            exact aw_sub [1, 2, 3, 4, 0] rfl kj67
set_option maxRecDepth 100000 in
set_option maxHeartbeats 4000000 in
theorem wk_X2_takeNumber {G : GL} {X : CX} {a0 : Nat} {x1 : Int32} {x2 : Int32} {μ : Mem} {r : Int32} {μ' : Mem} (C : Ctx G X cX2_takeNumber 5 RX2 rm_X2_takeNumber) (h : X2_takeNumber a0 x1 x2 μ = some (r, μ')) (hret : RtI G 5 X cX2_takeNumber 0 0 r μ') : AW G 5 X 0 0 0 [(0, .ref (gZ G + a0)), (1, .int x1), (2, .int x2)] [] μ := by
  unfold X2_takeNumber at h
  refine aw_aload_n C 0 dX2_takeNumber_0 rfl rfl ?_
  obtain ⟨v1, hv1, h⟩ := bindE h
  refine aw_gI C fl_X2_25 rfl hv1 dX2_takeNumber_1 ?_
  refine aw_if_eq C 9 dX2_takeNumber_4 (by decide) (fun c2 => ?_) (fun c2 => ?_)
  · rw [if_pos c2] at h
    refine aw_aload_n C 0 dX2_takeNumber_9 rfl rfl ?_
    obtain ⟨g3, hg3, h⟩ := bindE h
    obtain ⟨μ4, hμ4, h⟩ := bindE h
    refine aw_cV_V C [] _ (mt_X2_skipBlanks hμ4) cs_X2_skipBlanks ml_X2_33 im_X2_skipBlanks se_X2_skipBlanks (ci := 2) rfl rfl hg3 ⟨by decide, by decide⟩ ⟨rfl, rfl⟩ ⟨Nat.zero_le _, Nat.zero_le _⟩ rfl rfl (Nat.le_of_ble_eq_true rfl) dX2_takeNumber_10 ?_
    refine aw_aload_n C 0 dX2_takeNumber_13 rfl rfl ?_
    obtain ⟨v5, hv5, h⟩ := bindE h
    refine aw_gI C fl_X2_22 rfl hv5 dX2_takeNumber_14 ?_
    refine aw_istore_n C [(3, .int v5), (0, .ref (gZ G + a0)), (1, .int x1), (2, .int x2)] dX2_takeNumber_17 rfl (by decide) rfl ?_
    refine aw_iconst C 0 dX2_takeNumber_18 (by decide) ?_
    refine aw_istore C [(4, .int 0), (3, .int v5), (0, .ref (gZ G + a0)), (1, .int x1), (2, .int x2)] dX2_takeNumber_19 (by decide) rfl ?_
    obtain ⟨z6, hz6, h⟩ := bindE h
    refine aw_sub [2, 3, 4, 1, 0] rfl ?_
    refine X2_takeNumber_L21_ok C _ _ _ _ _ _ _ _ hz6 ?_
    refine aw_aload_n C 0 dX2_takeNumber_103 rfl rfl ?_
    obtain ⟨v7, hv7, h⟩ := bindE h
    refine aw_gI C fl_X2_22 rfl hv7 dX2_takeNumber_104 ?_
    refine aw_iload_n C 3 dX2_takeNumber_107 rfl rfl ?_
    obtain ⟨z18, hz18, h⟩ := bindE h
    have kj108 : AW G 5 X 0 0 146 [(4, .int z6.1)] [] z18 := by
      refine aw_iload C 0 dX2_takeNumber_146 rfl ?_
      obtain ⟨e8, e9⟩ := inj2 h
      subst e8
      subst e9
      exact hret _ _ dX2_takeNumber_148
    replace h := hz18
    refine aw_icmp_ne C 120 dX2_takeNumber_108 (by decide) (fun c8 => ?_) (fun c8 => ?_)
    · rw [if_neg c8] at h
      refine aw_aload_n C 0 dX2_takeNumber_120 rfl rfl ?_
      obtain ⟨v9, hv9, h⟩ := bindE h
      refine aw_gI C fl_X2_22 rfl hv9 dX2_takeNumber_121 ?_
      refine aw_iload_n C 3 dX2_takeNumber_124 rfl rfl ?_
      refine aw_isub C dX2_takeNumber_125 ?_
      refine aw_iconst C 3 dX2_takeNumber_126 (by decide) ?_
      refine aw_icmp_gt C 140 dX2_takeNumber_127 (by decide) (fun c10 => ?_) (fun c10 => ?_)
      · rw [if_pos c10] at h
        refine aw_aload_n C 0 dX2_takeNumber_140 rfl rfl ?_
        refine aw_iconst C 2 dX2_takeNumber_141 (by decide) ?_
        refine aw_iload_n C 3 dX2_takeNumber_142 rfl rfl ?_
        obtain ⟨g11, hg11, h⟩ := bindE h
        obtain ⟨μ12, hμ12, h⟩ := bindE h
        refine aw_cV_V C [.int 2, .int v5] _ (mt_X2_note hμ12) cs_X2_note ml_X2_73 im_X2_note se_X2_note (ci := 2) rfl rfl hg11 ⟨by decide, by decide⟩ ⟨rfl, rfl⟩ ⟨Nat.zero_le _, Nat.zero_le _⟩ rfl rfl (Nat.le_of_ble_eq_true rfl) dX2_takeNumber_143 ?_
        have e9 := inj1 h
        subst e9
        exact aw_sub [4] rfl kj108
      · rw [if_neg c10] at h
        refine aw_iload C 4 dX2_takeNumber_130 rfl ?_
        refine aw_iload_n C 1 dX2_takeNumber_132 rfl rfl ?_
        refine aw_iload_n C 2 dX2_takeNumber_133 rfl rfl ?_
        refine aw_cSN_I C [.int z6.1, .int x1, .int x2] _ (mt_X10_within _ _ _) cs_X10_within ml_X2_98 st_X10_within ⟨by decide, by decide⟩ ⟨rfl, rfl⟩ ⟨Nat.zero_le _, Nat.zero_le _⟩ rfl rfl (Nat.le_of_ble_eq_true rfl) dX2_takeNumber_134 ?_
        refine aw_if_ne C 146 dX2_takeNumber_137 (by decide) (fun c13 => ?_) (fun c13 => ?_)
        · rw [if_neg c13] at h
          have e9 := inj1 h
          subst e9
          exact aw_sub [4] rfl kj108
        · rw [if_pos c13] at h
          refine aw_aload_n C 0 dX2_takeNumber_140 rfl rfl ?_
          refine aw_iconst C 2 dX2_takeNumber_141 (by decide) ?_
          refine aw_iload_n C 3 dX2_takeNumber_142 rfl rfl ?_
          obtain ⟨g14, hg14, h⟩ := bindE h
          obtain ⟨μ15, hμ15, h⟩ := bindE h
          refine aw_cV_V C [.int 2, .int v5] _ (mt_X2_note hμ15) cs_X2_note ml_X2_73 im_X2_note se_X2_note (ci := 2) rfl rfl hg14 ⟨by decide, by decide⟩ ⟨rfl, rfl⟩ ⟨Nat.zero_le _, Nat.zero_le _⟩ rfl rfl (Nat.le_of_ble_eq_true rfl) dX2_takeNumber_143 ?_
          have e9 := inj1 h
          subst e9
          exact aw_sub [4] rfl kj108
    · rw [if_pos c8] at h
      refine aw_aload_n C 0 dX2_takeNumber_111 rfl rfl ?_
      refine aw_iconst C 1 dX2_takeNumber_112 (by decide) ?_
      refine aw_iload_n C 3 dX2_takeNumber_113 rfl rfl ?_
      obtain ⟨g16, hg16, h⟩ := bindE h
      obtain ⟨μ17, hμ17, h⟩ := bindE h
      refine aw_cV_V C [.int 1, .int v5] _ (mt_X2_note hμ17) cs_X2_note ml_X2_73 im_X2_note se_X2_note (ci := 2) rfl rfl hg16 ⟨by decide, by decide⟩ ⟨rfl, rfl⟩ ⟨Nat.zero_le _, Nat.zero_le _⟩ rfl rfl (Nat.le_of_ble_eq_true rfl) dX2_takeNumber_114 ?_
      refine aw_goto C 146 dX2_takeNumber_117 (by decide) ?_
      have e9 := inj1 h
      subst e9
      exact aw_sub [4] rfl kj108
  · rw [if_neg c2] at h
    refine aw_iconst C 0 dX2_takeNumber_7 (by decide) ?_
    obtain ⟨e8, e9⟩ := inj2 h
    subst e8
    subst e9
    exact hret _ _ dX2_takeNumber_8
set_option maxRecDepth 100000 in
set_option maxHeartbeats 4000000 in
theorem mt_X2_takeNumber {G : GL} {l : Launch} {a0 : Nat} {x1 : Int32} {x2 : Int32} {μ : Mem} {r : Int32} {μ' : Mem} (h : X2_takeNumber a0 x1 x2 μ = some (r, μ')) : MtI G l yX2_takeNumber cX2_takeNumber 5 (some .int) rm_X2_takeNumber false [.ref (gZ G + a0), .int x1, .int x2] μ r μ' := met_I (by decide) rfl rfl (Nat.le_of_ble_eq_true rfl) (fun X _ C _ _ hret => wk_X2_takeNumber C h hret)
set_option maxRecDepth 100000 in
set_option maxHeartbeats 4000000 in
theorem wk_X3_add {G : GL} {X : CX} {a0 : Nat} {x1 : Int32} {x2 : Int32} {x3 : Int32} {x4 : Int32} {μ : Mem} {μ' : Mem} (C : Ctx G X cX3_add 5 RX3 rm_X3_add) (h : X3_add a0 x1 x2 x3 x4 μ = some μ') (hret : RtV G 5 X cX3_add 0 0 μ') : AW G 5 X 0 0 0 [(0, .ref (gZ G + a0)), (1, .int x1), (2, .int x2), (3, .int x3), (4, .int x4)] [] μ := by
  unfold X3_add at h
  refine aw_aload_n C 0 dX3_add_0 rfl rfl ?_
  obtain ⟨v1, hv1, h⟩ := bindE h
  refine aw_gI C fl_X3_24 rfl hv1 dX3_add_1 ?_
  refine aw_bipush C 8 dX3_add_4 (by decide) ?_
  obtain ⟨z17, hz17, h⟩ := bindE h
  have kj6 : AW G 5 X 0 0 60 [] [] z17 := by
    have e9 := inj1 h
    subst e9
    exact hret _ _ dX3_add_60
  replace h := hz17
  refine aw_icmp_ge C 60 dX3_add_6 (by decide) (fun c2 => ?_) (fun c2 => ?_)
  · rw [if_pos c2] at h
    have e9 := inj1 h
    subst e9
    exact aw_sub [] rfl kj6
  · rw [if_neg c2] at h
    refine aw_aload_n C 0 dX3_add_9 rfl rfl ?_
    obtain ⟨v3, hv3, h⟩ := bindE h
    refine aw_gR C fl_X3_9 rfl hv3 dX3_add_10 ?_
    refine aw_aload_n C 0 dX3_add_13 rfl rfl ?_
    obtain ⟨v4, hv4, h⟩ := bindE h
    refine aw_gI C fl_X3_24 rfl hv4 dX3_add_14 ?_
    refine aw_iload_n C 1 dX3_add_17 rfl rfl ?_
    obtain ⟨μ5, hμ5, h⟩ := bindE h
    refine aw_sI C hμ5 dX3_add_18 ?_
    refine aw_aload_n C 0 dX3_add_19 rfl rfl ?_
    obtain ⟨v6, hv6, h⟩ := bindE h
    refine aw_gR C fl_X3_15 rfl hv6 dX3_add_20 ?_
    refine aw_aload_n C 0 dX3_add_23 rfl rfl ?_
    obtain ⟨v7, hv7, h⟩ := bindE h
    refine aw_gI C fl_X3_24 rfl hv7 dX3_add_24 ?_
    refine aw_iload_n C 2 dX3_add_27 rfl rfl ?_
    obtain ⟨μ8, hμ8, h⟩ := bindE h
    refine aw_sI C hμ8 dX3_add_28 ?_
    refine aw_aload_n C 0 dX3_add_29 rfl rfl ?_
    obtain ⟨v9, hv9, h⟩ := bindE h
    refine aw_gR C fl_X3_18 rfl hv9 dX3_add_30 ?_
    refine aw_aload_n C 0 dX3_add_33 rfl rfl ?_
    obtain ⟨v10, hv10, h⟩ := bindE h
    refine aw_gI C fl_X3_24 rfl hv10 dX3_add_34 ?_
    refine aw_iload_n C 3 dX3_add_37 rfl rfl ?_
    obtain ⟨μ11, hμ11, h⟩ := bindE h
    refine aw_sI C hμ11 dX3_add_38 ?_
    refine aw_aload_n C 0 dX3_add_39 rfl rfl ?_
    obtain ⟨v12, hv12, h⟩ := bindE h
    refine aw_gR C fl_X3_21 rfl hv12 dX3_add_40 ?_
    refine aw_aload_n C 0 dX3_add_43 rfl rfl ?_
    obtain ⟨v13, hv13, h⟩ := bindE h
    refine aw_gI C fl_X3_24 rfl hv13 dX3_add_44 ?_
    refine aw_iload C 4 dX3_add_47 rfl ?_
    obtain ⟨μ14, hμ14, h⟩ := bindE h
    refine aw_sI C hμ14 dX3_add_49 ?_
    refine aw_aload_n C 0 dX3_add_50 rfl rfl ?_
    refine aw_dup C dX3_add_51 rfl ?_
    obtain ⟨v15, hv15, h⟩ := bindE h
    refine aw_gI C fl_X3_24 rfl hv15 dX3_add_52 ?_
    refine aw_iconst C 1 dX3_add_55 (by decide) ?_
    refine aw_iadd C dX3_add_56 ?_
    obtain ⟨μ16, hμ16, h⟩ := bindE h
    refine aw_pI C fl_X3_24 rfl hμ16 dX3_add_57 ?_
    have e9 := inj1 h
    subst e9
    exact aw_sub [] rfl kj6
set_option maxRecDepth 100000 in
set_option maxHeartbeats 4000000 in
theorem mt_X3_add {G : GL} {l : Launch} {a0 : Nat} {x1 : Int32} {x2 : Int32} {x3 : Int32} {x4 : Int32} {μ : Mem} {μ' : Mem} (h : X3_add a0 x1 x2 x3 x4 μ = some μ') : MtV G l yX3_add cX3_add 5 none rm_X3_add false [.ref (gZ G + a0), .int x1, .int x2, .int x3, .int x4] μ μ' := met_V (by decide) rfl (Nat.le_of_ble_eq_true rfl) (fun X _ C _ _ hret => wk_X3_add C h hret)
set_option maxRecDepth 100000 in
set_option maxHeartbeats 4000000 in
theorem wk_X2_finish {G : GL} {X : CX} {a0 : Nat} {a1 : Nat} {x2 : Int32} {x3 : Int32} {x4 : Int32} {x5 : Int32} {μ : Mem} {μ' : Mem} (C : Ctx G X cX2_finish 6 RX2 rm_X2_finish) (h : X2_finish a0 a1 x2 x3 x4 x5 μ = some μ') (hret : RtV G 6 X cX2_finish 0 0 μ') : AW G 6 X 0 0 0 [(0, .ref (gZ G + a0)), (1, .ref (gZ G + a1)), (2, .int x2), (3, .int x3), (4, .int x4), (5, .int x5)] [] μ := by
  unfold X2_finish at h
  refine aw_aload_n C 0 dX2_finish_0 rfl rfl ?_
  obtain ⟨g1, hg1, h⟩ := bindE h
  obtain ⟨μ2, hμ2, h⟩ := bindE h
  refine aw_cV_V C [] _ (mt_X2_skipBlanks hμ2) cs_X2_skipBlanks ml_X2_33 im_X2_skipBlanks se_X2_skipBlanks (ci := 2) rfl rfl hg1 ⟨by decide, by decide⟩ ⟨rfl, rfl⟩ ⟨Nat.zero_le _, Nat.zero_le _⟩ rfl rfl (Nat.le_of_ble_eq_true rfl) dX2_finish_1 ?_
  refine aw_aload_n C 0 dX2_finish_4 rfl rfl ?_
  obtain ⟨v3, hv3, h⟩ := bindE h
  refine aw_gI C fl_X2_22 rfl hv3 dX2_finish_5 ?_
  refine aw_aload_n C 0 dX2_finish_8 rfl rfl ?_
  obtain ⟨v4, hv4, h⟩ := bindE h
  refine aw_gI C fl_X2_19 rfl hv4 dX2_finish_9 ?_
  obtain ⟨z16, hz16, h⟩ := bindE h
  have kj12 : AW G 6 X 0 0 38 [(0, .ref (gZ G + a0)), (1, .ref (gZ G + a1)), (2, .int x2), (3, .int x3), (4, .int x4), (5, .int x5)] [] z16 := by
    refine aw_aload_n C 0 dX2_finish_38 rfl rfl ?_
    obtain ⟨v17, hv17, h⟩ := bindE h
    refine aw_gI C fl_X2_25 rfl hv17 dX2_finish_39 ?_
    obtain ⟨z23, hz23, h⟩ := bindE h
    have kj42 : AW G 6 X 0 0 65 [] [] z23 := by
      have e9 := inj1 h
      subst e9
      exact hret _ _ dX2_finish_65
    replace h := hz23
    refine aw_if_ne C 65 dX2_finish_42 (by decide) (fun c18 => ?_) (fun c18 => ?_)
    · rw [if_neg c18] at h
      have e9 := inj1 h
      subst e9
      exact aw_sub [] rfl kj42
    · rw [if_pos c18] at h
      refine aw_aload_n C 0 dX2_finish_45 rfl rfl ?_
      refine aw_dup C dX2_finish_46 rfl ?_
      obtain ⟨v19, hv19, h⟩ := bindE h
      refine aw_gI C fl_X2_22 rfl hv19 dX2_finish_47 ?_
      refine aw_iconst C 1 dX2_finish_50 (by decide) ?_
      refine aw_iadd C dX2_finish_51 ?_
      obtain ⟨μ20, hμ20, h⟩ := bindE h
      refine aw_pI C fl_X2_22 rfl hμ20 dX2_finish_52 ?_
      refine aw_aload_n C 1 dX2_finish_55 rfl rfl ?_
      refine aw_iload_n C 2 dX2_finish_56 rfl rfl ?_
      refine aw_iload_n C 3 dX2_finish_57 rfl rfl ?_
      refine aw_iload C 4 dX2_finish_58 rfl ?_
      refine aw_iload C 5 dX2_finish_60 rfl ?_
      obtain ⟨g21, hg21, h⟩ := bindE h
      obtain ⟨μ22, hμ22, h⟩ := bindE h
      refine aw_cV_V C [.int x2, .int x3, .int x4, .int x5] _ (mt_X3_add hμ22) cs_X3_add ml_X2_85 im_X3_add se_X3_add (ci := 3) rfl rfl hg21 ⟨by decide, by decide⟩ ⟨rfl, rfl⟩ ⟨Nat.zero_le _, Nat.zero_le _⟩ rfl rfl (Nat.le_of_ble_eq_true rfl) dX2_finish_62 ?_
      have e9 := inj1 h
      subst e9
      exact aw_sub [] rfl kj42
  replace h := hz16
  refine aw_icmp_ge C 29 dX2_finish_12 (by decide) (fun c5 => ?_) (fun c5 => ?_)
  · rw [if_pos c5] at h
    refine aw_aload_n C 0 dX2_finish_29 rfl rfl ?_
    refine aw_iconst C 1 dX2_finish_30 (by decide) ?_
    refine aw_aload_n C 0 dX2_finish_31 rfl rfl ?_
    obtain ⟨v6, hv6, h⟩ := bindE h
    refine aw_gI C fl_X2_22 rfl hv6 dX2_finish_32 ?_
    obtain ⟨g7, hg7, h⟩ := bindE h
    obtain ⟨μ8, hμ8, h⟩ := bindE h
    refine aw_cV_V C [.int 1, .int v6] _ (mt_X2_note hμ8) cs_X2_note ml_X2_73 im_X2_note se_X2_note (ci := 2) rfl rfl hg7 ⟨by decide, by decide⟩ ⟨rfl, rfl⟩ ⟨Nat.zero_le _, Nat.zero_le _⟩ rfl rfl (Nat.le_of_ble_eq_true rfl) dX2_finish_35 ?_
    have e9 := inj1 h
    subst e9
    exact aw_sub [0, 1, 2, 3, 4, 5] rfl kj12
  · rw [if_neg c5] at h
    refine aw_aload_n C 0 dX2_finish_15 rfl rfl ?_
    obtain ⟨v9, hv9, h⟩ := bindE h
    refine aw_gR C fl_X2_15 rfl hv9 dX2_finish_16 ?_
    refine aw_aload_n C 0 dX2_finish_19 rfl rfl ?_
    obtain ⟨v10, hv10, h⟩ := bindE h
    refine aw_gI C fl_X2_22 rfl hv10 dX2_finish_20 ?_
    obtain ⟨v11, hv11, h⟩ := bindE h
    refine aw_aI C hv11 dX2_finish_23 ?_
    refine aw_bipush C 59 dX2_finish_24 (by decide) ?_
    refine aw_icmp_eq C 38 dX2_finish_26 (by decide) (fun c12 => ?_) (fun c12 => ?_)
    · rw [if_pos c12] at h
      have e9 := inj1 h
      subst e9
      exact aw_sub [0, 1, 2, 3, 4, 5] rfl kj12
    · rw [if_neg c12] at h
      refine aw_aload_n C 0 dX2_finish_29 rfl rfl ?_
      refine aw_iconst C 1 dX2_finish_30 (by decide) ?_
      refine aw_aload_n C 0 dX2_finish_31 rfl rfl ?_
      obtain ⟨v13, hv13, h⟩ := bindE h
      refine aw_gI C fl_X2_22 rfl hv13 dX2_finish_32 ?_
      obtain ⟨g14, hg14, h⟩ := bindE h
      obtain ⟨μ15, hμ15, h⟩ := bindE h
      refine aw_cV_V C [.int 1, .int v13] _ (mt_X2_note hμ15) cs_X2_note ml_X2_73 im_X2_note se_X2_note (ci := 2) rfl rfl hg14 ⟨by decide, by decide⟩ ⟨rfl, rfl⟩ ⟨Nat.zero_le _, Nat.zero_le _⟩ rfl rfl (Nat.le_of_ble_eq_true rfl) dX2_finish_35 ?_
      have e9 := inj1 h
      subst e9
      exact aw_sub [0, 1, 2, 3, 4, 5] rfl kj12
set_option maxRecDepth 100000 in
set_option maxHeartbeats 4000000 in
theorem mt_X2_finish {G : GL} {l : Launch} {a0 : Nat} {a1 : Nat} {x2 : Int32} {x3 : Int32} {x4 : Int32} {x5 : Int32} {μ : Mem} {μ' : Mem} (h : X2_finish a0 a1 x2 x3 x4 x5 μ = some μ') : MtV G l yX2_finish cX2_finish 6 none rm_X2_finish false [.ref (gZ G + a0), .ref (gZ G + a1), .int x2, .int x3, .int x4, .int x5] μ μ' := met_V (by decide) rfl (Nat.le_of_ble_eq_true rfl) (fun X _ C _ _ hret => wk_X2_finish C h hret)
set_option maxRecDepth 100000 in
set_option maxHeartbeats 4000000 in
theorem wk_X2_needWord {G : GL} {X : CX} {a0 : Nat} {w1 : Nat} {μ : Mem} {μ' : Mem} (C : Ctx G X cX2_needWord 2 RX2 rm_X2_needWord) (h : X2_needWord a0 w1 μ = some μ') (hret : RtV G 2 X cX2_needWord 0 0 μ') : AW G 2 X 0 0 0 [(0, .ref (gZ G + a0)), (1, .ref (gK G w1))] [] μ := by
  unfold X2_needWord at h
  refine aw_aload_n C 0 dX2_needWord_0 rfl rfl ?_
  refine aw_aload_n C 1 dX2_needWord_1 rfl rfl ?_
  obtain ⟨g1, hg1, h⟩ := bindE h
  obtain ⟨z2, hz2, h⟩ := bindE h
  refine aw_cV_I C [.ref (gK G w1)] _ (mt_X2_takeWord hz2) cs_X2_takeWord ml_X2_42 im_X2_takeWord se_X2_takeWord (ci := 2) rfl rfl hg1 ⟨by decide, by decide⟩ ⟨rfl, rfl⟩ ⟨Nat.zero_le _, Nat.zero_le _⟩ rfl rfl (Nat.le_of_ble_eq_true rfl) dX2_needWord_2 ?_
  obtain ⟨z7, hz7, h⟩ := bindE h
  have kj5 : AW G 2 X 0 0 17 [] [] z7 := by
    have e9 := inj1 h
    subst e9
    exact hret _ _ dX2_needWord_17
  replace h := hz7
  refine aw_if_ne C 17 dX2_needWord_5 (by decide) (fun c3 => ?_) (fun c3 => ?_)
  · rw [if_neg c3] at h
    have e9 := inj1 h
    subst e9
    exact aw_sub [] rfl kj5
  · rw [if_pos c3] at h
    refine aw_aload_n C 0 dX2_needWord_8 rfl rfl ?_
    refine aw_iconst C 1 dX2_needWord_9 (by decide) ?_
    refine aw_aload_n C 0 dX2_needWord_10 rfl rfl ?_
    obtain ⟨v4, hv4, h⟩ := bindE h
    refine aw_gI C fl_X2_22 rfl hv4 dX2_needWord_11 ?_
    obtain ⟨g5, hg5, h⟩ := bindE h
    obtain ⟨μ6, hμ6, h⟩ := bindE h
    refine aw_cV_V C [.int 1, .int v4] _ (mt_X2_note hμ6) cs_X2_note ml_X2_73 im_X2_note se_X2_note (ci := 2) rfl rfl hg5 ⟨by decide, by decide⟩ ⟨rfl, rfl⟩ ⟨Nat.zero_le _, Nat.zero_le _⟩ rfl rfl (Nat.le_of_ble_eq_true rfl) dX2_needWord_14 ?_
    have e9 := inj1 h
    subst e9
    exact aw_sub [] rfl kj5
set_option maxRecDepth 100000 in
set_option maxHeartbeats 4000000 in
theorem mt_X2_needWord {G : GL} {l : Launch} {a0 : Nat} {w1 : Nat} {μ : Mem} {μ' : Mem} (h : X2_needWord a0 w1 μ = some μ') : MtV G l yX2_needWord cX2_needWord 2 none rm_X2_needWord false [.ref (gZ G + a0), .ref (gK G w1)] μ μ' := met_V (by decide) rfl (Nat.le_of_ble_eq_true rfl) (fun X _ C _ _ hret => wk_X2_needWord C h hret)
set_option maxRecDepth 100000 in
set_option maxHeartbeats 4000000 in
theorem wk_X2_readNever {G : GL} {X : CX} {a0 : Nat} {a1 : Nat} {μ : Mem} {μ' : Mem} (C : Ctx G X cX2_readNever 5 RX2 rm_X2_readNever) (h : X2_readNever a0 a1 μ = some μ') (hret : RtV G 5 X cX2_readNever 0 0 μ') : AW G 5 X 0 0 0 [(0, .ref (gZ G + a0)), (1, .ref (gZ G + a1))] [] μ := by
  unfold X2_readNever at h
  refine aw_aload_n C 0 dX2_readNever_0 rfl rfl ?_
  refine aw_ldcS C (i := 77) (j := 1) rfl dX2_readNever_1 ?_
  obtain ⟨g1, hg1, h⟩ := bindE h
  obtain ⟨z2, hz2, h⟩ := bindE h
  refine aw_cV_I C [.ref (gK G 1)] _ (mt_X2_takeWord hz2) cs_X2_takeWord ml_X2_42 im_X2_takeWord se_X2_takeWord (ci := 2) rfl rfl hg1 ⟨by decide, by decide⟩ ⟨rfl, rfl⟩ ⟨Nat.zero_le _, Nat.zero_le _⟩ rfl rfl (Nat.le_of_ble_eq_true rfl) dX2_readNever_3 ?_
  obtain ⟨z28, hz28, h⟩ := bindE h
  have kj6 : AW G 5 X 0 0 102 [] [] z28 := by
    have e9 := inj1 h
    subst e9
    exact hret _ _ dX2_readNever_102
  replace h := hz28
  refine aw_if_eq C 66 dX2_readNever_6 (by decide) (fun c3 => ?_) (fun c3 => ?_)
  · rw [if_pos c3] at h
    refine aw_aload_n C 0 dX2_readNever_66 rfl rfl ?_
    refine aw_ldcS C (i := 81) (j := 3) rfl dX2_readNever_67 ?_
    obtain ⟨g4, hg4, h⟩ := bindE h
    obtain ⟨μ5, hμ5, h⟩ := bindE h
    refine aw_cV_V C [.ref (gK G 3)] _ (mt_X2_needWord hμ5) cs_X2_needWord ml_X2_61 im_X2_needWord se_X2_needWord (ci := 2) rfl rfl hg4 ⟨by decide, by decide⟩ ⟨rfl, rfl⟩ ⟨Nat.zero_le _, Nat.zero_le _⟩ rfl rfl (Nat.le_of_ble_eq_true rfl) dX2_readNever_69 ?_
    refine aw_aload_n C 0 dX2_readNever_72 rfl rfl ?_
    refine aw_iconst C 0 dX2_readNever_73 (by decide) ?_
    refine aw_iconst C 3 dX2_readNever_74 (by decide) ?_
    obtain ⟨g6, hg6, h⟩ := bindE h
    obtain ⟨z7, hz7, h⟩ := bindE h
    refine aw_cV_I C [.int 0, .int 3] _ (mt_X2_takeNumber hz7) cs_X2_takeNumber ml_X2_55 im_X2_takeNumber se_X2_takeNumber (ci := 2) rfl rfl hg6 ⟨by decide, by decide⟩ ⟨rfl, rfl⟩ ⟨Nat.zero_le _, Nat.zero_le _⟩ rfl rfl (Nat.le_of_ble_eq_true rfl) dX2_readNever_75 ?_
    refine aw_istore_n C [(2, .int z7.1), (0, .ref (gZ G + a0)), (1, .ref (gZ G + a1))] dX2_readNever_78 rfl (by decide) rfl ?_
    refine aw_aload_n C 1 dX2_readNever_79 rfl rfl ?_
    refine aw_ldcS C (i := 83) (j := 4) rfl dX2_readNever_80 ?_
    obtain ⟨g8, hg8, h⟩ := bindE h
    obtain ⟨μ9, hμ9, h⟩ := bindE h
    refine aw_cV_V C [.ref (gK G 4)] _ (mt_X2_needWord hμ9) cs_X2_needWord ml_X2_61 im_X2_needWord se_X2_needWord (ci := 2) rfl rfl hg8 ⟨by decide, by decide⟩ ⟨rfl, rfl⟩ ⟨Nat.zero_le _, Nat.zero_le _⟩ rfl rfl (Nat.le_of_ble_eq_true rfl) dX2_readNever_82 ?_
    refine aw_aload_n C 1 dX2_readNever_85 rfl rfl ?_
    refine aw_iconst C 0 dX2_readNever_86 (by decide) ?_
    refine aw_bipush C 60 dX2_readNever_87 (by decide) ?_
    obtain ⟨g10, hg10, h⟩ := bindE h
    obtain ⟨z11, hz11, h⟩ := bindE h
    refine aw_cV_I C [.int 0, .int 60] _ (mt_X2_takeNumber hz11) cs_X2_takeNumber ml_X2_55 im_X2_takeNumber se_X2_takeNumber (ci := 2) rfl rfl hg10 ⟨by decide, by decide⟩ ⟨rfl, rfl⟩ ⟨Nat.zero_le _, Nat.zero_le _⟩ rfl rfl (Nat.le_of_ble_eq_true rfl) dX2_readNever_89 ?_
    refine aw_istore_n C [(3, .int z11.1), (2, .int z7.1), (0, .ref (gZ G + a0)), (1, .ref (gZ G + a1))] dX2_readNever_92 rfl (by decide) rfl ?_
    refine aw_aload_n C 2 dX2_readNever_93 rfl rfl ?_
    refine aw_aload_n C 3 dX2_readNever_94 rfl rfl ?_
    refine aw_iconst C 2 dX2_readNever_95 (by decide) ?_
    refine aw_iload_n C 1 dX2_readNever_96 rfl rfl ?_
    refine aw_iload_n C 0 dX2_readNever_97 rfl rfl ?_
    refine aw_iconst C 0 dX2_readNever_98 (by decide) ?_
    obtain ⟨g12, hg12, h⟩ := bindE h
    obtain ⟨μ13, hμ13, h⟩ := bindE h
    refine aw_cV_V C [.ref (gZ G + a1), .int 2, .int z7.1, .int z11.1, .int 0] _ (mt_X2_finish hμ13) cs_X2_finish ml_X2_65 im_X2_finish se_X2_finish (ci := 2) rfl rfl hg12 ⟨by decide, by decide⟩ ⟨rfl, rfl⟩ ⟨Nat.zero_le _, Nat.zero_le _⟩ rfl rfl (Nat.le_of_ble_eq_true rfl) dX2_readNever_99 ?_
    have e9 := inj1 h
    subst e9
    exact aw_sub [] rfl kj6
  · rw [if_neg c3] at h
    refine aw_aload_n C 0 dX2_readNever_9 rfl rfl ?_
    refine aw_iconst C 0 dX2_readNever_10 (by decide) ?_
    refine aw_iconst C 3 dX2_readNever_11 (by decide) ?_
    obtain ⟨g14, hg14, h⟩ := bindE h
    obtain ⟨z15, hz15, h⟩ := bindE h
    refine aw_cV_I C [.int 0, .int 3] _ (mt_X2_takeNumber hz15) cs_X2_takeNumber ml_X2_55 im_X2_takeNumber se_X2_takeNumber (ci := 2) rfl rfl hg14 ⟨by decide, by decide⟩ ⟨rfl, rfl⟩ ⟨Nat.zero_le _, Nat.zero_le _⟩ rfl rfl (Nat.le_of_ble_eq_true rfl) dX2_readNever_12 ?_
    refine aw_istore_n C [(2, .int z15.1), (0, .ref (gZ G + a0)), (1, .ref (gZ G + a1))] dX2_readNever_15 rfl (by decide) rfl ?_
    refine aw_aload_n C 1 dX2_readNever_16 rfl rfl ?_
    refine aw_ldcS C (i := 79) (j := 2) rfl dX2_readNever_17 ?_
    obtain ⟨g16, hg16, h⟩ := bindE h
    obtain ⟨z17, hz17, h⟩ := bindE h
    refine aw_cV_I C [.ref (gK G 2)] _ (mt_X2_takeWord hz17) cs_X2_takeWord ml_X2_42 im_X2_takeWord se_X2_takeWord (ci := 2) rfl rfl hg16 ⟨by decide, by decide⟩ ⟨rfl, rfl⟩ ⟨Nat.zero_le _, Nat.zero_le _⟩ rfl rfl (Nat.le_of_ble_eq_true rfl) dX2_readNever_19 ?_
    obtain ⟨z27, hz27, h⟩ := bindE h
    have kj22 : AW G 5 X 0 0 63 [] [] z27 := by
      refine aw_goto C 102 dX2_readNever_63 (by decide) ?_
      have e9 := inj1 h
      subst e9
      exact aw_sub [] rfl kj6
    replace h := hz27
    refine aw_if_eq C 54 dX2_readNever_22 (by decide) (fun c18 => ?_) (fun c18 => ?_)
    · rw [if_pos c18] at h
      refine aw_aload_n C 1 dX2_readNever_54 rfl rfl ?_
      refine aw_aload_n C 2 dX2_readNever_55 rfl rfl ?_
      refine aw_iconst C 0 dX2_readNever_56 (by decide) ?_
      refine aw_iload_n C 0 dX2_readNever_57 rfl rfl ?_
      refine aw_iconst C 0 dX2_readNever_58 (by decide) ?_
      refine aw_iconst C 0 dX2_readNever_59 (by decide) ?_
      obtain ⟨g19, hg19, h⟩ := bindE h
      obtain ⟨μ20, hμ20, h⟩ := bindE h
      refine aw_cV_V C [.ref (gZ G + a1), .int 0, .int z15.1, .int 0, .int 0] _ (mt_X2_finish hμ20) cs_X2_finish ml_X2_65 im_X2_finish se_X2_finish (ci := 2) rfl rfl hg19 ⟨by decide, by decide⟩ ⟨rfl, rfl⟩ ⟨Nat.zero_le _, Nat.zero_le _⟩ rfl rfl (Nat.le_of_ble_eq_true rfl) dX2_readNever_60 ?_
      have e9 := inj1 h
      subst e9
      exact aw_sub [] rfl kj22
    · rw [if_neg c18] at h
      refine aw_aload_n C 1 dX2_readNever_25 rfl rfl ?_
      refine aw_iconst C 0 dX2_readNever_26 (by decide) ?_
      refine aw_iconst C 3 dX2_readNever_27 (by decide) ?_
      obtain ⟨g21, hg21, h⟩ := bindE h
      obtain ⟨z22, hz22, h⟩ := bindE h
      refine aw_cV_I C [.int 0, .int 3] _ (mt_X2_takeNumber hz22) cs_X2_takeNumber ml_X2_55 im_X2_takeNumber se_X2_takeNumber (ci := 2) rfl rfl hg21 ⟨by decide, by decide⟩ ⟨rfl, rfl⟩ ⟨Nat.zero_le _, Nat.zero_le _⟩ rfl rfl (Nat.le_of_ble_eq_true rfl) dX2_readNever_28 ?_
      refine aw_istore_n C [(3, .int z22.1), (2, .int z15.1), (0, .ref (gZ G + a0)), (1, .ref (gZ G + a1))] dX2_readNever_31 rfl (by decide) rfl ?_
      refine aw_aload_n C 2 dX2_readNever_32 rfl rfl ?_
      refine aw_iconst C 0 dX2_readNever_33 (by decide) ?_
      refine aw_bipush C 100 dX2_readNever_34 (by decide) ?_
      obtain ⟨g23, hg23, h⟩ := bindE h
      obtain ⟨z24, hz24, h⟩ := bindE h
      refine aw_cV_I C [.int 0, .int 100] _ (mt_X2_takeNumber hz24) cs_X2_takeNumber ml_X2_55 im_X2_takeNumber se_X2_takeNumber (ci := 2) rfl rfl hg23 ⟨by decide, by decide⟩ ⟨rfl, rfl⟩ ⟨Nat.zero_le _, Nat.zero_le _⟩ rfl rfl (Nat.le_of_ble_eq_true rfl) dX2_readNever_36 ?_
      refine aw_istore C [(4, .int z24.1), (3, .int z22.1), (2, .int z15.1), (0, .ref (gZ G + a0)), (1, .ref (gZ G + a1))] dX2_readNever_39 (by decide) rfl ?_
      refine aw_aload_n C 3 dX2_readNever_41 rfl rfl ?_
      refine aw_aload_n C 4 dX2_readNever_42 rfl rfl ?_
      refine aw_iconst C 1 dX2_readNever_43 (by decide) ?_
      refine aw_iload_n C 2 dX2_readNever_44 rfl rfl ?_
      refine aw_iload_n C 1 dX2_readNever_45 rfl rfl ?_
      refine aw_iload C 0 dX2_readNever_46 rfl ?_
      obtain ⟨g25, hg25, h⟩ := bindE h
      obtain ⟨μ26, hμ26, h⟩ := bindE h
      refine aw_cV_V C [.ref (gZ G + a1), .int 1, .int z15.1, .int z22.1, .int z24.1] _ (mt_X2_finish hμ26) cs_X2_finish ml_X2_65 im_X2_finish se_X2_finish (ci := 2) rfl rfl hg25 ⟨by decide, by decide⟩ ⟨rfl, rfl⟩ ⟨Nat.zero_le _, Nat.zero_le _⟩ rfl rfl (Nat.le_of_ble_eq_true rfl) dX2_readNever_48 ?_
      refine aw_goto C 63 dX2_readNever_51 (by decide) ?_
      have e9 := inj1 h
      subst e9
      exact aw_sub [] rfl kj22
set_option maxRecDepth 100000 in
set_option maxHeartbeats 4000000 in
theorem mt_X2_readNever {G : GL} {l : Launch} {a0 : Nat} {a1 : Nat} {μ : Mem} {μ' : Mem} (h : X2_readNever a0 a1 μ = some μ') : MtV G l yX2_readNever cX2_readNever 5 none rm_X2_readNever false [.ref (gZ G + a0), .ref (gZ G + a1)] μ μ' := met_V (by decide) rfl (Nat.le_of_ble_eq_true rfl) (fun X _ C _ _ hret => wk_X2_readNever C h hret)
set_option maxRecDepth 100000 in
set_option maxHeartbeats 4000000 in
theorem wk_X2_readClause {G : GL} {X : CX} {a0 : Nat} {a1 : Nat} {μ : Mem} {μ' : Mem} (C : Ctx G X cX2_readClause 5 RX2 rm_X2_readClause) (h : X2_readClause a0 a1 μ = some μ') (hret : RtV G 5 X cX2_readClause 0 0 μ') : AW G 5 X 0 0 0 [(0, .ref (gZ G + a0)), (1, .ref (gZ G + a1))] [] μ := by
  unfold X2_readClause at h
  refine aw_aload_n C 0 dX2_readClause_0 rfl rfl ?_
  obtain ⟨v1, hv1, h⟩ := bindE h
  refine aw_gI C fl_X2_22 rfl hv1 dX2_readClause_1 ?_
  refine aw_istore_n C [(2, .int v1), (0, .ref (gZ G + a0)), (1, .ref (gZ G + a1))] dX2_readClause_4 rfl (by decide) rfl ?_
  refine aw_aload_n C 1 dX2_readClause_5 rfl rfl ?_
  refine aw_ldcS C (i := 40) (j := 0) rfl dX2_readClause_6 ?_
  obtain ⟨g2, hg2, h⟩ := bindE h
  obtain ⟨z3, hz3, h⟩ := bindE h
  refine aw_cV_I C [.ref (gK G 0)] _ (mt_X2_takeWord hz3) cs_X2_takeWord ml_X2_42 im_X2_takeWord se_X2_takeWord (ci := 2) rfl rfl hg2 ⟨by decide, by decide⟩ ⟨rfl, rfl⟩ ⟨Nat.zero_le _, Nat.zero_le _⟩ rfl rfl (Nat.le_of_ble_eq_true rfl) dX2_readClause_8 ?_
  obtain ⟨z36, hz36, h⟩ := bindE h
  have kj11 : AW G 5 X 0 0 129 [] [] z36 := by
    have e9 := inj1 h
    subst e9
    exact hret _ _ dX2_readClause_129
  replace h := hz36
  refine aw_if_eq C 28 dX2_readClause_11 (by decide) (fun c4 => ?_) (fun c4 => ?_)
  · rw [if_pos c4] at h
    refine aw_aload_n C 1 dX2_readClause_28 rfl rfl ?_
    refine aw_ldcS C (i := 53) (j := 5) rfl dX2_readClause_29 ?_
    obtain ⟨g5, hg5, h⟩ := bindE h
    obtain ⟨z6, hz6, h⟩ := bindE h
    refine aw_cV_I C [.ref (gK G 5)] _ (mt_X2_takeWord hz6) cs_X2_takeWord ml_X2_42 im_X2_takeWord se_X2_takeWord (ci := 2) rfl rfl hg5 ⟨by decide, by decide⟩ ⟨rfl, rfl⟩ ⟨Nat.zero_le _, Nat.zero_le _⟩ rfl rfl (Nat.le_of_ble_eq_true rfl) dX2_readClause_31 ?_
    refine aw_if_eq C 79 dX2_readClause_34 (by decide) (fun c7 => ?_) (fun c7 => ?_)
    · rw [if_pos c7] at h
      refine aw_aload_n C 1 dX2_readClause_79 rfl rfl ?_
      refine aw_ldcS C (i := 69) (j := 7) rfl dX2_readClause_80 ?_
      obtain ⟨g8, hg8, h⟩ := bindE h
      obtain ⟨z9, hz9, h⟩ := bindE h
      refine aw_cV_I C [.ref (gK G 7)] _ (mt_X2_takeWord hz9) cs_X2_takeWord ml_X2_42 im_X2_takeWord se_X2_takeWord (ci := 2) rfl rfl hg8 ⟨by decide, by decide⟩ ⟨rfl, rfl⟩ ⟨Nat.zero_le _, Nat.zero_le _⟩ rfl rfl (Nat.le_of_ble_eq_true rfl) dX2_readClause_82 ?_
      refine aw_if_eq C 120 dX2_readClause_85 (by decide) (fun c10 => ?_) (fun c10 => ?_)
      · rw [if_pos c10] at h
        refine aw_aload_n C 1 dX2_readClause_120 rfl rfl ?_
        refine aw_iconst C 1 dX2_readClause_121 (by decide) ?_
        refine aw_aload_n C 1 dX2_readClause_122 rfl rfl ?_
        obtain ⟨v11, hv11, h⟩ := bindE h
        refine aw_gI C fl_X2_22 rfl hv11 dX2_readClause_123 ?_
        obtain ⟨g12, hg12, h⟩ := bindE h
        obtain ⟨μ13, hμ13, h⟩ := bindE h
        refine aw_cV_V C [.int 1, .int v11] _ (mt_X2_note hμ13) cs_X2_note ml_X2_73 im_X2_note se_X2_note (ci := 2) rfl rfl hg12 ⟨by decide, by decide⟩ ⟨rfl, rfl⟩ ⟨Nat.zero_le _, Nat.zero_le _⟩ rfl rfl (Nat.le_of_ble_eq_true rfl) dX2_readClause_126 ?_
        have e9 := inj1 h
        subst e9
        exact aw_sub [] rfl kj11
      · rw [if_neg c10] at h
        refine aw_aload_n C 1 dX2_readClause_88 rfl rfl ?_
        refine aw_aload_n C 2 dX2_readClause_89 rfl rfl ?_
        refine aw_iload_n C 0 dX2_readClause_90 rfl rfl ?_
        obtain ⟨g14, hg14, h⟩ := bindE h
        obtain ⟨μ15, hμ15, h⟩ := bindE h
        refine aw_cV_V C [.ref (gZ G + a1), .int v1] _ (mt_X2_refuseNinth hμ15) cs_X2_refuseNinth ml_X2_46 im_X2_refuseNinth se_X2_refuseNinth (ci := 2) rfl rfl hg14 ⟨by decide, by decide⟩ ⟨rfl, rfl⟩ ⟨Nat.zero_le _, Nat.zero_le _⟩ rfl rfl (Nat.le_of_ble_eq_true rfl) dX2_readClause_91 ?_
        refine aw_aload_n C 1 dX2_readClause_94 rfl rfl ?_
        refine aw_ldcS C (i := 71) (j := 8) rfl dX2_readClause_95 ?_
        obtain ⟨g16, hg16, h⟩ := bindE h
        obtain ⟨μ17, hμ17, h⟩ := bindE h
        refine aw_cV_V C [.ref (gK G 8)] _ (mt_X2_needWord hμ17) cs_X2_needWord ml_X2_61 im_X2_needWord se_X2_needWord (ci := 2) rfl rfl hg16 ⟨by decide, by decide⟩ ⟨rfl, rfl⟩ ⟨Nat.zero_le _, Nat.zero_le _⟩ rfl rfl (Nat.le_of_ble_eq_true rfl) dX2_readClause_97 ?_
        refine aw_aload_n C 1 dX2_readClause_100 rfl rfl ?_
        refine aw_iconst C 0 dX2_readClause_101 (by decide) ?_
        refine aw_bipush C 9 dX2_readClause_102 (by decide) ?_
        obtain ⟨g18, hg18, h⟩ := bindE h
        obtain ⟨z19, hz19, h⟩ := bindE h
        refine aw_cV_I C [.int 0, .int 9] _ (mt_X2_takeNumber hz19) cs_X2_takeNumber ml_X2_55 im_X2_takeNumber se_X2_takeNumber (ci := 2) rfl rfl hg18 ⟨by decide, by decide⟩ ⟨rfl, rfl⟩ ⟨Nat.zero_le _, Nat.zero_le _⟩ rfl rfl (Nat.le_of_ble_eq_true rfl) dX2_readClause_104 ?_
        refine aw_istore_n C [(3, .int z19.1), (2, .int v1), (0, .ref (gZ G + a0)), (1, .ref (gZ G + a1))] dX2_readClause_107 rfl (by decide) rfl ?_
        refine aw_aload_n C 2 dX2_readClause_108 rfl rfl ?_
        refine aw_aload_n C 3 dX2_readClause_109 rfl rfl ?_
        refine aw_iconst C 4 dX2_readClause_110 (by decide) ?_
        refine aw_iload_n C 0 dX2_readClause_111 rfl rfl ?_
        refine aw_iconst C 0 dX2_readClause_112 (by decide) ?_
        refine aw_iconst C 0 dX2_readClause_113 (by decide) ?_
        obtain ⟨g20, hg20, h⟩ := bindE h
        obtain ⟨μ21, hμ21, h⟩ := bindE h
        refine aw_cV_V C [.ref (gZ G + a1), .int 4, .int z19.1, .int 0, .int 0] _ (mt_X2_finish hμ21) cs_X2_finish ml_X2_65 im_X2_finish se_X2_finish (ci := 2) rfl rfl hg20 ⟨by decide, by decide⟩ ⟨rfl, rfl⟩ ⟨Nat.zero_le _, Nat.zero_le _⟩ rfl rfl (Nat.le_of_ble_eq_true rfl) dX2_readClause_114 ?_
        refine aw_goto C 129 dX2_readClause_117 (by decide) ?_
        have e9 := inj1 h
        subst e9
        exact aw_sub [] rfl kj11
    · rw [if_neg c7] at h
      refine aw_aload_n C 1 dX2_readClause_37 rfl rfl ?_
      refine aw_aload_n C 2 dX2_readClause_38 rfl rfl ?_
      refine aw_iload_n C 0 dX2_readClause_39 rfl rfl ?_
      obtain ⟨g22, hg22, h⟩ := bindE h
      obtain ⟨μ23, hμ23, h⟩ := bindE h
      refine aw_cV_V C [.ref (gZ G + a1), .int v1] _ (mt_X2_refuseNinth hμ23) cs_X2_refuseNinth ml_X2_46 im_X2_refuseNinth se_X2_refuseNinth (ci := 2) rfl rfl hg22 ⟨by decide, by decide⟩ ⟨rfl, rfl⟩ ⟨Nat.zero_le _, Nat.zero_le _⟩ rfl rfl (Nat.le_of_ble_eq_true rfl) dX2_readClause_40 ?_
      refine aw_aload_n C 1 dX2_readClause_43 rfl rfl ?_
      refine aw_iconst C 0 dX2_readClause_44 (by decide) ?_
      refine aw_bipush C 9 dX2_readClause_45 (by decide) ?_
      obtain ⟨g24, hg24, h⟩ := bindE h
      obtain ⟨z25, hz25, h⟩ := bindE h
      refine aw_cV_I C [.int 0, .int 9] _ (mt_X2_takeNumber hz25) cs_X2_takeNumber ml_X2_55 im_X2_takeNumber se_X2_takeNumber (ci := 2) rfl rfl hg24 ⟨by decide, by decide⟩ ⟨rfl, rfl⟩ ⟨Nat.zero_le _, Nat.zero_le _⟩ rfl rfl (Nat.le_of_ble_eq_true rfl) dX2_readClause_47 ?_
      refine aw_istore_n C [(3, .int z25.1), (2, .int v1), (0, .ref (gZ G + a0)), (1, .ref (gZ G + a1))] dX2_readClause_50 rfl (by decide) rfl ?_
      refine aw_aload_n C 2 dX2_readClause_51 rfl rfl ?_
      refine aw_ldcS C (i := 59) (j := 6) rfl dX2_readClause_52 ?_
      obtain ⟨g26, hg26, h⟩ := bindE h
      obtain ⟨μ27, hμ27, h⟩ := bindE h
      refine aw_cV_V C [.ref (gK G 6)] _ (mt_X2_needWord hμ27) cs_X2_needWord ml_X2_61 im_X2_needWord se_X2_needWord (ci := 2) rfl rfl hg26 ⟨by decide, by decide⟩ ⟨rfl, rfl⟩ ⟨Nat.zero_le _, Nat.zero_le _⟩ rfl rfl (Nat.le_of_ble_eq_true rfl) dX2_readClause_54 ?_
      refine aw_aload_n C 2 dX2_readClause_57 rfl rfl ?_
      refine aw_iconst C 1 dX2_readClause_58 (by decide) ?_
      refine aw_bipush C 60 dX2_readClause_59 (by decide) ?_
      obtain ⟨g28, hg28, h⟩ := bindE h
      obtain ⟨z29, hz29, h⟩ := bindE h
      refine aw_cV_I C [.int 1, .int 60] _ (mt_X2_takeNumber hz29) cs_X2_takeNumber ml_X2_55 im_X2_takeNumber se_X2_takeNumber (ci := 2) rfl rfl hg28 ⟨by decide, by decide⟩ ⟨rfl, rfl⟩ ⟨Nat.zero_le _, Nat.zero_le _⟩ rfl rfl (Nat.le_of_ble_eq_true rfl) dX2_readClause_61 ?_
      refine aw_istore C [(4, .int z29.1), (3, .int z25.1), (2, .int v1), (0, .ref (gZ G + a0)), (1, .ref (gZ G + a1))] dX2_readClause_64 (by decide) rfl ?_
      refine aw_aload_n C 3 dX2_readClause_66 rfl rfl ?_
      refine aw_aload_n C 4 dX2_readClause_67 rfl rfl ?_
      refine aw_iconst C 3 dX2_readClause_68 (by decide) ?_
      refine aw_iload_n C 1 dX2_readClause_69 rfl rfl ?_
      refine aw_iload C 0 dX2_readClause_70 rfl ?_
      refine aw_iconst C 0 dX2_readClause_72 (by decide) ?_
      obtain ⟨g30, hg30, h⟩ := bindE h
      obtain ⟨μ31, hμ31, h⟩ := bindE h
      refine aw_cV_V C [.ref (gZ G + a1), .int 3, .int z25.1, .int z29.1, .int 0] _ (mt_X2_finish hμ31) cs_X2_finish ml_X2_65 im_X2_finish se_X2_finish (ci := 2) rfl rfl hg30 ⟨by decide, by decide⟩ ⟨rfl, rfl⟩ ⟨Nat.zero_le _, Nat.zero_le _⟩ rfl rfl (Nat.le_of_ble_eq_true rfl) dX2_readClause_73 ?_
      refine aw_goto C 129 dX2_readClause_76 (by decide) ?_
      have e9 := inj1 h
      subst e9
      exact aw_sub [] rfl kj11
  · rw [if_neg c4] at h
    refine aw_aload_n C 1 dX2_readClause_14 rfl rfl ?_
    refine aw_aload_n C 2 dX2_readClause_15 rfl rfl ?_
    refine aw_iload_n C 0 dX2_readClause_16 rfl rfl ?_
    obtain ⟨g32, hg32, h⟩ := bindE h
    obtain ⟨μ33, hμ33, h⟩ := bindE h
    refine aw_cV_V C [.ref (gZ G + a1), .int v1] _ (mt_X2_refuseNinth hμ33) cs_X2_refuseNinth ml_X2_46 im_X2_refuseNinth se_X2_refuseNinth (ci := 2) rfl rfl hg32 ⟨by decide, by decide⟩ ⟨rfl, rfl⟩ ⟨Nat.zero_le _, Nat.zero_le _⟩ rfl rfl (Nat.le_of_ble_eq_true rfl) dX2_readClause_17 ?_
    refine aw_aload_n C 1 dX2_readClause_20 rfl rfl ?_
    refine aw_aload_n C 2 dX2_readClause_21 rfl rfl ?_
    obtain ⟨g34, hg34, h⟩ := bindE h
    obtain ⟨μ35, hμ35, h⟩ := bindE h
    refine aw_cV_V C [.ref (gZ G + a1)] _ (mt_X2_readNever hμ35) cs_X2_readNever ml_X2_50 im_X2_readNever se_X2_readNever (ci := 2) rfl rfl hg34 ⟨by decide, by decide⟩ ⟨rfl, rfl⟩ ⟨Nat.zero_le _, Nat.zero_le _⟩ rfl rfl (Nat.le_of_ble_eq_true rfl) dX2_readClause_22 ?_
    refine aw_goto C 129 dX2_readClause_25 (by decide) ?_
    have e9 := inj1 h
    subst e9
    exact aw_sub [] rfl kj11
set_option maxRecDepth 100000 in
set_option maxHeartbeats 4000000 in
theorem mt_X2_readClause {G : GL} {l : Launch} {a0 : Nat} {a1 : Nat} {μ : Mem} {μ' : Mem} (h : X2_readClause a0 a1 μ = some μ') : MtV G l yX2_readClause cX2_readClause 5 none rm_X2_readClause false [.ref (gZ G + a0), .ref (gZ G + a1)] μ μ' := met_V (by decide) rfl (Nat.le_of_ble_eq_true rfl) (fun X _ C _ _ hret => wk_X2_readClause C h hret)
set_option maxRecDepth 100000 in
set_option maxHeartbeats 4000000 in
theorem X2_parse_L26_ok {G : GL} {X : CX} (C : Ctx G X cX2_parse 3 RX2 rm_X2_parse) (a0 : Nat) (a1 : Nat) : ∀ (n : Nat) (x2 : Int32) (μ : Mem) (z : Int32 × Mem), X2_parse_L26 a0 a1 n x2 μ = some z → AW G 3 X 0 0 66 [(0, .ref (gZ G + a0)), (1, .ref (gZ G + a1)), (2, .int z.1)] [] z.2 → AW G 3 X 0 0 26 [(0, .ref (gZ G + a0)), (1, .ref (gZ G + a1)), (2, .int x2)] [] μ := by
  intro n
  induction n with
  | zero =>
    intro x2 μ z h kx
    rw [X2_parse_L26] at h
    cases h
  | succ n ih =>
    intro x2 μ z h kx
    rw [X2_parse_L26] at h
    refine aw_iload_n C 2 dX2_parse_26 rfl rfl ?_
    refine aw_sipush C 160 dX2_parse_27 (by decide) ?_
    refine aw_icmp_ge C 66 dX2_parse_30 (by decide) (fun c1 => ?_) (fun c1 => ?_)
    · rw [if_pos c1] at h
      have e9 := inj1 h
      subst e9
      exact aw_sub [0, 1, 2] rfl kx
    · rw [if_neg c1] at h
      refine aw_aload_n C 0 dX2_parse_33 rfl rfl ?_
      obtain ⟨v2, hv2, h⟩ := bindE h
      refine aw_gI C fl_X2_22 rfl hv2 dX2_parse_34 ?_
      refine aw_aload_n C 0 dX2_parse_37 rfl rfl ?_
      obtain ⟨v3, hv3, h⟩ := bindE h
      refine aw_gI C fl_X2_19 rfl hv3 dX2_parse_38 ?_
      refine aw_icmp_ge C 66 dX2_parse_41 (by decide) (fun c4 => ?_) (fun c4 => ?_)
      · rw [if_pos c4] at h
        have e9 := inj1 h
        subst e9
        exact aw_sub [0, 1, 2] rfl kx
      · rw [if_neg c4] at h
        refine aw_aload_n C 0 dX2_parse_44 rfl rfl ?_
        obtain ⟨v5, hv5, h⟩ := bindE h
        refine aw_gI C fl_X2_25 rfl hv5 dX2_parse_45 ?_
        refine aw_if_ne C 66 dX2_parse_48 (by decide) (fun c6 => ?_) (fun c6 => ?_)
        · rw [if_neg c6] at h
          have e9 := inj1 h
          subst e9
          exact aw_sub [0, 1, 2] rfl kx
        · rw [if_pos c6] at h
          refine aw_aload_n C 0 dX2_parse_51 rfl rfl ?_
          refine aw_aload_n C 1 dX2_parse_52 rfl rfl ?_
          obtain ⟨g7, hg7, h⟩ := bindE h
          obtain ⟨μ8, hμ8, h⟩ := bindE h
          refine aw_cV_V C [.ref (gZ G + a1)] _ (mt_X2_readClause hμ8) cs_X2_readClause ml_X2_36 im_X2_readClause se_X2_readClause (ci := 2) rfl rfl hg7 ⟨by decide, by decide⟩ ⟨rfl, rfl⟩ ⟨Nat.zero_le _, Nat.zero_le _⟩ rfl rfl (Nat.le_of_ble_eq_true rfl) dX2_parse_53 ?_
          refine aw_aload_n C 0 dX2_parse_56 rfl rfl ?_
          obtain ⟨g9, hg9, h⟩ := bindE h
          obtain ⟨μ10, hμ10, h⟩ := bindE h
          refine aw_cV_V C [] _ (mt_X2_skipBlanks hμ10) cs_X2_skipBlanks ml_X2_33 im_X2_skipBlanks se_X2_skipBlanks (ci := 2) rfl rfl hg9 ⟨by decide, by decide⟩ ⟨rfl, rfl⟩ ⟨Nat.zero_le _, Nat.zero_le _⟩ rfl rfl (Nat.le_of_ble_eq_true rfl) dX2_parse_57 ?_
          refine aw_iinc C (x2 + 1) 2 [(2, .int (x2 + 1)), (0, .ref (gZ G + a0)), (1, .ref (gZ G + a1))] dX2_parse_60 rfl rfl (by decide) rfl ?_
          refine aw_goto C 26 dX2_parse_63 (by decide) ?_
          exact aw_sub [1, 2, 0] rfl (ih _ _ _ h kx)
set_option maxRecDepth 100000 in
set_option maxHeartbeats 4000000 in
theorem wk_X2_parse {G : GL} {X : CX} {a0 : Nat} {a1 : Nat} {μ : Mem} {μ' : Mem} (C : Ctx G X cX2_parse 3 RX2 rm_X2_parse) (h : X2_parse a0 a1 μ = some μ') (hret : RtV G 3 X cX2_parse 0 0 μ') : AW G 3 X 0 0 0 [(0, .ref (gZ G + a0)), (1, .ref (gZ G + a1))] [] μ := by
  unfold X2_parse at h
  refine aw_aload_n C 0 dX2_parse_0 rfl rfl ?_
  refine aw_iconst C 0 dX2_parse_1 (by decide) ?_
  obtain ⟨μ1, hμ1, h⟩ := bindE h
  refine aw_pI C fl_X2_22 rfl hμ1 dX2_parse_2 ?_
  refine aw_aload_n C 0 dX2_parse_5 rfl rfl ?_
  refine aw_iconst C 0 dX2_parse_6 (by decide) ?_
  obtain ⟨μ2, hμ2, h⟩ := bindE h
  refine aw_pI C fl_X2_25 rfl hμ2 dX2_parse_7 ?_
  refine aw_aload_n C 0 dX2_parse_10 rfl rfl ?_
  refine aw_iconst C ((-1)) dX2_parse_11 (by decide) ?_
  obtain ⟨μ3, hμ3, h⟩ := bindE h
  refine aw_pI C fl_X2_9 rfl hμ3 dX2_parse_12 ?_
  refine aw_aload_n C 1 dX2_parse_15 rfl rfl ?_
  refine aw_iconst C 0 dX2_parse_16 (by decide) ?_
  obtain ⟨μ4, hμ4, h⟩ := bindE h
  refine aw_pI C fl_X2_28 rfl hμ4 dX2_parse_17 ?_
  refine aw_aload_n C 0 dX2_parse_20 rfl rfl ?_
  obtain ⟨g5, hg5, h⟩ := bindE h
  obtain ⟨μ6, hμ6, h⟩ := bindE h
  refine aw_cV_V C [] _ (mt_X2_skipBlanks hμ6) cs_X2_skipBlanks ml_X2_33 im_X2_skipBlanks se_X2_skipBlanks (ci := 2) rfl rfl hg5 ⟨by decide, by decide⟩ ⟨rfl, rfl⟩ ⟨Nat.zero_le _, Nat.zero_le _⟩ rfl rfl (Nat.le_of_ble_eq_true rfl) dX2_parse_21 ?_
  refine aw_iconst C 0 dX2_parse_24 (by decide) ?_
  refine aw_istore_n C [(2, .int 0), (0, .ref (gZ G + a0)), (1, .ref (gZ G + a1))] dX2_parse_25 rfl (by decide) rfl ?_
  obtain ⟨z7, hz7, h⟩ := bindE h
  refine aw_sub [1, 2, 0] rfl ?_
  refine X2_parse_L26_ok C _ _ _ _ _ _ hz7 ?_
  have e9 := inj1 h
  subst e9
  exact hret _ _ dX2_parse_66
set_option maxRecDepth 100000 in
set_option maxHeartbeats 4000000 in
theorem mt_X2_parse {G : GL} {l : Launch} {a0 : Nat} {a1 : Nat} {μ : Mem} {μ' : Mem} (h : X2_parse a0 a1 μ = some μ') : MtV G l yX2_parse cX2_parse 3 none rm_X2_parse false [.ref (gZ G + a0), .ref (gZ G + a1)] μ μ' := met_V (by decide) rfl (Nat.le_of_ble_eq_true rfl) (fun X _ C _ _ hret => wk_X2_parse C h hret)
set_option maxRecDepth 100000 in
set_option maxHeartbeats 4000000 in
theorem wk_X3_init {G : GL} {X : CX} {a0 : Nat} {μ : Mem} {μ' : Mem} (C : Ctx G X cX3_init 1 RX3 rm_X3_init) (hi : (xT X).name = "<init>") (hb : (xS X).heap.size = gZ G + mN μ) (h : X3_init a0 μ = some μ') (hret : RtV G 1 X cX3_init 4 32 μ') : AW G 1 X 0 0 0 [(0, .ref (gZ G + a0))] [] μ := by
  unfold X3_init at h
  refine aw_aload_n C 0 dX3_init_0 rfl rfl ?_
  refine aw_oinit C mo_X3_3 ob_im ob_co (by decide) (by decide) (Nat.le_of_ble_eq_true rfl) dX3_init_1 ?_
  refine aw_aload_n C 0 dX3_init_4 rfl rfl ?_
  refine aw_bipush C 8 dX3_init_5 (by decide) ?_
  obtain ⟨μ1, hμ1, h⟩ := bindE h
  refine aw_newaI C (N' := 8) 1 8 ac_int hb hμ1 (by decide) (by decide) (by decide) (by decide) rfl rfl dX3_init_7 ?_
  obtain ⟨μ2, hμ2, h⟩ := bindE h
  refine aw_pRF C fl_X3_9 hi rfl rfl rfl rfl hμ2 dX3_init_9 ?_
  refine aw_aload_n C 0 dX3_init_12 rfl rfl ?_
  refine aw_bipush C 8 dX3_init_13 (by decide) ?_
  obtain ⟨μ3, hμ3, h⟩ := bindE h
  refine aw_newaI C (N' := 8) 2 16 ac_int hb hμ3 (by decide) (by decide) (by decide) (by decide) rfl rfl dX3_init_15 ?_
  obtain ⟨μ4, hμ4, h⟩ := bindE h
  refine aw_pRF C fl_X3_15 hi rfl rfl rfl rfl hμ4 dX3_init_17 ?_
  refine aw_aload_n C 0 dX3_init_20 rfl rfl ?_
  refine aw_bipush C 8 dX3_init_21 (by decide) ?_
  obtain ⟨μ5, hμ5, h⟩ := bindE h
  refine aw_newaI C (N' := 8) 3 24 ac_int hb hμ5 (by decide) (by decide) (by decide) (by decide) rfl rfl dX3_init_23 ?_
  obtain ⟨μ6, hμ6, h⟩ := bindE h
  refine aw_pRF C fl_X3_18 hi rfl rfl rfl rfl hμ6 dX3_init_25 ?_
  refine aw_aload_n C 0 dX3_init_28 rfl rfl ?_
  refine aw_bipush C 8 dX3_init_29 (by decide) ?_
  obtain ⟨μ7, hμ7, h⟩ := bindE h
  refine aw_newaI C (N' := 8) 4 32 ac_int hb hμ7 (by decide) (by decide) (by decide) (by decide) rfl rfl dX3_init_31 ?_
  obtain ⟨μ8, hμ8, h⟩ := bindE h
  refine aw_pRF C fl_X3_21 hi rfl rfl rfl rfl hμ8 dX3_init_33 ?_
  have e9 := inj1 h
  subst e9
  exact hret _ _ dX3_init_36
set_option maxRecDepth 100000 in
set_option maxHeartbeats 4000000 in
theorem mt_X3_init {G : GL} {l : Launch} {a0 : Nat} {μ : Mem} {μ' : Mem} (h : X3_init a0 μ = some μ') : MtV G l yX3_init cX3_init 1 none rm_X3_init true [.ref (gZ G + a0)] μ μ' := met_V (by decide) rfl (Nat.le_of_ble_eq_true rfl) (fun X _ C hi hb hret => wk_X3_init C hi (hb rfl) h hret)
set_option maxRecDepth 100000 in
set_option maxHeartbeats 4000000 in
theorem X3_countsSayings_L2_ok {G : GL} {X : CX} (C : Ctx G X cX3_countsSayings 2 RX3 rm_X3_countsSayings) {r : Int32} {μ : Mem} (hret : RtZ G 2 X cX3_countsSayings 0 0 r μ) (a0 : Nat) : ∀ (n : Nat) (x1 : Int32), X3_countsSayings_L2 a0 μ n x1 = some r → AW G 2 X 0 0 2 [(0, .ref (gZ G + a0)), (1, .int x1)] [] μ := by
  intro n
  induction n with
  | zero =>
    intro x1 h
    rw [X3_countsSayings_L2] at h
    cases h
  | succ n ih =>
    intro x1 h
    rw [X3_countsSayings_L2] at h
    refine aw_iload_n C 1 dX3_countsSayings_2 rfl rfl ?_
    refine aw_aload_n C 0 dX3_countsSayings_3 rfl rfl ?_
    obtain ⟨v1, hv1, h⟩ := bindE h
    refine aw_gI C fl_X3_24 rfl hv1 dX3_countsSayings_4 ?_
    refine aw_icmp_ge C 28 dX3_countsSayings_7 (by decide) (fun c2 => ?_) (fun c2 => ?_)
    · rw [if_pos c2] at h
      refine aw_iconst C 0 dX3_countsSayings_28 (by decide) ?_
      have e9 := inj1 h
      subst e9
      exact hret _ _ dX3_countsSayings_29 (Or.inl rfl)
    · rw [if_neg c2] at h
      refine aw_aload_n C 0 dX3_countsSayings_10 rfl rfl ?_
      obtain ⟨v3, hv3, h⟩ := bindE h
      refine aw_gR C fl_X3_9 rfl hv3 dX3_countsSayings_11 ?_
      refine aw_iload_n C 1 dX3_countsSayings_14 rfl rfl ?_
      obtain ⟨v4, hv4, h⟩ := bindE h
      refine aw_aI C hv4 dX3_countsSayings_15 ?_
      refine aw_iconst C 3 dX3_countsSayings_16 (by decide) ?_
      refine aw_icmp_ne C 22 dX3_countsSayings_17 (by decide) (fun c5 => ?_) (fun c5 => ?_)
      · rw [if_neg c5] at h
        refine aw_iinc C (x1 + 1) 1 [(1, .int (x1 + 1)), (0, .ref (gZ G + a0))] dX3_countsSayings_22 rfl rfl (by decide) rfl ?_
        refine aw_goto C 2 dX3_countsSayings_25 (by decide) ?_
        exact aw_sub [1, 0] rfl (ih _ h)
      · rw [if_pos c5] at h
        refine aw_iconst C 1 dX3_countsSayings_20 (by decide) ?_
        have e9 := inj1 h
        subst e9
        exact hret _ _ dX3_countsSayings_21 (Or.inr rfl)
set_option maxRecDepth 100000 in
set_option maxHeartbeats 4000000 in
theorem wk_X3_countsSayings {G : GL} {X : CX} {a0 : Nat} {μ : Mem} {r : Int32} (C : Ctx G X cX3_countsSayings 2 RX3 rm_X3_countsSayings) (h : X3_countsSayings a0 μ = some r) (hret : RtZ G 2 X cX3_countsSayings 0 0 r μ) : AW G 2 X 0 0 0 [(0, .ref (gZ G + a0))] [] μ := by
  unfold X3_countsSayings at h
  refine aw_iconst C 0 dX3_countsSayings_0 (by decide) ?_
  refine aw_istore_n C [(1, .int 0), (0, .ref (gZ G + a0))] dX3_countsSayings_1 rfl (by decide) rfl ?_
  refine aw_sub [1, 0] rfl ?_
  exact X3_countsSayings_L2_ok C hret _ _ _ h
set_option maxRecDepth 100000 in
set_option maxHeartbeats 4000000 in
theorem mt_X3_countsSayings {G : GL} {l : Launch} {a0 : Nat} {μ : Mem} {r : Int32} (h : X3_countsSayings a0 μ = some r) : MtI G l yX3_countsSayings cX3_countsSayings 2 (some .boolean) rm_X3_countsSayings false [.ref (gZ G + a0)] μ r μ := met_Z (by decide) rfl (Nat.le_of_ble_eq_true rfl) (fun X _ C _ _ hret => wk_X3_countsSayings C h hret)
set_option maxRecDepth 100000 in
set_option maxHeartbeats 4000000 in
theorem X3_saidWithin_L9_ok {G : GL} {X : CX} (C : Ctx G X cX3_saidWithin 5 RX3 rm_X3_saidWithin) (a0 : Nat) (x2 : Int32) (μ : Mem) : ∀ (n : Nat) (x3 : Int32) (x4 : Int32) (z : Int32 × Int32), X3_saidWithin_L9 a0 x2 μ n x3 x4 = some z → AW G 5 X 0 0 35 [(0, .ref (gZ G + a0)), (2, .int x2), (3, .int z.1), (4, .int z.2)] [] μ → AW G 5 X 0 0 9 [(0, .ref (gZ G + a0)), (2, .int x2), (3, .int x3), (4, .int x4)] [] μ := by
  intro n
  induction n with
  | zero =>
    intro x3 x4 z h kx
    rw [X3_saidWithin_L9] at h
    cases h
  | succ n ih =>
    intro x3 x4 z h kx
    rw [X3_saidWithin_L9] at h
    refine aw_iload C 3 dX3_saidWithin_9 rfl ?_
    refine aw_iload_n C 1 dX3_saidWithin_11 rfl rfl ?_
    refine aw_icmp_gt C 35 dX3_saidWithin_12 (by decide) (fun c1 => ?_) (fun c1 => ?_)
    · rw [if_pos c1] at h
      have e9 := inj1 h
      subst e9
      exact aw_sub [0, 1, 2, 3] rfl kx
    · rw [if_neg c1] at h
      refine aw_iload C 3 dX3_saidWithin_15 rfl ?_
      refine aw_aload_n C 0 dX3_saidWithin_17 rfl rfl ?_
      obtain ⟨v2, hv2, h⟩ := bindE h
      refine aw_aL C hv2 dX3_saidWithin_18 ?_
      refine aw_icmp_ge C 35 dX3_saidWithin_19 (by decide) (fun c3 => ?_) (fun c3 => ?_)
      · rw [if_pos c3] at h
        have e9 := inj1 h
        subst e9
        exact aw_sub [0, 1, 2, 3] rfl kx
      · rw [if_neg c3] at h
        refine aw_iload_n C 2 dX3_saidWithin_22 rfl rfl ?_
        refine aw_aload_n C 0 dX3_saidWithin_23 rfl rfl ?_
        refine aw_iload C 3 dX3_saidWithin_24 rfl ?_
        obtain ⟨v4, hv4, h⟩ := bindE h
        refine aw_aI C hv4 dX3_saidWithin_26 ?_
        refine aw_iadd C dX3_saidWithin_27 ?_
        obtain ⟨v5, ev5, h⟩ := bindS h
        refine aw_topi ev5 ?_
        refine aw_istore_n C [(3, .int v5), (0, .ref (gZ G + a0)), (2, .int x2), (4, .int x4)] dX3_saidWithin_28 rfl (by decide) rfl ?_
        refine aw_iinc C (x4 + 1) 3 [(4, .int (x4 + 1)), (3, .int v5), (0, .ref (gZ G + a0)), (2, .int x2)] dX3_saidWithin_29 rfl rfl (by decide) rfl ?_
        refine aw_goto C 9 dX3_saidWithin_32 (by decide) ?_
        exact aw_sub [2, 3, 1, 0] rfl (ih _ _ _ h kx)
set_option maxRecDepth 100000 in
set_option maxHeartbeats 4000000 in
theorem wk_X3_saidWithin {G : GL} {X : CX} {a0 : Nat} {x1 : Int32} {x2 : Int32} {μ : Mem} {r : Int32} (C : Ctx G X cX3_saidWithin 5 RX3 rm_X3_saidWithin) (h : X3_saidWithin a0 x1 x2 μ = some r) (hret : RtI G 5 X cX3_saidWithin 0 0 r μ) : AW G 5 X 0 0 0 [(0, .ref (gZ G + a0)), (1, .int x1), (2, .int x2)] [] μ := by
  unfold X3_saidWithin at h
  refine aw_iconst C 0 dX3_saidWithin_0 (by decide) ?_
  refine aw_istore_n C [(3, .int 0), (0, .ref (gZ G + a0)), (1, .int x1), (2, .int x2)] dX3_saidWithin_1 rfl (by decide) rfl ?_
  refine aw_iconst C 0 dX3_saidWithin_2 (by decide) ?_
  refine aw_iload_n C 2 dX3_saidWithin_3 rfl rfl ?_
  refine aw_mmax C ml_X3_40 (by decide) (by decide) ⟨Nat.zero_le _, Nat.zero_le _⟩ (Nat.le_of_ble_eq_true rfl) dX3_saidWithin_4 ?_
  obtain ⟨v1, ev1, h⟩ := bindS h
  refine aw_topi ev1 ?_
  refine aw_istore C [(4, .int v1), (3, .int 0), (0, .ref (gZ G + a0)), (1, .int x1), (2, .int x2)] dX3_saidWithin_7 (by decide) rfl ?_
  obtain ⟨z2, hz2, h⟩ := bindE h
  refine aw_sub [2, 4, 1, 0] rfl ?_
  refine X3_saidWithin_L9_ok C _ _ _ _ _ _ _ hz2 ?_
  refine aw_iload_n C 2 dX3_saidWithin_35 rfl rfl ?_
  have e9 := inj1 h
  subst e9
  exact hret _ _ dX3_saidWithin_36
set_option maxRecDepth 100000 in
set_option maxHeartbeats 4000000 in
theorem mt_X3_saidWithin {G : GL} {l : Launch} {a0 : Nat} {x1 : Int32} {x2 : Int32} {μ : Mem} {r : Int32} (h : X3_saidWithin a0 x1 x2 μ = some r) : MtI G l yX3_saidWithin cX3_saidWithin 5 (some .int) rm_X3_saidWithin false [.ref (gZ G + a0), .int x1, .int x2] μ r μ := met_I (by decide) rfl rfl (Nat.le_of_ble_eq_true rfl) (fun X _ C _ _ hret => wk_X3_saidWithin C h hret)
set_option maxRecDepth 100000 in
set_option maxHeartbeats 4000000 in
theorem X3_mostBars_L2_ok {G : GL} {X : CX} (C : Ctx G X cX3_mostBars 4 RX3 rm_X3_mostBars) {r : Int32} {μ : Mem} (hret : RtZ G 4 X cX3_mostBars 0 0 r μ) (a0 : Nat) (a1 : Nat) (x2 : Int32) : ∀ (n : Nat) (x3 : Int32), X3_mostBars_L2 a0 a1 x2 μ n x3 = some r → AW G 4 X 0 0 2 [(0, .ref (gZ G + a0)), (1, .ref (gZ G + a1)), (2, .int x2), (3, .int x3)] [] μ := by
  intro n
  induction n with
  | zero =>
    intro x3 h
    rw [X3_mostBars_L2] at h
    cases h
  | succ n ih =>
    intro x3 h
    rw [X3_mostBars_L2] at h
    refine aw_iload_n C 3 dX3_mostBars_2 rfl rfl ?_
    refine aw_aload_n C 0 dX3_mostBars_3 rfl rfl ?_
    obtain ⟨v1, hv1, h⟩ := bindE h
    refine aw_gI C fl_X3_24 rfl hv1 dX3_mostBars_4 ?_
    refine aw_icmp_ge C 52 dX3_mostBars_7 (by decide) (fun c2 => ?_) (fun c2 => ?_)
    · rw [if_pos c2] at h
      refine aw_iconst C 0 dX3_mostBars_52 (by decide) ?_
      have e9 := inj1 h
      subst e9
      exact hret _ _ dX3_mostBars_53 (Or.inl rfl)
    · rw [if_neg c2] at h
      refine aw_aload_n C 0 dX3_mostBars_10 rfl rfl ?_
      obtain ⟨v3, hv3, h⟩ := bindE h
      refine aw_gR C fl_X3_9 rfl hv3 dX3_mostBars_11 ?_
      refine aw_iload_n C 3 dX3_mostBars_14 rfl rfl ?_
      obtain ⟨v4, hv4, h⟩ := bindE h
      refine aw_aI C hv4 dX3_mostBars_15 ?_
      refine aw_iconst C 3 dX3_mostBars_16 (by decide) ?_
      refine aw_icmp_ne C 46 dX3_mostBars_17 (by decide) (fun c5 => ?_) (fun c5 => ?_)
      · rw [if_neg c5] at h
        refine aw_iinc C (x3 + 1) 3 [(3, .int (x3 + 1)), (0, .ref (gZ G + a0)), (1, .ref (gZ G + a1)), (2, .int x2)] dX3_mostBars_46 rfl rfl (by decide) rfl ?_
        refine aw_goto C 2 dX3_mostBars_49 (by decide) ?_
        exact aw_sub [1, 2, 3, 0] rfl (ih _ h)
      · rw [if_pos c5] at h
        refine aw_aload_n C 1 dX3_mostBars_20 rfl rfl ?_
        refine aw_iload_n C 2 dX3_mostBars_21 rfl rfl ?_
        refine aw_aload_n C 0 dX3_mostBars_22 rfl rfl ?_
        obtain ⟨v6, hv6, h⟩ := bindE h
        refine aw_gR C fl_X3_18 rfl hv6 dX3_mostBars_23 ?_
        refine aw_iload_n C 3 dX3_mostBars_26 rfl rfl ?_
        obtain ⟨v7, hv7, h⟩ := bindE h
        refine aw_aI C hv7 dX3_mostBars_27 ?_
        refine aw_isub C dX3_mostBars_28 ?_
        refine aw_iconst C 1 dX3_mostBars_29 (by decide) ?_
        refine aw_iadd C dX3_mostBars_30 ?_
        refine aw_iload_n C 2 dX3_mostBars_31 rfl rfl ?_
        obtain ⟨v8, hv8, h⟩ := bindE h
        refine aw_cS_I C [.ref (gZ G + a1), .int ((x2 - v7) + 1), .int x2] _ (mt_X3_saidWithin hv8) cs_X3_saidWithin ml_X3_36 st_X3_saidWithin ⟨by decide, by decide⟩ ⟨rfl, rfl⟩ ⟨Nat.zero_le _, Nat.zero_le _⟩ rfl rfl (Nat.le_of_ble_eq_true rfl) dX3_mostBars_32 ?_
        refine aw_aload_n C 0 dX3_mostBars_35 rfl rfl ?_
        obtain ⟨v9, hv9, h⟩ := bindE h
        refine aw_gR C fl_X3_15 rfl hv9 dX3_mostBars_36 ?_
        refine aw_iload_n C 3 dX3_mostBars_39 rfl rfl ?_
        obtain ⟨v10, hv10, h⟩ := bindE h
        refine aw_aI C hv10 dX3_mostBars_40 ?_
        refine aw_icmp_lt C 46 dX3_mostBars_41 (by decide) (fun c11 => ?_) (fun c11 => ?_)
        · rw [if_pos c11] at h
          refine aw_iinc C (x3 + 1) 3 [(3, .int (x3 + 1)), (0, .ref (gZ G + a0)), (1, .ref (gZ G + a1)), (2, .int x2)] dX3_mostBars_46 rfl rfl (by decide) rfl ?_
          refine aw_goto C 2 dX3_mostBars_49 (by decide) ?_
          exact aw_sub [1, 2, 3, 0] rfl (ih _ h)
        · rw [if_neg c11] at h
          refine aw_iconst C 1 dX3_mostBars_44 (by decide) ?_
          have e9 := inj1 h
          subst e9
          exact hret _ _ dX3_mostBars_45 (Or.inr rfl)
set_option maxRecDepth 100000 in
set_option maxHeartbeats 4000000 in
theorem wk_X3_mostBars {G : GL} {X : CX} {a0 : Nat} {a1 : Nat} {x2 : Int32} {μ : Mem} {r : Int32} (C : Ctx G X cX3_mostBars 4 RX3 rm_X3_mostBars) (h : X3_mostBars a0 a1 x2 μ = some r) (hret : RtZ G 4 X cX3_mostBars 0 0 r μ) : AW G 4 X 0 0 0 [(0, .ref (gZ G + a0)), (1, .ref (gZ G + a1)), (2, .int x2)] [] μ := by
  unfold X3_mostBars at h
  refine aw_iconst C 0 dX3_mostBars_0 (by decide) ?_
  refine aw_istore_n C [(3, .int 0), (0, .ref (gZ G + a0)), (1, .ref (gZ G + a1)), (2, .int x2)] dX3_mostBars_1 rfl (by decide) rfl ?_
  refine aw_sub [1, 2, 3, 0] rfl ?_
  exact X3_mostBars_L2_ok C hret _ _ _ _ _ h
set_option maxRecDepth 100000 in
set_option maxHeartbeats 4000000 in
theorem mt_X3_mostBars {G : GL} {l : Launch} {a0 : Nat} {a1 : Nat} {x2 : Int32} {μ : Mem} {r : Int32} (h : X3_mostBars a0 a1 x2 μ = some r) : MtI G l yX3_mostBars cX3_mostBars 4 (some .boolean) rm_X3_mostBars false [.ref (gZ G + a0), .ref (gZ G + a1), .int x2] μ r μ := met_Z (by decide) rfl (Nat.le_of_ble_eq_true rfl) (fun X _ C _ _ hret => wk_X3_mostBars C h hret)
set_option maxRecDepth 100000 in
set_option maxHeartbeats 4000000 in
theorem wk_X4_init {G : GL} {X : CX} {a0 : Nat} {a1 : Nat} {a2 : Nat} {a3 : Nat} {μ : Mem} {μ' : Mem} (C : Ctx G X cX4_init 4 RX4 rm_X4_init) (hi : (xT X).name = "<init>") (hb : (xS X).heap.size = gZ G + mN μ) (h : X4_init a0 a1 a2 a3 μ = some μ') (hret : RtV G 4 X cX4_init 12 5147 μ') : AW G 4 X 0 0 0 [(0, .ref (gZ G + a0)), (1, .ref (gZ G + a1)), (2, .ref (gZ G + a2)), (3, .ref (gZ G + a3))] [] μ := by
  unfold X4_init at h
  refine aw_aload_n C 0 dX4_init_0 rfl rfl ?_
  refine aw_oinit C mo_X4_3 ob_im ob_co (by decide) (by decide) (Nat.le_of_ble_eq_true rfl) dX4_init_1 ?_
  refine aw_aload_n C 0 dX4_init_4 rfl rfl ?_
  refine aw_bipush C 6 dX4_init_5 (by decide) ?_
  obtain ⟨μ1, hμ1, h⟩ := bindE h
  refine aw_newaI C (N' := 6) 1 6 ac_int hb hμ1 (by decide) (by decide) (by decide) (by decide) rfl rfl dX4_init_7 ?_
  obtain ⟨μ2, hμ2, h⟩ := bindE h
  refine aw_pRF C fl_X4_9 hi rfl rfl rfl rfl hμ2 dX4_init_9 ?_
  refine aw_aload_n C 0 dX4_init_12 rfl rfl ?_
  refine aw_bipush C 6 dX4_init_13 (by decide) ?_
  obtain ⟨μ3, hμ3, h⟩ := bindE h
  refine aw_newaI C (N' := 6) 2 12 ac_int hb hμ3 (by decide) (by decide) (by decide) (by decide) rfl rfl dX4_init_15 ?_
  obtain ⟨μ4, hμ4, h⟩ := bindE h
  refine aw_pRF C fl_X4_15 hi rfl rfl rfl rfl hμ4 dX4_init_17 ?_
  refine aw_aload_n C 0 dX4_init_20 rfl rfl ?_
  obtain ⟨μ5, hμ5, h⟩ := bindE h
  refine aw_new C 3 15 tyX1 rfl ingX1 tyX1_ok rfl dfX1 cl_X4_18 it_X1 ii_X1 hb hμ5 (by decide) (by decide) rfl rfl dX4_init_21 ?_
  refine aw_dup C dX4_init_24 rfl ?_
  obtain ⟨g6, hg6, h⟩ := bindE h
  obtain ⟨μ7, hμ7, h⟩ := bindE h
  refine aw_cIN_V C 3 15 [] _ (mt_X1_init hμ7) cs_X1_init ml_X4_20 im_X1_init rfl ⟨by decide, by decide⟩ hb hg6 (by decide) (by decide) rfl rfl rfl rfl (Nat.le_of_ble_eq_true rfl) dX4_init_25 ?_
  obtain ⟨μ8, hμ8, h⟩ := bindE h
  refine aw_pRF C fl_X4_21 hi rfl rfl rfl rfl hμ8 dX4_init_28 ?_
  refine aw_aload_n C 0 dX4_init_31 rfl rfl ?_
  refine aw_bipush C 6 dX4_init_32 (by decide) ?_
  obtain ⟨μ9, hμ9, h⟩ := bindE h
  refine aw_newaI C (N' := 6) 4 21 ac_int hb hμ9 (by decide) (by decide) (by decide) (by decide) rfl rfl dX4_init_34 ?_
  obtain ⟨μ10, hμ10, h⟩ := bindE h
  refine aw_pRF C fl_X4_25 hi rfl rfl rfl rfl hμ10 dX4_init_36 ?_
  refine aw_aload_n C 0 dX4_init_39 rfl rfl ?_
  refine aw_bipush C 64 dX4_init_40 (by decide) ?_
  obtain ⟨μ11, hμ11, h⟩ := bindE h
  refine aw_newaI C (N' := 64) 5 85 ac_int hb hμ11 (by decide) (by decide) (by decide) (by decide) rfl rfl dX4_init_42 ?_
  obtain ⟨μ12, hμ12, h⟩ := bindE h
  refine aw_pRF C fl_X4_28 hi rfl rfl rfl rfl hμ12 dX4_init_44 ?_
  refine aw_aload_n C 0 dX4_init_47 rfl rfl ?_
  refine aw_bipush C 64 dX4_init_48 (by decide) ?_
  obtain ⟨μ13, hμ13, h⟩ := bindE h
  refine aw_newaI C (N' := 64) 6 149 ac_int hb hμ13 (by decide) (by decide) (by decide) (by decide) rfl rfl dX4_init_50 ?_
  obtain ⟨μ14, hμ14, h⟩ := bindE h
  refine aw_pRF C fl_X4_31 hi rfl rfl rfl rfl hμ14 dX4_init_52 ?_
  refine aw_aload_n C 0 dX4_init_55 rfl rfl ?_
  refine aw_bipush C 64 dX4_init_56 (by decide) ?_
  obtain ⟨μ15, hμ15, h⟩ := bindE h
  refine aw_newaI C (N' := 64) 7 213 ac_int hb hμ15 (by decide) (by decide) (by decide) (by decide) rfl rfl dX4_init_58 ?_
  obtain ⟨μ16, hμ16, h⟩ := bindE h
  refine aw_pRF C fl_X4_34 hi rfl rfl rfl rfl hμ16 dX4_init_60 ?_
  refine aw_aload_n C 0 dX4_init_63 rfl rfl ?_
  refine aw_iconst C 4 dX4_init_64 (by decide) ?_
  obtain ⟨μ17, hμ17, h⟩ := bindE h
  refine aw_newaI C (N' := 4) 8 217 ac_int hb hμ17 (by decide) (by decide) (by decide) (by decide) rfl rfl dX4_init_65 ?_
  obtain ⟨μ18, hμ18, h⟩ := bindE h
  refine aw_pRF C fl_X4_37 hi rfl rfl rfl rfl hμ18 dX4_init_67 ?_
  refine aw_aload_n C 0 dX4_init_70 rfl rfl ?_
  refine aw_sipush C 384 dX4_init_71 (by decide) ?_
  obtain ⟨μ19, hμ19, h⟩ := bindE h
  refine aw_newaI C (N' := 384) 9 601 ac_int hb hμ19 (by decide) (by decide) (by decide) (by decide) rfl rfl dX4_init_74 ?_
  obtain ⟨μ20, hμ20, h⟩ := bindE h
  refine aw_pRF C fl_X4_40 hi rfl rfl rfl rfl hμ20 dX4_init_76 ?_
  refine aw_aload_n C 0 dX4_init_79 rfl rfl ?_
  refine aw_sipush C 384 dX4_init_80 (by decide) ?_
  obtain ⟨μ21, hμ21, h⟩ := bindE h
  refine aw_newaI C (N' := 384) 10 985 ac_int hb hμ21 (by decide) (by decide) (by decide) (by decide) rfl rfl dX4_init_83 ?_
  obtain ⟨μ22, hμ22, h⟩ := bindE h
  refine aw_pRF C fl_X4_43 hi rfl rfl rfl rfl hμ22 dX4_init_85 ?_
  refine aw_aload_n C 0 dX4_init_88 rfl rfl ?_
  refine aw_sipush C 4096 dX4_init_89 (by decide) ?_
  obtain ⟨μ23, hμ23, h⟩ := bindE h
  refine aw_newaI C (N' := 4096) 11 5081 ac_int hb hμ23 (by decide) (by decide) (by decide) (by decide) rfl rfl dX4_init_92 ?_
  obtain ⟨μ24, hμ24, h⟩ := bindE h
  refine aw_pRF C fl_X4_46 hi rfl rfl rfl rfl hμ24 dX4_init_94 ?_
  refine aw_aload_n C 0 dX4_init_97 rfl rfl ?_
  refine aw_bipush C 66 dX4_init_98 (by decide) ?_
  obtain ⟨μ25, hμ25, h⟩ := bindE h
  refine aw_newaI C (N' := 66) 12 5147 ac_int hb hμ25 (by decide) (by decide) (by decide) (by decide) rfl rfl dX4_init_100 ?_
  obtain ⟨μ26, hμ26, h⟩ := bindE h
  refine aw_pRF C fl_X4_49 hi rfl rfl rfl rfl hμ26 dX4_init_102 ?_
  refine aw_aload_n C 0 dX4_init_105 rfl rfl ?_
  refine aw_aload_n C 1 dX4_init_106 rfl rfl ?_
  obtain ⟨μ27, hμ27, h⟩ := bindE h
  refine aw_pRF C fl_X4_52 hi rfl rfl rfl rfl hμ27 dX4_init_107 ?_
  refine aw_aload_n C 0 dX4_init_110 rfl rfl ?_
  refine aw_aload_n C 2 dX4_init_111 rfl rfl ?_
  obtain ⟨μ28, hμ28, h⟩ := bindE h
  refine aw_pRF C fl_X4_56 hi rfl rfl rfl rfl hμ28 dX4_init_112 ?_
  refine aw_aload_n C 0 dX4_init_115 rfl rfl ?_
  refine aw_aload_n C 3 dX4_init_116 rfl rfl ?_
  obtain ⟨μ29, hμ29, h⟩ := bindE h
  refine aw_pRF C fl_X4_60 hi rfl rfl rfl rfl hμ29 dX4_init_117 ?_
  have e9 := inj1 h
  subst e9
  exact hret _ _ dX4_init_120
set_option maxRecDepth 100000 in
set_option maxHeartbeats 4000000 in
theorem mt_X4_init {G : GL} {l : Launch} {a0 : Nat} {a1 : Nat} {a2 : Nat} {a3 : Nat} {μ : Mem} {μ' : Mem} (h : X4_init a0 a1 a2 a3 μ = some μ') : MtV G l yX4_init cX4_init 4 none rm_X4_init true [.ref (gZ G + a0), .ref (gZ G + a1), .ref (gZ G + a2), .ref (gZ G + a3)] μ μ' := met_V (by decide) rfl (Nat.le_of_ble_eq_true rfl) (fun X _ C hi hb hret => wk_X4_init C hi (hb rfl) h hret)
set_option maxRecDepth 100000 in
set_option maxHeartbeats 4000000 in
theorem X4_pick_L7_ok {G : GL} {X : CX} (C : Ctx G X cX4_pick 7 RX4 rm_X4_pick) (a0 : Nat) (x1 : Int32) (x2 : Int32) : ∀ (n : Nat) (x3 : Int32) (μ : Mem) (z : Int32 × Mem), X4_pick_L7 a0 x1 x2 n x3 μ = some z → AW G 7 X 0 0 84 [(0, .ref (gZ G + a0)), (1, .int x1), (2, .int x2), (3, .int z.1)] [] z.2 → AW G 7 X 0 0 7 [(0, .ref (gZ G + a0)), (1, .int x1), (2, .int x2), (3, .int x3)] [] μ := by
  intro n
  induction n with
  | zero =>
    intro x3 μ z h kx
    rw [X4_pick_L7] at h
    cases h
  | succ n ih =>
    intro x3 μ z h kx
    rw [X4_pick_L7] at h
    refine aw_iload_n C 3 dX4_pick_7 rfl rfl ?_
    refine aw_aload_n C 0 dX4_pick_8 rfl rfl ?_
    obtain ⟨v1, hv1, h⟩ := bindE h
    refine aw_gR C fl_X4_60 rfl hv1 dX4_pick_9 ?_
    obtain ⟨v2, hv2, h⟩ := bindE h
    refine aw_gI C fl_X4_121 rfl hv2 dX4_pick_12 ?_
    refine aw_icmp_ge C 84 dX4_pick_15 (by decide) (fun c3 => ?_) (fun c3 => ?_)
    · rw [if_pos c3] at h
      have e9 := inj1 h
      subst e9
      exact aw_sub [0, 1, 2, 3] rfl kx
    · rw [if_neg c3] at h
      refine aw_aload_n C 0 dX4_pick_18 rfl rfl ?_
      obtain ⟨v4, hv4, h⟩ := bindE h
      refine aw_gI C fl_X4_108 rfl hv4 dX4_pick_19 ?_
      refine aw_bipush C 6 dX4_pick_22 (by decide) ?_
      refine aw_icmp_ge C 84 dX4_pick_24 (by decide) (fun c5 => ?_) (fun c5 => ?_)
      · rw [if_pos c5] at h
        have e9 := inj1 h
        subst e9
        exact aw_sub [0, 1, 2, 3] rfl kx
      · rw [if_neg c5] at h
        refine aw_aload_n C 0 dX4_pick_27 rfl rfl ?_
        obtain ⟨v6, hv6, h⟩ := bindE h
        refine aw_gR C fl_X4_60 rfl hv6 dX4_pick_28 ?_
        obtain ⟨v7, hv7, h⟩ := bindE h
        refine aw_gR C fl_X4_124 rfl hv7 dX4_pick_31 ?_
        refine aw_iload_n C 3 dX4_pick_34 rfl rfl ?_
        obtain ⟨v8, hv8, h⟩ := bindE h
        refine aw_aR C (by decide) (ty := .object RX6) rfl rfl hv8 dX4_pick_35 ?_
        obtain ⟨v9, hv9, h⟩ := bindE h
        refine aw_gI C fl_X4_128 rfl hv9 dX4_pick_36 ?_
        refine aw_iload_n C 1 dX4_pick_39 rfl rfl ?_
        refine aw_cSN_I C [.int v9, .int x1] _ (mt_X10_contains _ _) cs_X10_contains ml_X4_133 st_X10_contains ⟨by decide, by decide⟩ ⟨rfl, rfl⟩ ⟨Nat.zero_le _, Nat.zero_le _⟩ rfl rfl (Nat.le_of_ble_eq_true rfl) dX4_pick_40 ?_
        obtain ⟨z20, hz20, h⟩ := bindE h
        have kj43 : AW G 7 X 0 0 78 [(0, .ref (gZ G + a0)), (1, .int x1), (2, .int x2), (3, .int x3)] [] z20 := by
          refine aw_iinc C (x3 + 1) 3 [(3, .int (x3 + 1)), (0, .ref (gZ G + a0)), (1, .int x1), (2, .int x2)] dX4_pick_78 rfl rfl (by decide) rfl ?_
          refine aw_goto C 7 dX4_pick_81 (by decide) ?_
          exact aw_sub [1, 2, 3, 0] rfl (ih _ _ _ h kx)
        replace h := hz20
        refine aw_if_eq C 78 dX4_pick_43 (by decide) (fun c10 => ?_) (fun c10 => ?_)
        · rw [if_pos c10] at h
          have e9 := inj1 h
          subst e9
          exact aw_sub [0, 1, 2, 3] rfl kj43
        · rw [if_neg c10] at h
          refine aw_aload_n C 0 dX4_pick_46 rfl rfl ?_
          obtain ⟨v11, hv11, h⟩ := bindE h
          refine aw_gR C fl_X4_60 rfl hv11 dX4_pick_47 ?_
          refine aw_iload_n C 3 dX4_pick_50 rfl rfl ?_
          refine aw_iload_n C 2 dX4_pick_51 rfl rfl ?_
          obtain ⟨g12, hg12, h⟩ := bindE h
          obtain ⟨v13, hv13, h⟩ := bindE h
          refine aw_cV_I C [.int x3, .int x2] _ (mt_X0_standing hv13) cs_X0_standing ml_X4_137 im_X0_standing se_X0_standing (ci := 0) rfl rfl hg12 ⟨by decide, by decide⟩ ⟨rfl, rfl⟩ ⟨Nat.zero_le _, Nat.zero_le _⟩ rfl rfl (Nat.le_of_ble_eq_true rfl) dX4_pick_52 ?_
          refine aw_if_ne C 78 dX4_pick_55 (by decide) (fun c14 => ?_) (fun c14 => ?_)
          · rw [if_neg c14] at h
            have e9 := inj1 h
            subst e9
            exact aw_sub [0, 1, 2, 3] rfl kj43
          · rw [if_pos c14] at h
            refine aw_aload_n C 0 dX4_pick_58 rfl rfl ?_
            obtain ⟨v15, hv15, h⟩ := bindE h
            refine aw_gR C fl_X4_25 rfl hv15 dX4_pick_59 ?_
            refine aw_aload_n C 0 dX4_pick_62 rfl rfl ?_
            obtain ⟨v16, hv16, h⟩ := bindE h
            refine aw_gI C fl_X4_108 rfl hv16 dX4_pick_63 ?_
            refine aw_iload_n C 3 dX4_pick_66 rfl rfl ?_
            obtain ⟨μ17, hμ17, h⟩ := bindE h
            refine aw_sI C hμ17 dX4_pick_67 ?_
            refine aw_aload_n C 0 dX4_pick_68 rfl rfl ?_
            refine aw_dup C dX4_pick_69 rfl ?_
            obtain ⟨v18, hv18, h⟩ := bindE h
            refine aw_gI C fl_X4_108 rfl hv18 dX4_pick_70 ?_
            refine aw_iconst C 1 dX4_pick_73 (by decide) ?_
            refine aw_iadd C dX4_pick_74 ?_
            obtain ⟨μ19, hμ19, h⟩ := bindE h
            refine aw_pI C fl_X4_108 rfl hμ19 dX4_pick_75 ?_
            have e9 := inj1 h
            subst e9
            exact aw_sub [0, 1, 2, 3] rfl kj43
set_option maxRecDepth 100000 in
set_option maxHeartbeats 4000000 in
theorem X4_pick_L123_ok {G : GL} {X : CX} (C : Ctx G X cX4_pick 7 RX4 rm_X4_pick) (a0 : Nat) (x3 : Int32) (x4 : Int32) : ∀ (n : Nat) (x5 : Int32) (μ : Mem) (z : Int32 × Mem), X4_pick_L123 a0 x3 x4 n x5 μ = some z → AW G 7 X 0 0 198 [(0, .ref (gZ G + a0)), (3, .int x3), (4, .int x4), (5, .int z.1)] [] z.2 → AW G 7 X 0 0 123 [(0, .ref (gZ G + a0)), (3, .int x3), (4, .int x4), (5, .int x5)] [] μ := by
  intro n
  induction n with
  | zero =>
    intro x5 μ z h kx
    rw [X4_pick_L123] at h
    cases h
  | succ n ih =>
    intro x5 μ z h kx
    rw [X4_pick_L123] at h
    refine aw_iload C 3 dX4_pick_123 rfl ?_
    refine aw_iconst C 1 dX4_pick_125 (by decide) ?_
    refine aw_iload_n C 1 dX4_pick_126 rfl rfl ?_
    refine aw_ishl C dX4_pick_127 ?_
    refine aw_icmp_ge C 198 dX4_pick_128 (by decide) (fun c1 => ?_) (fun c1 => ?_)
    · rw [if_pos c1] at h
      have e9 := inj1 h
      subst e9
      exact aw_sub [0, 1, 2, 3] rfl kx
    · rw [if_neg c1] at h
      refine aw_iload C 3 dX4_pick_131 rfl ?_
      refine aw_iconst C 1 dX4_pick_133 (by decide) ?_
      refine aw_iload_n C 1 dX4_pick_134 rfl rfl ?_
      refine aw_ishl C dX4_pick_135 ?_
      refine aw_ior C dX4_pick_136 ?_
      obtain ⟨v2, ev2, h⟩ := bindS h
      refine aw_topi ev2 ?_
      refine aw_istore C [(6, .int v2), (0, .ref (gZ G + a0)), (3, .int x3), (4, .int x4), (5, .int x5)] dX4_pick_137 (by decide) rfl ?_
      refine aw_aload_n C 1 dX4_pick_139 rfl rfl ?_
      obtain ⟨v3, hv3, h⟩ := bindE h
      refine aw_gR C fl_X4_28 rfl hv3 dX4_pick_140 ?_
      refine aw_iload C 0 dX4_pick_143 rfl ?_
      refine aw_aload_n C 1 dX4_pick_145 rfl rfl ?_
      obtain ⟨v4, hv4, h⟩ := bindE h
      refine aw_gR C fl_X4_28 rfl hv4 dX4_pick_146 ?_
      refine aw_iload C 4 dX4_pick_149 rfl ?_
      obtain ⟨v5, hv5, h⟩ := bindE h
      refine aw_aI C hv5 dX4_pick_151 ?_
      refine aw_iconst C 1 dX4_pick_152 (by decide) ?_
      refine aw_aload_n C 1 dX4_pick_153 rfl rfl ?_
      obtain ⟨v6, hv6, h⟩ := bindE h
      refine aw_gR C fl_X4_25 rfl hv6 dX4_pick_154 ?_
      refine aw_iload_n C 2 dX4_pick_157 rfl rfl ?_
      obtain ⟨v7, hv7, h⟩ := bindE h
      refine aw_aI C hv7 dX4_pick_158 ?_
      refine aw_ishl C dX4_pick_159 ?_
      refine aw_ior C dX4_pick_160 ?_
      obtain ⟨μ8, hμ8, h⟩ := bindE h
      refine aw_sI C hμ8 dX4_pick_161 ?_
      refine aw_aload_n C 1 dX4_pick_162 rfl rfl ?_
      obtain ⟨v9, hv9, h⟩ := bindE h
      refine aw_gR C fl_X4_31 rfl hv9 dX4_pick_163 ?_
      refine aw_iload C 0 dX4_pick_166 rfl ?_
      refine aw_iload C 4 dX4_pick_168 rfl ?_
      obtain ⟨z14, hz14, h⟩ := bindE h
      have kj170 : AW G 7 X 0 0 191 [(0, .ref (gZ G + a0)), (3, .int x3), (4, .int x4), (5, .int x5)] [.int z14, .int v2, .ref (gZ G + v9)] μ8 := by
        obtain ⟨μ15, hμ15, h⟩ := bindE h
        refine aw_sI C hμ15 dX4_pick_191 ?_
        refine aw_iinc C (x5 + 1) 3 [(5, .int (x5 + 1)), (0, .ref (gZ G + a0)), (3, .int x3), (4, .int x4)] dX4_pick_192 rfl rfl (by decide) rfl ?_
        refine aw_goto C 123 dX4_pick_195 (by decide) ?_
        exact aw_sub [1, 2, 3, 0] rfl (ih _ _ _ h kx)
      replace h := hz14
      refine aw_if_eq C 185 dX4_pick_170 (by decide) (fun c10 => ?_) (fun c10 => ?_)
      · rw [if_pos c10] at h
        refine aw_iload C 3 dX4_pick_185 rfl ?_
        refine aw_goto C 191 dX4_pick_187 (by decide) ?_
        have e9 := inj1 h
        subst e9
        exact aw_sub [1, 2, 3, 4] rfl kj170
      · rw [if_neg c10] at h
        refine aw_aload_n C 1 dX4_pick_173 rfl rfl ?_
        obtain ⟨v11, hv11, h⟩ := bindE h
        refine aw_gR C fl_X4_31 rfl hv11 dX4_pick_174 ?_
        refine aw_iload C 4 dX4_pick_177 rfl ?_
        obtain ⟨v12, hv12, h⟩ := bindE h
        refine aw_aI C hv12 dX4_pick_179 ?_
        refine aw_iload C 3 dX4_pick_180 rfl ?_
        refine aw_icmp_ne C 190 dX4_pick_182 (by decide) (fun c13 => ?_) (fun c13 => ?_)
        · rw [if_neg c13] at h
          refine aw_iconst C ((-1)) dX4_pick_190 (by decide) ?_
          have e9 := inj1 h
          subst e9
          exact aw_sub [1, 2, 3, 4] rfl kj170
        · rw [if_pos c13] at h
          refine aw_iload C 3 dX4_pick_185 rfl ?_
          refine aw_goto C 191 dX4_pick_187 (by decide) ?_
          have e9 := inj1 h
          subst e9
          exact aw_sub [1, 2, 3, 4] rfl kj170
set_option maxRecDepth 100000 in
set_option maxHeartbeats 4000000 in
theorem X4_pick_L93_ok {G : GL} {X : CX} (C : Ctx G X cX4_pick 7 RX4 rm_X4_pick) (a0 : Nat) : ∀ (n : Nat) (x3 : Int32) (μ : Mem) (z : Int32 × Mem), X4_pick_L93 a0 n x3 μ = some z → AW G 7 X 0 0 204 [(0, .ref (gZ G + a0)), (3, .int z.1)] [] z.2 → AW G 7 X 0 0 93 [(0, .ref (gZ G + a0)), (3, .int x3)] [] μ := by
  intro n
  induction n with
  | zero =>
    intro x3 μ z h kx
    rw [X4_pick_L93] at h
    cases h
  | succ n ih =>
    intro x3 μ z h kx
    rw [X4_pick_L93] at h
    refine aw_iload_n C 1 dX4_pick_93 rfl rfl ?_
    refine aw_aload_n C 0 dX4_pick_94 rfl rfl ?_
    obtain ⟨v1, hv1, h⟩ := bindE h
    refine aw_gI C fl_X4_108 rfl hv1 dX4_pick_95 ?_
    refine aw_icmp_ge C 204 dX4_pick_98 (by decide) (fun c2 => ?_) (fun c2 => ?_)
    · rw [if_pos c2] at h
      have e9 := inj1 h
      subst e9
      exact aw_sub [0, 1] rfl kx
    · rw [if_neg c2] at h
      refine aw_aload_n C 0 dX4_pick_101 rfl rfl ?_
      obtain ⟨v3, hv3, h⟩ := bindE h
      refine aw_gR C fl_X4_60 rfl hv3 dX4_pick_102 ?_
      obtain ⟨v4, hv4, h⟩ := bindE h
      refine aw_gR C fl_X4_124 rfl hv4 dX4_pick_105 ?_
      refine aw_aload_n C 0 dX4_pick_108 rfl rfl ?_
      obtain ⟨v5, hv5, h⟩ := bindE h
      refine aw_gR C fl_X4_25 rfl hv5 dX4_pick_109 ?_
      refine aw_iload_n C 1 dX4_pick_112 rfl rfl ?_
      obtain ⟨v6, hv6, h⟩ := bindE h
      refine aw_aI C hv6 dX4_pick_113 ?_
      obtain ⟨v7, hv7, h⟩ := bindE h
      refine aw_aR C (by decide) (ty := .object RX6) rfl rfl hv7 dX4_pick_114 ?_
      obtain ⟨v8, hv8, h⟩ := bindE h
      refine aw_gI C fl_X4_140 rfl hv8 dX4_pick_115 ?_
      refine aw_istore C [(4, .int v8), (0, .ref (gZ G + a0)), (3, .int x3)] dX4_pick_118 (by decide) rfl ?_
      refine aw_iconst C 0 dX4_pick_120 (by decide) ?_
      refine aw_istore C [(5, .int 0), (4, .int v8), (0, .ref (gZ G + a0)), (3, .int x3)] dX4_pick_121 (by decide) rfl ?_
      obtain ⟨z9, hz9, h⟩ := bindE h
      refine aw_sub [2, 3, 1, 0] rfl ?_
      refine X4_pick_L123_ok C _ _ _ _ _ _ _ hz9 ?_
      refine aw_iinc C (x3 + 1) 1 [(3, .int (x3 + 1)), (0, .ref (gZ G + a0)), (4, .int v8), (5, .int z9.1)] dX4_pick_198 rfl rfl (by decide) rfl ?_
      refine aw_goto C 93 dX4_pick_201 (by decide) ?_
      exact aw_sub [1, 0] rfl (ih _ _ _ h kx)
set_option maxRecDepth 100000 in
set_option maxHeartbeats 4000000 in
theorem wk_X4_pick {G : GL} {X : CX} {a0 : Nat} {x1 : Int32} {x2 : Int32} {μ : Mem} {μ' : Mem} (C : Ctx G X cX4_pick 7 RX4 rm_X4_pick) (h : X4_pick a0 x1 x2 μ = some μ') (hret : RtV G 7 X cX4_pick 0 0 μ') : AW G 7 X 0 0 0 [(0, .ref (gZ G + a0)), (1, .int x1), (2, .int x2)] [] μ := by
  unfold X4_pick at h
  refine aw_aload_n C 0 dX4_pick_0 rfl rfl ?_
  refine aw_iconst C 0 dX4_pick_1 (by decide) ?_
  obtain ⟨μ1, hμ1, h⟩ := bindE h
  refine aw_pI C fl_X4_108 rfl hμ1 dX4_pick_2 ?_
  refine aw_iconst C 0 dX4_pick_5 (by decide) ?_
  refine aw_istore_n C [(3, .int 0), (0, .ref (gZ G + a0)), (1, .int x1), (2, .int x2)] dX4_pick_6 rfl (by decide) rfl ?_
  obtain ⟨z2, hz2, h⟩ := bindE h
  refine aw_sub [1, 2, 3, 0] rfl ?_
  refine X4_pick_L7_ok C _ _ _ _ _ _ _ hz2 ?_
  refine aw_aload_n C 0 dX4_pick_84 rfl rfl ?_
  obtain ⟨v3, hv3, h⟩ := bindE h
  refine aw_gR C fl_X4_28 rfl hv3 dX4_pick_85 ?_
  refine aw_iconst C 0 dX4_pick_88 (by decide) ?_
  refine aw_iconst C 0 dX4_pick_89 (by decide) ?_
  obtain ⟨μ4, hμ4, h⟩ := bindE h
  refine aw_sI C hμ4 dX4_pick_90 ?_
  refine aw_iconst C 0 dX4_pick_91 (by decide) ?_
  refine aw_istore_n C [(3, .int 0), (0, .ref (gZ G + a0)), (1, .int x1), (2, .int x2)] dX4_pick_92 rfl (by decide) rfl ?_
  obtain ⟨z5, hz5, h⟩ := bindE h
  refine aw_sub [1, 0] rfl ?_
  refine X4_pick_L93_ok C _ _ _ _ _ hz5 ?_
  have e9 := inj1 h
  subst e9
  exact hret _ _ dX4_pick_204
set_option maxRecDepth 100000 in
set_option maxHeartbeats 4000000 in
theorem mt_X4_pick {G : GL} {l : Launch} {a0 : Nat} {x1 : Int32} {x2 : Int32} {μ : Mem} {μ' : Mem} (h : X4_pick a0 x1 x2 μ = some μ') : MtV G l yX4_pick cX4_pick 7 none rm_X4_pick false [.ref (gZ G + a0), .int x1, .int x2] μ μ' := met_V (by decide) rfl (Nat.le_of_ble_eq_true rfl) (fun X _ C _ _ hret => wk_X4_pick C h hret)
