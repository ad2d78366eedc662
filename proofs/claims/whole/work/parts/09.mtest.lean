def X10_contains (x0 : Int32) (x1 : Int32) : Int32 :=
  (if ((x0 >>> (x1 &&& 31)) &&& 1) = 0 then 0 else 1)
set_option maxRecDepth 100000 in
set_option maxHeartbeats 4000000 in
theorem wk_X10_contains {G : GL} {X : CX} {x0 : Int32} {x1 : Int32} {μ : Mem} (C : Ctx G X cX10_contains 2 RX10 rm_X10_contains) (hret : RtZ G 2 X cX10_contains 0 0 (X10_contains x0 x1) μ) : AW G 2 X 0 0 0 [(0, .int x0), (1, .int x1)] [] μ := by
  unfold X10_contains at hret
  refine aw_iload_n C 0 dX10_contains_0 rfl rfl ?_
  refine aw_iload_n C 1 dX10_contains_1 rfl rfl ?_
  refine aw_ishr C dX10_contains_2 ?_
  refine aw_iconst C 1 dX10_contains_3 (by decide) ?_
  refine aw_iand C dX10_contains_4 ?_
  have kj5 : ∀ (q5_0 : Int32), q5_0 = (if ((x0 >>> (x1 &&& 31)) &&& 1) = 0 then 0 else 1) → AW G 2 X 0 0 13 [] [.int q5_0] μ := by
    rintro _ rfl
    exact hret _ _ dX10_contains_13 (by repeat (first | exact Or.inl rfl | exact Or.inr rfl | split))
  refine aw_if_eq C 12 dX10_contains_5 (by decide) (fun c1 => ?_) (fun c1 => ?_)
  · refine aw_iconst C 0 dX10_contains_12 (by decide) ?_
    exact aw_sub [] rfl (kj5 _ (by simp only [if_pos c1]))
  · refine aw_iconst C 1 dX10_contains_8 (by decide) ?_
    refine aw_goto C 13 dX10_contains_9 (by decide) ?_
    exact aw_sub [] rfl (kj5 _ (by simp only [if_neg c1]))
set_option maxRecDepth 100000 in
set_option maxHeartbeats 4000000 in
theorem mt_X10_contains {G : GL} {l : Launch} (x0 : Int32) (x1 : Int32) {μ : Mem} : MtI G l yX10_contains cX10_contains 2 (some .boolean) rm_X10_contains false [.int x0, .int x1] μ (X10_contains x0 x1) μ := met_Z (by decide) rfl (Nat.le_of_ble_eq_true rfl) (fun X _ C _ _ hret => wk_X10_contains C hret)
theorem z_X10_contains (x0 : Int32) (x1 : Int32) : X10_contains x0 x1 = 0 ∨ X10_contains x0 x1 = 1 := by
  unfold X10_contains
  repeat (first | exact Or.inl rfl | exact Or.inr rfl | split)
def J6_bitCount_0f7a4 (x0 : Int32) : Int32 :=
  (((((((x0 - (((x0.toUInt32 >>> ((1 : Int32).toUInt32 &&& Int32.toUInt32 31)).toInt32) &&& 1431655765)) &&& 858993459) + ((((x0 - (((x0.toUInt32 >>> ((1 : Int32).toUInt32 &&& Int32.toUInt32 31)).toInt32) &&& 1431655765)).toUInt32 >>> ((2 : Int32).toUInt32 &&& Int32.toUInt32 31)).toInt32) &&& 858993459)) + (((((x0 - (((x0.toUInt32 >>> ((1 : Int32).toUInt32 &&& Int32.toUInt32 31)).toInt32) &&& 1431655765)) &&& 858993459) + ((((x0 - (((x0.toUInt32 >>> ((1 : Int32).toUInt32 &&& Int32.toUInt32 31)).toInt32) &&& 1431655765)).toUInt32 >>> ((2 : Int32).toUInt32 &&& Int32.toUInt32 31)).toInt32) &&& 858993459)).toUInt32 >>> ((4 : Int32).toUInt32 &&& Int32.toUInt32 31)).toInt32)) &&& 252645135) + (((((((x0 - (((x0.toUInt32 >>> ((1 : Int32).toUInt32 &&& Int32.toUInt32 31)).toInt32) &&& 1431655765)) &&& 858993459) + ((((x0 - (((x0.toUInt32 >>> ((1 : Int32).toUInt32 &&& Int32.toUInt32 31)).toInt32) &&& 1431655765)).toUInt32 >>> ((2 : Int32).toUInt32 &&& Int32.toUInt32 31)).toInt32) &&& 858993459)) + (((((x0 - (((x0.toUInt32 >>> ((1 : Int32).toUInt32 &&& Int32.toUInt32 31)).toInt32) &&& 1431655765)) &&& 858993459) + ((((x0 - (((x0.toUInt32 >>> ((1 : Int32).toUInt32 &&& Int32.toUInt32 31)).toInt32) &&& 1431655765)).toUInt32 >>> ((2 : Int32).toUInt32 &&& Int32.toUInt32 31)).toInt32) &&& 858993459)).toUInt32 >>> ((4 : Int32).toUInt32 &&& Int32.toUInt32 31)).toInt32)) &&& 252645135).toUInt32 >>> ((8 : Int32).toUInt32 &&& Int32.toUInt32 31)).toInt32)) + ((((((((x0 - (((x0.toUInt32 >>> ((1 : Int32).toUInt32 &&& Int32.toUInt32 31)).toInt32) &&& 1431655765)) &&& 858993459) + ((((x0 - (((x0.toUInt32 >>> ((1 : Int32).toUInt32 &&& Int32.toUInt32 31)).toInt32) &&& 1431655765)).toUInt32 >>> ((2 : Int32).toUInt32 &&& Int32.toUInt32 31)).toInt32) &&& 858993459)) + (((((x0 - (((x0.toUInt32 >>> ((1 : Int32).toUInt32 &&& Int32.toUInt32 31)).toInt32) &&& 1431655765)) &&& 858993459) + ((((x0 - (((x0.toUInt32 >>> ((1 : Int32).toUInt32 &&& Int32.toUInt32 31)).toInt32) &&& 1431655765)).toUInt32 >>> ((2 : Int32).toUInt32 &&& Int32.toUInt32 31)).toInt32) &&& 858993459)).toUInt32 >>> ((4 : Int32).toUInt32 &&& Int32.toUInt32 31)).toInt32)) &&& 252645135) + (((((((x0 - (((x0.toUInt32 >>> ((1 : Int32).toUInt32 &&& Int32.toUInt32 31)).toInt32) &&& 1431655765)) &&& 858993459) + ((((x0 - (((x0.toUInt32 >>> ((1 : Int32).toUInt32 &&& Int32.toUInt32 31)).toInt32) &&& 1431655765)).toUInt32 >>> ((2 : Int32).toUInt32 &&& Int32.toUInt32 31)).toInt32) &&& 858993459)) + (((((x0 - (((x0.toUInt32 >>> ((1 : Int32).toUInt32 &&& Int32.toUInt32 31)).toInt32) &&& 1431655765)) &&& 858993459) + ((((x0 - (((x0.toUInt32 >>> ((1 : Int32).toUInt32 &&& Int32.toUInt32 31)).toInt32) &&& 1431655765)).toUInt32 >>> ((2 : Int32).toUInt32 &&& Int32.toUInt32 31)).toInt32) &&& 858993459)).toUInt32 >>> ((4 : Int32).toUInt32 &&& Int32.toUInt32 31)).toInt32)) &&& 252645135).toUInt32 >>> ((8 : Int32).toUInt32 &&& Int32.toUInt32 31)).toInt32)).toUInt32 >>> ((16 : Int32).toUInt32 &&& Int32.toUInt32 31)).toInt32)) &&& 63
set_option maxRecDepth 100000 in
set_option maxHeartbeats 4000000 in
theorem wk_J6_bitCount_0f7a4 {G : GL} {X : CX} {x0 : Int32} {μ : Mem} (C : Ctx G X cJ6_bitCount_0f7a4 1 RJ6 rm_J6_bitCount_0f7a4) (hret : RtI G 1 X cJ6_bitCount_0f7a4 0 0 (J6_bitCount_0f7a4 x0) μ) : AW G 1 X 0 0 0 [(0, .int x0)] [] μ := by
  unfold J6_bitCount_0f7a4 at hret
  refine aw_iload_n C 0 dJ6_bitCount_0f7a4_0 rfl rfl ?_
  refine aw_iload_n C 0 dJ6_bitCount_0f7a4_1 rfl rfl ?_
  refine aw_iconst C 1 dJ6_bitCount_0f7a4_2 (by decide) ?_
  refine aw_iushr C dJ6_bitCount_0f7a4_3 ?_
  refine aw_ldcw C kc_J6_265 dJ6_bitCount_0f7a4_4 ?_
  refine aw_iand C dJ6_bitCount_0f7a4_7 ?_
  refine aw_isub C dJ6_bitCount_0f7a4_8 ?_
  refine aw_istore_n C [(0, .int (x0 - (((x0.toUInt32 >>> ((1 : Int32).toUInt32 &&& Int32.toUInt32 31)).toInt32) &&& 1431655765)))] dJ6_bitCount_0f7a4_9 rfl (by decide) rfl ?_
  refine aw_iload_n C 0 dJ6_bitCount_0f7a4_10 rfl rfl ?_
  refine aw_ldcw C kc_J6_266 dJ6_bitCount_0f7a4_11 ?_
  refine aw_iand C dJ6_bitCount_0f7a4_14 ?_
  refine aw_iload_n C 0 dJ6_bitCount_0f7a4_15 rfl rfl ?_
  refine aw_iconst C 2 dJ6_bitCount_0f7a4_16 (by decide) ?_
  refine aw_iushr C dJ6_bitCount_0f7a4_17 ?_
  refine aw_ldcw C kc_J6_266 dJ6_bitCount_0f7a4_18 ?_
  refine aw_iand C dJ6_bitCount_0f7a4_21 ?_
  refine aw_iadd C dJ6_bitCount_0f7a4_22 ?_
  refine aw_istore_n C [(0, .int (((x0 - (((x0.toUInt32 >>> ((1 : Int32).toUInt32 &&& Int32.toUInt32 31)).toInt32) &&& 1431655765)) &&& 858993459) + ((((x0 - (((x0.toUInt32 >>> ((1 : Int32).toUInt32 &&& Int32.toUInt32 31)).toInt32) &&& 1431655765)).toUInt32 >>> ((2 : Int32).toUInt32 &&& Int32.toUInt32 31)).toInt32) &&& 858993459)))] dJ6_bitCount_0f7a4_23 rfl (by decide) rfl ?_
  refine aw_iload_n C 0 dJ6_bitCount_0f7a4_24 rfl rfl ?_
  refine aw_iload_n C 0 dJ6_bitCount_0f7a4_25 rfl rfl ?_
  refine aw_iconst C 4 dJ6_bitCount_0f7a4_26 (by decide) ?_
  refine aw_iushr C dJ6_bitCount_0f7a4_27 ?_
  refine aw_iadd C dJ6_bitCount_0f7a4_28 ?_
  refine aw_ldcw C kc_J6_267 dJ6_bitCount_0f7a4_29 ?_
  refine aw_iand C dJ6_bitCount_0f7a4_32 ?_
  refine aw_istore_n C [(0, .int (((((x0 - (((x0.toUInt32 >>> ((1 : Int32).toUInt32 &&& Int32.toUInt32 31)).toInt32) &&& 1431655765)) &&& 858993459) + ((((x0 - (((x0.toUInt32 >>> ((1 : Int32).toUInt32 &&& Int32.toUInt32 31)).toInt32) &&& 1431655765)).toUInt32 >>> ((2 : Int32).toUInt32 &&& Int32.toUInt32 31)).toInt32) &&& 858993459)) + (((((x0 - (((x0.toUInt32 >>> ((1 : Int32).toUInt32 &&& Int32.toUInt32 31)).toInt32) &&& 1431655765)) &&& 858993459) + ((((x0 - (((x0.toUInt32 >>> ((1 : Int32).toUInt32 &&& Int32.toUInt32 31)).toInt32) &&& 1431655765)).toUInt32 >>> ((2 : Int32).toUInt32 &&& Int32.toUInt32 31)).toInt32) &&& 858993459)).toUInt32 >>> ((4 : Int32).toUInt32 &&& Int32.toUInt32 31)).toInt32)) &&& 252645135))] dJ6_bitCount_0f7a4_33 rfl (by decide) rfl ?_
  refine aw_iload_n C 0 dJ6_bitCount_0f7a4_34 rfl rfl ?_
  refine aw_iload_n C 0 dJ6_bitCount_0f7a4_35 rfl rfl ?_
  refine aw_bipush C 8 dJ6_bitCount_0f7a4_36 (by decide) ?_
  refine aw_iushr C dJ6_bitCount_0f7a4_38 ?_
  refine aw_iadd C dJ6_bitCount_0f7a4_39 ?_
  refine aw_istore_n C [(0, .int ((((((x0 - (((x0.toUInt32 >>> ((1 : Int32).toUInt32 &&& Int32.toUInt32 31)).toInt32) &&& 1431655765)) &&& 858993459) + ((((x0 - (((x0.toUInt32 >>> ((1 : Int32).toUInt32 &&& Int32.toUInt32 31)).toInt32) &&& 1431655765)).toUInt32 >>> ((2 : Int32).toUInt32 &&& Int32.toUInt32 31)).toInt32) &&& 858993459)) + (((((x0 - (((x0.toUInt32 >>> ((1 : Int32).toUInt32 &&& Int32.toUInt32 31)).toInt32) &&& 1431655765)) &&& 858993459) + ((((x0 - (((x0.toUInt32 >>> ((1 : Int32).toUInt32 &&& Int32.toUInt32 31)).toInt32) &&& 1431655765)).toUInt32 >>> ((2 : Int32).toUInt32 &&& Int32.toUInt32 31)).toInt32) &&& 858993459)).toUInt32 >>> ((4 : Int32).toUInt32 &&& Int32.toUInt32 31)).toInt32)) &&& 252645135) + (((((((x0 - (((x0.toUInt32 >>> ((1 : Int32).toUInt32 &&& Int32.toUInt32 31)).toInt32) &&& 1431655765)) &&& 858993459) + ((((x0 - (((x0.toUInt32 >>> ((1 : Int32).toUInt32 &&& Int32.toUInt32 31)).toInt32) &&& 1431655765)).toUInt32 >>> ((2 : Int32).toUInt32 &&& Int32.toUInt32 31)).toInt32) &&& 858993459)) + (((((x0 - (((x0.toUInt32 >>> ((1 : Int32).toUInt32 &&& Int32.toUInt32 31)).toInt32) &&& 1431655765)) &&& 858993459) + ((((x0 - (((x0.toUInt32 >>> ((1 : Int32).toUInt32 &&& Int32.toUInt32 31)).toInt32) &&& 1431655765)).toUInt32 >>> ((2 : Int32).toUInt32 &&& Int32.toUInt32 31)).toInt32) &&& 858993459)).toUInt32 >>> ((4 : Int32).toUInt32 &&& Int32.toUInt32 31)).toInt32)) &&& 252645135).toUInt32 >>> ((8 : Int32).toUInt32 &&& Int32.toUInt32 31)).toInt32)))] dJ6_bitCount_0f7a4_40 rfl (by decide) rfl ?_
  refine aw_iload_n C 0 dJ6_bitCount_0f7a4_41 rfl rfl ?_
  refine aw_iload_n C 0 dJ6_bitCount_0f7a4_42 rfl rfl ?_
  refine aw_bipush C 16 dJ6_bitCount_0f7a4_43 (by decide) ?_
  refine aw_iushr C dJ6_bitCount_0f7a4_45 ?_
  refine aw_iadd C dJ6_bitCount_0f7a4_46 ?_
  refine aw_istore_n C [(0, .int (((((((x0 - (((x0.toUInt32 >>> ((1 : Int32).toUInt32 &&& Int32.toUInt32 31)).toInt32) &&& 1431655765)) &&& 858993459) + ((((x0 - (((x0.toUInt32 >>> ((1 : Int32).toUInt32 &&& Int32.toUInt32 31)).toInt32) &&& 1431655765)).toUInt32 >>> ((2 : Int32).toUInt32 &&& Int32.toUInt32 31)).toInt32) &&& 858993459)) + (((((x0 - (((x0.toUInt32 >>> ((1 : Int32).toUInt32 &&& Int32.toUInt32 31)).toInt32) &&& 1431655765)) &&& 858993459) + ((((x0 - (((x0.toUInt32 >>> ((1 : Int32).toUInt32 &&& Int32.toUInt32 31)).toInt32) &&& 1431655765)).toUInt32 >>> ((2 : Int32).toUInt32 &&& Int32.toUInt32 31)).toInt32) &&& 858993459)).toUInt32 >>> ((4 : Int32).toUInt32 &&& Int32.toUInt32 31)).toInt32)) &&& 252645135) + (((((((x0 - (((x0.toUInt32 >>> ((1 : Int32).toUInt32 &&& Int32.toUInt32 31)).toInt32) &&& 1431655765)) &&& 858993459) + ((((x0 - (((x0.toUInt32 >>> ((1 : Int32).toUInt32 &&& Int32.toUInt32 31)).toInt32) &&& 1431655765)).toUInt32 >>> ((2 : Int32).toUInt32 &&& Int32.toUInt32 31)).toInt32) &&& 858993459)) + (((((x0 - (((x0.toUInt32 >>> ((1 : Int32).toUInt32 &&& Int32.toUInt32 31)).toInt32) &&& 1431655765)) &&& 858993459) + ((((x0 - (((x0.toUInt32 >>> ((1 : Int32).toUInt32 &&& Int32.toUInt32 31)).toInt32) &&& 1431655765)).toUInt32 >>> ((2 : Int32).toUInt32 &&& Int32.toUInt32 31)).toInt32) &&& 858993459)).toUInt32 >>> ((4 : Int32).toUInt32 &&& Int32.toUInt32 31)).toInt32)) &&& 252645135).toUInt32 >>> ((8 : Int32).toUInt32 &&& Int32.toUInt32 31)).toInt32)) + ((((((((x0 - (((x0.toUInt32 >>> ((1 : Int32).toUInt32 &&& Int32.toUInt32 31)).toInt32) &&& 1431655765)) &&& 858993459) + ((((x0 - (((x0.toUInt32 >>> ((1 : Int32).toUInt32 &&& Int32.toUInt32 31)).toInt32) &&& 1431655765)).toUInt32 >>> ((2 : Int32).toUInt32 &&& Int32.toUInt32 31)).toInt32) &&& 858993459)) + (((((x0 - (((x0.toUInt32 >>> ((1 : Int32).toUInt32 &&& Int32.toUInt32 31)).toInt32) &&& 1431655765)) &&& 858993459) + ((((x0 - (((x0.toUInt32 >>> ((1 : Int32).toUInt32 &&& Int32.toUInt32 31)).toInt32) &&& 1431655765)).toUInt32 >>> ((2 : Int32).toUInt32 &&& Int32.toUInt32 31)).toInt32) &&& 858993459)).toUInt32 >>> ((4 : Int32).toUInt32 &&& Int32.toUInt32 31)).toInt32)) &&& 252645135) + (((((((x0 - (((x0.toUInt32 >>> ((1 : Int32).toUInt32 &&& Int32.toUInt32 31)).toInt32) &&& 1431655765)) &&& 858993459) + ((((x0 - (((x0.toUInt32 >>> ((1 : Int32).toUInt32 &&& Int32.toUInt32 31)).toInt32) &&& 1431655765)).toUInt32 >>> ((2 : Int32).toUInt32 &&& Int32.toUInt32 31)).toInt32) &&& 858993459)) + (((((x0 - (((x0.toUInt32 >>> ((1 : Int32).toUInt32 &&& Int32.toUInt32 31)).toInt32) &&& 1431655765)) &&& 858993459) + ((((x0 - (((x0.toUInt32 >>> ((1 : Int32).toUInt32 &&& Int32.toUInt32 31)).toInt32) &&& 1431655765)).toUInt32 >>> ((2 : Int32).toUInt32 &&& Int32.toUInt32 31)).toInt32) &&& 858993459)).toUInt32 >>> ((4 : Int32).toUInt32 &&& Int32.toUInt32 31)).toInt32)) &&& 252645135).toUInt32 >>> ((8 : Int32).toUInt32 &&& Int32.toUInt32 31)).toInt32)).toUInt32 >>> ((16 : Int32).toUInt32 &&& Int32.toUInt32 31)).toInt32)))] dJ6_bitCount_0f7a4_47 rfl (by decide) rfl ?_
  refine aw_iload_n C 0 dJ6_bitCount_0f7a4_48 rfl rfl ?_
  refine aw_bipush C 63 dJ6_bitCount_0f7a4_49 (by decide) ?_
  refine aw_iand C dJ6_bitCount_0f7a4_51 ?_
  exact hret _ _ dJ6_bitCount_0f7a4_52
set_option maxRecDepth 100000 in
set_option maxHeartbeats 4000000 in
theorem mt_J6_bitCount_0f7a4 {G : GL} {l : Launch} (x0 : Int32) {μ : Mem} : MtI G l yJ6_bitCount_0f7a4 cJ6_bitCount_0f7a4 1 (some .int) rm_J6_bitCount_0f7a4 false [.int x0] μ (J6_bitCount_0f7a4 x0) μ := met_I (by decide) rfl rfl (Nat.le_of_ble_eq_true rfl) (fun X _ C _ _ hret => wk_J6_bitCount_0f7a4 C hret)
def X10_within (x0 : Int32) (x1 : Int32) (x2 : Int32) : Int32 :=
  (if x0 < x1 then 0 else if x2 < x0 then 0 else 1)
set_option maxRecDepth 100000 in
set_option maxHeartbeats 4000000 in
theorem wk_X10_within {G : GL} {X : CX} {x0 : Int32} {x1 : Int32} {x2 : Int32} {μ : Mem} (C : Ctx G X cX10_within 3 RX10 rm_X10_within) (hret : RtZ G 3 X cX10_within 0 0 (X10_within x0 x1 x2) μ) : AW G 3 X 0 0 0 [(0, .int x0), (1, .int x1), (2, .int x2)] [] μ := by
  unfold X10_within at hret
  refine aw_iload_n C 0 dX10_within_0 rfl rfl ?_
  refine aw_iload_n C 1 dX10_within_1 rfl rfl ?_
  have kj2 : ∀ (q2_0 : Int32), q2_0 = (if x0 < x1 then 0 else if x2 < x0 then 0 else 1) → AW G 3 X 0 0 15 [] [.int q2_0] μ := by
    rintro _ rfl
    exact hret _ _ dX10_within_15 (by repeat (first | exact Or.inl rfl | exact Or.inr rfl | split))
  refine aw_icmp_lt C 14 dX10_within_2 (by decide) (fun c1 => ?_) (fun c1 => ?_)
  · refine aw_iconst C 0 dX10_within_14 (by decide) ?_
    exact aw_sub [] rfl (kj2 _ (by simp only [if_pos c1]))
  · refine aw_iload_n C 0 dX10_within_5 rfl rfl ?_
    refine aw_iload_n C 2 dX10_within_6 rfl rfl ?_
    refine aw_icmp_gt C 14 dX10_within_7 (by decide) (fun c2 => ?_) (fun c2 => ?_)
    · refine aw_iconst C 0 dX10_within_14 (by decide) ?_
      exact aw_sub [] rfl (kj2 _ (by simp only [if_neg c1, if_pos c2]))
    · refine aw_iconst C 1 dX10_within_10 (by decide) ?_
      refine aw_goto C 15 dX10_within_11 (by decide) ?_
      exact aw_sub [] rfl (kj2 _ (by simp only [if_neg c1, if_neg c2]))
set_option maxRecDepth 100000 in
set_option maxHeartbeats 4000000 in
theorem mt_X10_within {G : GL} {l : Launch} (x0 : Int32) (x1 : Int32) (x2 : Int32) {μ : Mem} : MtI G l yX10_within cX10_within 3 (some .boolean) rm_X10_within false [.int x0, .int x1, .int x2] μ (X10_within x0 x1 x2) μ := met_Z (by decide) rfl (Nat.le_of_ble_eq_true rfl) (fun X _ C _ _ hret => wk_X10_within C hret)
theorem z_X10_within (x0 : Int32) (x1 : Int32) (x2 : Int32) : X10_within x0 x1 x2 = 0 ∨ X10_within x0 x1 x2 = 1 := by
  unfold X10_within
  repeat (first | exact Or.inl rfl | exact Or.inr rfl | split)
def X9_factor (x0 : Int32) (x1 : Int32) : Int64 :=
  (if x1 = 0 then x0.toInt64 else if x0 ≤ 0 then x0.toInt64 else 1)
set_option maxRecDepth 100000 in
set_option maxHeartbeats 4000000 in
theorem wk_X9_factor {G : GL} {X : CX} {x0 : Int32} {x1 : Int32} {μ : Mem} (C : Ctx G X cX9_factor 2 RX9 rm_X9_factor) (hret : RtJ G 2 X cX9_factor 0 0 (X9_factor x0 x1) μ) : AW G 2 X 0 0 0 [(0, .int x0), (1, .int x1)] [] μ := by
  unfold X9_factor at hret
  refine aw_iload_n C 1 dX9_factor_0 rfl rfl ?_
  have kj1 : ∀ (q1_0 : Int64), q1_0 = (if x1 = 0 then x0.toInt64 else if x0 ≤ 0 then x0.toInt64 else 1) → AW G 2 X 0 0 14 [] [.long q1_0] μ := by
    rintro _ rfl
    exact hret _ _ dX9_factor_14
  refine aw_if_eq C 12 dX9_factor_1 (by decide) (fun c1 => ?_) (fun c1 => ?_)
  · refine aw_iload_n C 0 dX9_factor_12 rfl rfl ?_
    refine aw_i2l C dX9_factor_13 ?_
    exact aw_sub [] rfl (kj1 _ (by simp only [if_pos c1]))
  · refine aw_iload_n C 0 dX9_factor_4 rfl rfl ?_
    refine aw_if_le C 12 dX9_factor_5 (by decide) (fun c2 => ?_) (fun c2 => ?_)
    · refine aw_iload_n C 0 dX9_factor_12 rfl rfl ?_
      refine aw_i2l C dX9_factor_13 ?_
      exact aw_sub [] rfl (kj1 _ (by simp only [if_neg c1, if_pos c2]))
    · refine aw_lconst C 1 dX9_factor_8 (by decide) ?_
      refine aw_goto C 14 dX9_factor_9 (by decide) ?_
      exact aw_sub [] rfl (kj1 _ (by simp only [if_neg c1, if_neg c2]))
set_option maxRecDepth 100000 in
set_option maxHeartbeats 4000000 in
theorem mt_X9_factor {G : GL} {l : Launch} (x0 : Int32) (x1 : Int32) {μ : Mem} : MtJ G l yX9_factor cX9_factor 2 (some .long) rm_X9_factor false [.int x0, .int x1] μ (X9_factor x0 x1) μ := met_J (by decide) rfl (Nat.le_of_ble_eq_true rfl) (fun X _ C _ _ hret => wk_X9_factor C hret)
def X9_signFactor (a0 : Nat) (x1 : Int32) (x2 : Int32) (x3 : Int32) (μ : Mem) : Option Int64 :=
  ((if x2 < 0 then
  some 1
  else
  if x2 < 4 then
  (gR 9 1 a0 μ).bind fun v3 =>
  (aR 7 v3 x1 μ).bind fun v4 =>
  (aI v4 x2 μ).bind fun v5 =>
  some (X9_factor v5 x3)
  else
  some 1) : Option (Int64)).bind fun z6 =>
  some (z6)
set_option maxRecDepth 100000 in
set_option maxHeartbeats 4000000 in
theorem wk_X9_signFactor {G : GL} {X : CX} {a0 : Nat} {x1 : Int32} {x2 : Int32} {x3 : Int32} {μ : Mem} {r : Int64} (C : Ctx G X cX9_signFactor 4 RX9 rm_X9_signFactor) (h : X9_signFactor a0 x1 x2 x3 μ = some r) (hret : RtJ G 4 X cX9_signFactor 0 0 r μ) : AW G 4 X 0 0 0 [(0, .ref (gZ G + a0)), (1, .int x1), (2, .int x2), (3, .int x3)] [] μ := by
  unfold X9_signFactor at h
  refine aw_iload_n C 2 dX9_signFactor_0 rfl rfl ?_
  obtain ⟨z6, hz6, h⟩ := bindE h
  have kj1 : AW G 4 X 0 0 25 [] [.long z6] μ := by
    cases h
    exact hret _ _ dX9_signFactor_25
  replace h := hz6
  refine aw_if_lt C 9 dX9_signFactor_1 (by decide) (fun c1 => ?_) (fun c1 => ?_)
  · rw [if_pos c1] at h
    refine aw_lconst C 1 dX9_signFactor_9 (by decide) ?_
    refine aw_goto C 25 dX9_signFactor_10 (by decide) ?_
    cases h
    exact aw_sub [] rfl kj1
  · rw [if_neg c1] at h
    refine aw_iload_n C 2 dX9_signFactor_4 rfl rfl ?_
    refine aw_iconst C 4 dX9_signFactor_5 (by decide) ?_
    refine aw_icmp_lt C 13 dX9_signFactor_6 (by decide) (fun c2 => ?_) (fun c2 => ?_)
    · rw [if_pos c2] at h
      refine aw_aload_n C 0 dX9_signFactor_13 rfl rfl ?_
      obtain ⟨v3, hv3, h⟩ := bindE h
      refine aw_gR C fl_X9_16 rfl hv3 dX9_signFactor_14 ?_
      refine aw_iload_n C 1 dX9_signFactor_17 rfl rfl ?_
      obtain ⟨v4, hv4, h⟩ := bindE h
      refine aw_aR C (by decide) (ty := .array .int) rfl rfl hv4 dX9_signFactor_18 ?_
      refine aw_iload_n C 2 dX9_signFactor_19 rfl rfl ?_
      obtain ⟨v5, hv5, h⟩ := bindE h
      refine aw_aI C hv5 dX9_signFactor_20 ?_
      refine aw_iload_n C 3 dX9_signFactor_21 rfl rfl ?_
      refine aw_cS_J C [.int v5, .int x3] _ (mt_X9_factor _ _) cs_X9_factor ml_X9_58 st_X9_factor ⟨by decide, by decide⟩ ⟨rfl, rfl⟩ ⟨Nat.zero_le _, Nat.zero_le _⟩ rfl rfl (Nat.le_of_ble_eq_true rfl) dX9_signFactor_22 ?_
      cases h
      exact aw_sub [] rfl kj1
    · rw [if_neg c2] at h
      refine aw_lconst C 1 dX9_signFactor_9 (by decide) ?_
      refine aw_goto C 25 dX9_signFactor_10 (by decide) ?_
      cases h
      exact aw_sub [] rfl kj1
set_option maxRecDepth 100000 in
set_option maxHeartbeats 4000000 in
theorem mt_X9_signFactor {G : GL} {l : Launch} {a0 : Nat} {x1 : Int32} {x2 : Int32} {x3 : Int32} {μ : Mem} {r : Int64} (h : X9_signFactor a0 x1 x2 x3 μ = some r) : MtJ G l yX9_signFactor cX9_signFactor 4 (some .long) rm_X9_signFactor false [.ref (gZ G + a0), .int x1, .int x2, .int x3] μ r μ := met_J (by decide) rfl (Nat.le_of_ble_eq_true rfl) (fun X _ C _ _ hret => wk_X9_signFactor C h hret)
def X9_weigh_L19 (a0 : Nat) (x1 : Int32) (x2 : Int32) (x3 : Int32) (x4 : Int32) : Nat → Int32 → Mem → Option (Int32 × Mem)
  | 0, _, _ => none
  | n + 1, x5, μ =>
      if (4 : Int32) ≤ x5 then
      some ((x5, μ))
      else
      (gR 9 6 a0 μ).bind fun v2 =>
      (gR 9 2 a0 μ).bind fun v3 =>
      (aI v3 x5 μ).bind fun v4 =>
      (gR 9 3 a0 μ).bind fun v5 =>
      (aR 7 v5 x1 μ).bind fun v6 =>
      (aI v6 x4 μ).bind fun v7 =>
      (vO 9 a0 μ).bind fun g8 =>
      (X9_signFactor a0 x5 v7 x3 μ).bind fun v9 =>
      (sJ v2 x5 ((X9_factor v4 x3) * v9) μ).bind fun μ10 =>
      X9_weigh_L19 a0 x1 x2 x3 x4 n (x5 + 1) μ10
set_option maxRecDepth 100000 in
set_option maxHeartbeats 4000000 in
theorem X9_weigh_L19_ok {G : GL} {X : CX} (C : Ctx G X cX9_weigh 10 RX9 rm_X9_weigh) (a0 : Nat) (x1 : Int32) (x2 : Int32) (x3 : Int32) (x4 : Int32) : ∀ (n : Nat) (x5 : Int32) (μ : Mem) (z : Int32 × Mem), X9_weigh_L19 a0 x1 x2 x3 x4 n x5 μ = some z → AW G 10 X 0 0 66 [(0, .ref (gZ G + a0)), (1, .int x1), (2, .int x2), (3, .int x3), (4, .int x4), (5, .int z.1)] [] z.2 → AW G 10 X 0 0 19 [(0, .ref (gZ G + a0)), (1, .int x1), (2, .int x2), (3, .int x3), (4, .int x4), (5, .int x5)] [] μ := by
  intro n
  induction n with
  | zero =>
    intro x5 μ z h kx
    rw [X9_weigh_L19] at h
    cases h
  | succ n ih =>
    intro x5 μ z h kx
    rw [X9_weigh_L19] at h
    refine aw_iload C 5 dX9_weigh_19 rfl ?_
    refine aw_iconst C 4 dX9_weigh_21 (by decide) ?_
    refine aw_icmp_ge C 66 dX9_weigh_22 (by decide) (fun c1 => ?_) (fun c1 => ?_)
    · rw [if_pos c1] at h
      cases h
      exact aw_sub [0, 1, 2, 3, 4, 5] rfl kx
    · rw [if_neg c1] at h
      refine aw_aload_n C 0 dX9_weigh_25 rfl rfl ?_
      obtain ⟨v2, hv2, h⟩ := bindE h
      refine aw_gR C fl_X9_29 rfl hv2 dX9_weigh_26 ?_
      refine aw_iload C 5 dX9_weigh_29 rfl ?_
      refine aw_aload_n C 0 dX9_weigh_31 rfl rfl ?_
      obtain ⟨v3, hv3, h⟩ := bindE h
      refine aw_gR C fl_X9_19 rfl hv3 dX9_weigh_32 ?_
      refine aw_iload C 5 dX9_weigh_35 rfl ?_
      obtain ⟨v4, hv4, h⟩ := bindE h
      refine aw_aI C hv4 dX9_weigh_37 ?_
      refine aw_iload_n C 3 dX9_weigh_38 rfl rfl ?_
      refine aw_cS_J C [.int v4, .int x3] _ (mt_X9_factor _ _) cs_X9_factor ml_X9_58 st_X9_factor ⟨by decide, by decide⟩ ⟨rfl, rfl⟩ ⟨Nat.zero_le _, Nat.zero_le _⟩ rfl rfl (Nat.le_of_ble_eq_true rfl) dX9_weigh_39 ?_
      refine aw_aload_n C 0 dX9_weigh_42 rfl rfl ?_
      refine aw_iload C 5 dX9_weigh_43 rfl ?_
      refine aw_aload_n C 0 dX9_weigh_45 rfl rfl ?_
      obtain ⟨v5, hv5, h⟩ := bindE h
      refine aw_gR C fl_X9_23 rfl hv5 dX9_weigh_46 ?_
      refine aw_iload_n C 1 dX9_weigh_49 rfl rfl ?_
      obtain ⟨v6, hv6, h⟩ := bindE h
      refine aw_aR C (by decide) (ty := .array .int) rfl rfl hv6 dX9_weigh_50 ?_
      refine aw_iload C 4 dX9_weigh_51 rfl ?_
      obtain ⟨v7, hv7, h⟩ := bindE h
      refine aw_aI C hv7 dX9_weigh_53 ?_
      refine aw_iload_n C 3 dX9_weigh_54 rfl rfl ?_
      obtain ⟨g8, hg8, h⟩ := bindE h
      obtain ⟨v9, hv9, h⟩ := bindE h
      refine aw_cV_J C [.int x5, .int v7, .int x3] _ (mt_X9_signFactor hv9) cs_X9_signFactor ml_X9_62 im_X9_signFactor se_X9_signFactor (ci := 9) rfl rfl hg8 ⟨by decide, by decide⟩ ⟨rfl, rfl⟩ ⟨Nat.zero_le _, Nat.zero_le _⟩ rfl rfl (Nat.le_of_ble_eq_true rfl) dX9_weigh_55 ?_
      refine aw_lmul C dX9_weigh_58 ?_
      obtain ⟨μ10, hμ10, h⟩ := bindE h
      refine aw_sJ C hμ10 dX9_weigh_59 ?_
      refine aw_iinc C (x5 + 1) 5 [(5, .int (x5 + 1)), (0, .ref (gZ G + a0)), (1, .int x1), (2, .int x2), (3, .int x3), (4, .int x4)] dX9_weigh_60 rfl rfl (by decide) rfl ?_
      refine aw_goto C 19 dX9_weigh_63 (by decide) ?_
      exact aw_sub [1, 2, 3, 4, 5, 0] rfl (ih _ _ _ h kx)
def X9_weigh_L93 (a0 : Nat) (x1 : Int32) (x2 : Int32) (x3 : Int32) (x5 : Int32) (x6 : Int32) (μ : Mem) : Nat → Int64 → Int32 → Option (Int64 × Int32)
  | 0, _, _ => none
  | n + 1, j7, x9 =>
      if (4 : Int32) ≤ x9 then
      some ((j7, x9))
      else
      (gR 9 6 a0 μ).bind fun v2 =>
      (aJ v2 x9 μ).bind fun v3 =>
      (gR 9 0 a0 μ).bind fun v4 =>
      (aR 7 v4 x9 μ).bind fun v5 =>
      (aI v5 x6 μ).bind fun v6 =>
      (some (j7 + (v3 * (X9_factor v6 x3)) : Int64)).bind fun v7 =>
      X9_weigh_L93 a0 x1 x2 x3 x5 x6 μ n v7 (x9 + 1)
set_option maxRecDepth 100000 in
set_option maxHeartbeats 4000000 in
theorem X9_weigh_L93_ok {G : GL} {X : CX} (C : Ctx G X cX9_weigh 10 RX9 rm_X9_weigh) (a0 : Nat) (x1 : Int32) (x2 : Int32) (x3 : Int32) (x5 : Int32) (x6 : Int32) (μ : Mem) : ∀ (n : Nat) (j7 : Int64) (x9 : Int32) (z : Int64 × Int32), X9_weigh_L93 a0 x1 x2 x3 x5 x6 μ n j7 x9 = some z → AW G 10 X 0 0 132 [(0, .ref (gZ G + a0)), (1, .int x1), (2, .int x2), (3, .int x3), (5, .int x5), (6, .int x6), (7, .long z.1), (9, .int z.2)] [] μ → AW G 10 X 0 0 93 [(0, .ref (gZ G + a0)), (1, .int x1), (2, .int x2), (3, .int x3), (5, .int x5), (6, .int x6), (7, .long j7), (9, .int x9)] [] μ := by
  intro n
  induction n with
  | zero =>
    intro j7 x9 z h kx
    rw [X9_weigh_L93] at h
    cases h
  | succ n ih =>
    intro j7 x9 z h kx
    rw [X9_weigh_L93] at h
    refine aw_iload C 7 dX9_weigh_93 rfl ?_
    refine aw_iconst C 4 dX9_weigh_95 (by decide) ?_
    refine aw_icmp_ge C 132 dX9_weigh_96 (by decide) (fun c1 => ?_) (fun c1 => ?_)
    · rw [if_pos c1] at h
      cases h
      exact aw_sub [0, 1, 2, 3, 4, 5, 6, 7] rfl kx
    · rw [if_neg c1] at h
      refine aw_lload C 6 dX9_weigh_99 rfl ?_
      refine aw_aload_n C 0 dX9_weigh_101 rfl rfl ?_
      obtain ⟨v2, hv2, h⟩ := bindE h
      refine aw_gR C fl_X9_29 rfl hv2 dX9_weigh_102 ?_
      refine aw_iload C 7 dX9_weigh_105 rfl ?_
      obtain ⟨v3, hv3, h⟩ := bindE h
      refine aw_aJ C hv3 dX9_weigh_107 ?_
      refine aw_aload_n C 0 dX9_weigh_108 rfl rfl ?_
      obtain ⟨v4, hv4, h⟩ := bindE h
      refine aw_gR C fl_X9_11 rfl hv4 dX9_weigh_109 ?_
      refine aw_iload C 7 dX9_weigh_112 rfl ?_
      obtain ⟨v5, hv5, h⟩ := bindE h
      refine aw_aR C (by decide) (ty := .array .int) rfl rfl hv5 dX9_weigh_114 ?_
      refine aw_iload C 5 dX9_weigh_115 rfl ?_
      obtain ⟨v6, hv6, h⟩ := bindE h
      refine aw_aI C hv6 dX9_weigh_117 ?_
      refine aw_iload_n C 3 dX9_weigh_118 rfl rfl ?_
      refine aw_cS_J C [.int v6, .int x3] _ (mt_X9_factor _ _) cs_X9_factor ml_X9_58 st_X9_factor ⟨by decide, by decide⟩ ⟨rfl, rfl⟩ ⟨Nat.zero_le _, Nat.zero_le _⟩ rfl rfl (Nat.le_of_ble_eq_true rfl) dX9_weigh_119 ?_
      refine aw_lmul C dX9_weigh_122 ?_
      refine aw_ladd C dX9_weigh_123 ?_
      obtain ⟨v7, ev7, h⟩ := bindS h
      refine aw_topj ev7 ?_
      refine aw_lstore C [(7, .long v7), (0, .ref (gZ G + a0)), (1, .int x1), (2, .int x2), (3, .int x3), (5, .int x5), (6, .int x6), (9, .int x9)] dX9_weigh_124 (by decide) rfl ?_
      refine aw_iinc C (x9 + 1) 7 [(9, .int (x9 + 1)), (7, .long v7), (0, .ref (gZ G + a0)), (1, .int x1), (2, .int x2), (3, .int x3), (5, .int x5), (6, .int x6)] dX9_weigh_126 rfl rfl (by decide) rfl ?_
      refine aw_goto C 93 dX9_weigh_129 (by decide) ?_
      exact aw_sub [2, 3, 4, 5, 6, 7, 1, 0] rfl (ih _ _ _ h kx)
def X9_weigh_L81 (a0 : Nat) (x1 : Int32) (x2 : Int32) (x3 : Int32) (x5 : Int32) : Nat → Int32 → Mem → Option (Int32 × Mem)
  | 0, _, _ => none
  | n + 1, x6, μ =>
      if (4 : Int32) ≤ x6 then
      some ((x6, μ))
      else
      (X9_weigh_L93 a0 x1 x2 x3 x5 x6 μ FU 0 0).bind fun z2 =>
      (gR 9 7 a0 μ).bind fun v3 =>
      (gR 9 3 a0 μ).bind fun v4 =>
      (aR 7 v4 x1 μ).bind fun v5 =>
      (aI v5 x5 μ).bind fun v6 =>
      (vO 9 a0 μ).bind fun g7 =>
      (X9_signFactor a0 x6 v6 x3 μ).bind fun v8 =>
      (sJ v3 x6 (z2.1 * v8) μ).bind fun μ9 =>
      X9_weigh_L81 a0 x1 x2 x3 x5 n (x6 + 1) μ9
set_option maxRecDepth 100000 in
set_option maxHeartbeats 4000000 in
theorem X9_weigh_L81_ok {G : GL} {X : CX} (C : Ctx G X cX9_weigh 10 RX9 rm_X9_weigh) (a0 : Nat) (x1 : Int32) (x2 : Int32) (x3 : Int32) (x5 : Int32) : ∀ (n : Nat) (x6 : Int32) (μ : Mem) (z : Int32 × Mem), X9_weigh_L81 a0 x1 x2 x3 x5 n x6 μ = some z → AW G 10 X 0 0 164 [(0, .ref (gZ G + a0)), (1, .int x1), (2, .int x2), (3, .int x3), (5, .int x5), (6, .int z.1)] [] z.2 → AW G 10 X 0 0 81 [(0, .ref (gZ G + a0)), (1, .int x1), (2, .int x2), (3, .int x3), (5, .int x5), (6, .int x6)] [] μ := by
  intro n
  induction n with
  | zero =>
    intro x6 μ z h kx
    rw [X9_weigh_L81] at h
    cases h
  | succ n ih =>
    intro x6 μ z h kx
    rw [X9_weigh_L81] at h
    refine aw_iload C 5 dX9_weigh_81 rfl ?_
    refine aw_iconst C 4 dX9_weigh_83 (by decide) ?_
    refine aw_icmp_ge C 164 dX9_weigh_84 (by decide) (fun c1 => ?_) (fun c1 => ?_)
    · rw [if_pos c1] at h
      cases h
      exact aw_sub [0, 1, 2, 3, 4, 5] rfl kx
    · rw [if_neg c1] at h
      refine aw_lconst C 0 dX9_weigh_87 (by decide) ?_
      refine aw_lstore C [(7, .long 0), (0, .ref (gZ G + a0)), (1, .int x1), (2, .int x2), (3, .int x3), (5, .int x5), (6, .int x6)] dX9_weigh_88 (by decide) rfl ?_
      refine aw_iconst C 0 dX9_weigh_90 (by decide) ?_
      refine aw_istore C [(9, .int 0), (7, .long 0), (0, .ref (gZ G + a0)), (1, .int x1), (2, .int x2), (3, .int x3), (5, .int x5), (6, .int x6)] dX9_weigh_91 (by decide) rfl ?_
      obtain ⟨z2, hz2, h⟩ := bindE h
      refine aw_sub [2, 3, 4, 5, 6, 7, 1, 0] rfl ?_
      refine X9_weigh_L93_ok C _ _ _ _ _ _ _ _ _ _ _ hz2 ?_
      refine aw_aload_n C 0 dX9_weigh_132 rfl rfl ?_
      obtain ⟨v3, hv3, h⟩ := bindE h
      refine aw_gR C fl_X9_33 rfl hv3 dX9_weigh_133 ?_
      refine aw_iload C 5 dX9_weigh_136 rfl ?_
      refine aw_lload C 6 dX9_weigh_138 rfl ?_
      refine aw_aload_n C 0 dX9_weigh_140 rfl rfl ?_
      refine aw_iload C 5 dX9_weigh_141 rfl ?_
      refine aw_aload_n C 0 dX9_weigh_143 rfl rfl ?_
      obtain ⟨v4, hv4, h⟩ := bindE h
      refine aw_gR C fl_X9_23 rfl hv4 dX9_weigh_144 ?_
      refine aw_iload_n C 1 dX9_weigh_147 rfl rfl ?_
      obtain ⟨v5, hv5, h⟩ := bindE h
      refine aw_aR C (by decide) (ty := .array .int) rfl rfl hv5 dX9_weigh_148 ?_
      refine aw_iload C 4 dX9_weigh_149 rfl ?_
      obtain ⟨v6, hv6, h⟩ := bindE h
      refine aw_aI C hv6 dX9_weigh_151 ?_
      refine aw_iload_n C 3 dX9_weigh_152 rfl rfl ?_
      obtain ⟨g7, hg7, h⟩ := bindE h
      obtain ⟨v8, hv8, h⟩ := bindE h
      refine aw_cV_J C [.int x6, .int v6, .int x3] _ (mt_X9_signFactor hv8) cs_X9_signFactor ml_X9_62 im_X9_signFactor se_X9_signFactor (ci := 9) rfl rfl hg7 ⟨by decide, by decide⟩ ⟨rfl, rfl⟩ ⟨Nat.zero_le _, Nat.zero_le _⟩ rfl rfl (Nat.le_of_ble_eq_true rfl) dX9_weigh_153 ?_
      refine aw_lmul C dX9_weigh_156 ?_
      obtain ⟨μ9, hμ9, h⟩ := bindE h
      refine aw_sJ C hμ9 dX9_weigh_157 ?_
      refine aw_iinc C (x6 + 1) 5 [(6, .int (x6 + 1)), (0, .ref (gZ G + a0)), (1, .int x1), (2, .int x2), (3, .int x3), (5, .int x5), (7, .long z2.1), (9, .int z2.2)] dX9_weigh_158 rfl rfl (by decide) rfl ?_
      refine aw_goto C 81 dX9_weigh_161 (by decide) ?_
      exact aw_sub [1, 2, 3, 4, 5, 0] rfl (ih _ _ _ h kx)
def X9_weigh_L72 (a0 : Nat) (x1 : Int32) (x2 : Int32) (x3 : Int32) : Nat → Int32 → Mem → Option (Int32 × Mem)
  | 0, _, _ => none
  | n + 1, x5, μ =>
      if x2 < x5 then
      some ((x5, μ))
      else
      (X9_weigh_L81 a0 x1 x2 x3 x5 FU 0 μ).bind fun z2 =>
      (gR 9 6 a0 z2.2).bind fun v3 =>
      (gR 9 7 a0 z2.2).bind fun v4 =>
      (pR 9 6 a0 v4 z2.2).bind fun μ5 =>
      (pR 9 7 a0 v3 μ5).bind fun μ6 =>
      X9_weigh_L72 a0 x1 x2 x3 n (x5 + 1) μ6
set_option maxRecDepth 100000 in
set_option maxHeartbeats 4000000 in
theorem X9_weigh_L72_ok {G : GL} {X : CX} (C : Ctx G X cX9_weigh 10 RX9 rm_X9_weigh) (a0 : Nat) (x1 : Int32) (x2 : Int32) (x3 : Int32) : ∀ (n : Nat) (x5 : Int32) (μ : Mem) (z : Int32 × Mem), X9_weigh_L72 a0 x1 x2 x3 n x5 μ = some z → AW G 10 X 0 0 190 [(0, .ref (gZ G + a0)), (1, .int x1), (2, .int x2), (3, .int x3), (5, .int z.1)] [] z.2 → AW G 10 X 0 0 72 [(0, .ref (gZ G + a0)), (1, .int x1), (2, .int x2), (3, .int x3), (5, .int x5)] [] μ := by
  intro n
  induction n with
  | zero =>
    intro x5 μ z h kx
    rw [X9_weigh_L72] at h
    cases h
  | succ n ih =>
    intro x5 μ z h kx
    rw [X9_weigh_L72] at h
    refine aw_iload C 4 dX9_weigh_72 rfl ?_
    refine aw_iload_n C 2 dX9_weigh_74 rfl rfl ?_
    refine aw_icmp_gt C 190 dX9_weigh_75 (by decide) (fun c1 => ?_) (fun c1 => ?_)
    · rw [if_pos c1] at h
      cases h
      exact aw_sub [0, 1, 2, 3, 4] rfl kx
    · rw [if_neg c1] at h
      refine aw_iconst C 0 dX9_weigh_78 (by decide) ?_
      refine aw_istore C [(6, .int 0), (0, .ref (gZ G + a0)), (1, .int x1), (2, .int x2), (3, .int x3), (5, .int x5)] dX9_weigh_79 (by decide) rfl ?_
      obtain ⟨z2, hz2, h⟩ := bindE h
      refine aw_sub [1, 2, 3, 4, 5, 0] rfl ?_
      refine X9_weigh_L81_ok C _ _ _ _ _ _ _ _ _ hz2 ?_
      refine aw_aload_n C 0 dX9_weigh_164 rfl rfl ?_
      obtain ⟨v3, hv3, h⟩ := bindE h
      refine aw_gR C fl_X9_29 rfl hv3 dX9_weigh_165 ?_
      refine aw_astore C [(6, .ref (gZ G + v3)), (0, .ref (gZ G + a0)), (1, .int x1), (2, .int x2), (3, .int x3), (5, .int x5)] dX9_weigh_168 (by decide) rfl ?_
      refine aw_aload_n C 1 dX9_weigh_170 rfl rfl ?_
      refine aw_aload_n C 1 dX9_weigh_171 rfl rfl ?_
      obtain ⟨v4, hv4, h⟩ := bindE h
      refine aw_gR C fl_X9_33 rfl hv4 dX9_weigh_172 ?_
      obtain ⟨μ5, hμ5, h⟩ := bindE h
      refine aw_pR C fl_X9_29 rfl rfl rfl hμ5 dX9_weigh_175 ?_
      refine aw_aload_n C 1 dX9_weigh_178 rfl rfl ?_
      refine aw_aload C 0 dX9_weigh_179 rfl ?_
      obtain ⟨μ6, hμ6, h⟩ := bindE h
      refine aw_pR C fl_X9_33 rfl rfl rfl hμ6 dX9_weigh_181 ?_
      refine aw_iinc C (x5 + 1) 5 [(5, .int (x5 + 1)), (6, .ref (gZ G + v3)), (0, .ref (gZ G + a0)), (1, .int x1), (2, .int x2), (3, .int x3)] dX9_weigh_184 rfl rfl (by decide) rfl ?_
      refine aw_goto C 72 dX9_weigh_187 (by decide) ?_
      exact aw_sub [2, 3, 4, 5, 0] rfl (ih _ _ _ h kx)
def X9_weigh (a0 : Nat) (x1 : Int32) (x2 : Int32) (x3 : Int32) (μ : Mem) : Option Mem :=
  (some (if x2 ≤ 6 then 0 else x2 - 6 : Int32)).bind fun v2 =>
  (X9_weigh_L19 a0 x1 x2 x3 v2 FU 0 μ).bind fun z3 =>
  (some (v2 + 1 : Int32)).bind fun v4 =>
  (X9_weigh_L72 a0 x1 x2 x3 FU v4 z3.2).bind fun z5 =>
  some z5.2
set_option maxRecDepth 100000 in
set_option maxHeartbeats 4000000 in
theorem wk_X9_weigh {G : GL} {X : CX} {a0 : Nat} {x1 : Int32} {x2 : Int32} {x3 : Int32} {μ : Mem} {μ' : Mem} (C : Ctx G X cX9_weigh 10 RX9 rm_X9_weigh) (h : X9_weigh a0 x1 x2 x3 μ = some μ') (hret : RtV G 10 X cX9_weigh 0 0 μ') : AW G 10 X 0 0 0 [(0, .ref (gZ G + a0)), (1, .int x1), (2, .int x2), (3, .int x3)] [] μ := by
  unfold X9_weigh at h
  refine aw_iload_n C 2 dX9_weigh_0 rfl rfl ?_
  refine aw_bipush C 6 dX9_weigh_1 (by decide) ?_
  obtain ⟨v2, ev2, h⟩ := bindS h
  have kj3 : AW G 10 X 0 0 14 [(0, .ref (gZ G + a0)), (1, .int x1), (2, .int x2), (3, .int x3)] [.int v2] μ := by
    refine aw_istore C [(4, .int v2), (0, .ref (gZ G + a0)), (1, .int x1), (2, .int x2), (3, .int x3)] dX9_weigh_14 (by decide) rfl ?_
    refine aw_iconst C 0 dX9_weigh_16 (by decide) ?_
    refine aw_istore C [(5, .int 0), (4, .int v2), (0, .ref (gZ G + a0)), (1, .int x1), (2, .int x2), (3, .int x3)] dX9_weigh_17 (by decide) rfl ?_
    obtain ⟨z3, hz3, h⟩ := bindE h
    refine aw_sub [2, 3, 4, 5, 1, 0] rfl ?_
    refine X9_weigh_L19_ok C _ _ _ _ _ _ _ _ _ hz3 ?_
    refine aw_iload C 4 dX9_weigh_66 rfl ?_
    refine aw_iconst C 1 dX9_weigh_68 (by decide) ?_
    refine aw_iadd C dX9_weigh_69 ?_
    obtain ⟨v4, ev4, h⟩ := bindS h
    refine aw_topi ev4 ?_
    refine aw_istore C [(5, .int v4), (0, .ref (gZ G + a0)), (1, .int x1), (2, .int x2), (3, .int x3), (4, .int v2)] dX9_weigh_70 (by decide) rfl ?_
    obtain ⟨z5, hz5, h⟩ := bindE h
    refine aw_sub [1, 2, 3, 4, 0] rfl ?_
    refine X9_weigh_L72_ok C _ _ _ _ _ _ _ _ hz5 ?_
    cases h
    exact hret _ _ dX9_weigh_190
  clear h
  refine aw_icmp_le C 13 dX9_weigh_3 (by decide) (fun c1 => ?_) (fun c1 => ?_)
  · refine aw_iconst C 0 dX9_weigh_13 (by decide) ?_
    rw [if_pos c1] at ev2
    subst ev2
    exact aw_sub [0, 1, 2, 3] rfl kj3
  · refine aw_iload_n C 2 dX9_weigh_6 rfl rfl ?_
    refine aw_bipush C 6 dX9_weigh_7 (by decide) ?_
    refine aw_isub C dX9_weigh_9 ?_
    refine aw_goto C 14 dX9_weigh_10 (by decide) ?_
    rw [if_neg c1] at ev2
    subst ev2
    exact aw_sub [0, 1, 2, 3] rfl kj3
set_option maxRecDepth 100000 in
set_option maxHeartbeats 4000000 in
theorem mt_X9_weigh {G : GL} {l : Launch} {a0 : Nat} {x1 : Int32} {x2 : Int32} {x3 : Int32} {μ : Mem} {μ' : Mem} (h : X9_weigh a0 x1 x2 x3 μ = some μ') : MtV G l yX9_weigh cX9_weigh 10 none rm_X9_weigh false [.ref (gZ G + a0), .int x1, .int x2, .int x3] μ μ' := met_V (by decide) rfl (Nat.le_of_ble_eq_true rfl) (fun X _ C _ _ hret => wk_X9_weigh C h hret)
def X9_allWeights (a0 : Nat) (μ : Mem) : Option Int64 :=
  (gR 9 6 a0 μ).bind fun v1 =>
  (aJ v1 0 μ).bind fun v2 =>
  (gR 9 6 a0 μ).bind fun v3 =>
  (aJ v3 1 μ).bind fun v4 =>
  (gR 9 6 a0 μ).bind fun v5 =>
  (aJ v5 2 μ).bind fun v6 =>
  (gR 9 6 a0 μ).bind fun v7 =>
  (aJ v7 3 μ).bind fun v8 =>
  some (((v2 + v4) + v6) + v8)
set_option maxRecDepth 100000 in
set_option maxHeartbeats 4000000 in
theorem wk_X9_allWeights {G : GL} {X : CX} {a0 : Nat} {μ : Mem} {r : Int64} (C : Ctx G X cX9_allWeights 1 RX9 rm_X9_allWeights) (h : X9_allWeights a0 μ = some r) (hret : RtJ G 1 X cX9_allWeights 0 0 r μ) : AW G 1 X 0 0 0 [(0, .ref (gZ G + a0))] [] μ := by
  unfold X9_allWeights at h
  refine aw_aload_n C 0 dX9_allWeights_0 rfl rfl ?_
  obtain ⟨v1, hv1, h⟩ := bindE h
  refine aw_gR C fl_X9_29 rfl hv1 dX9_allWeights_1 ?_
  refine aw_iconst C 0 dX9_allWeights_4 (by decide) ?_
  obtain ⟨v2, hv2, h⟩ := bindE h
  refine aw_aJ C hv2 dX9_allWeights_5 ?_
  refine aw_aload_n C 0 dX9_allWeights_6 rfl rfl ?_
  obtain ⟨v3, hv3, h⟩ := bindE h
  refine aw_gR C fl_X9_29 rfl hv3 dX9_allWeights_7 ?_
  refine aw_iconst C 1 dX9_allWeights_10 (by decide) ?_
  obtain ⟨v4, hv4, h⟩ := bindE h
  refine aw_aJ C hv4 dX9_allWeights_11 ?_
  refine aw_ladd C dX9_allWeights_12 ?_
  refine aw_aload_n C 0 dX9_allWeights_13 rfl rfl ?_
  obtain ⟨v5, hv5, h⟩ := bindE h
  refine aw_gR C fl_X9_29 rfl hv5 dX9_allWeights_14 ?_
  refine aw_iconst C 2 dX9_allWeights_17 (by decide) ?_
  obtain ⟨v6, hv6, h⟩ := bindE h
  refine aw_aJ C hv6 dX9_allWeights_18 ?_
  refine aw_ladd C dX9_allWeights_19 ?_
  refine aw_aload_n C 0 dX9_allWeights_20 rfl rfl ?_
  obtain ⟨v7, hv7, h⟩ := bindE h
  refine aw_gR C fl_X9_29 rfl hv7 dX9_allWeights_21 ?_
  refine aw_iconst C 3 dX9_allWeights_24 (by decide) ?_
  obtain ⟨v8, hv8, h⟩ := bindE h
  refine aw_aJ C hv8 dX9_allWeights_25 ?_
  refine aw_ladd C dX9_allWeights_26 ?_
  cases h
  exact hret _ _ dX9_allWeights_27
set_option maxRecDepth 100000 in
set_option maxHeartbeats 4000000 in
theorem mt_X9_allWeights {G : GL} {l : Launch} {a0 : Nat} {μ : Mem} {r : Int64} (h : X9_allWeights a0 μ = some r) : MtJ G l yX9_allWeights cX9_allWeights 1 (some .long) rm_X9_allWeights false [.ref (gZ G + a0)] μ r μ := met_J (by decide) rfl (Nat.le_of_ble_eq_true rfl) (fun X _ C _ _ hret => wk_X9_allWeights C h hret)
def X9_moveOn_L2 (a0 : Nat) (a1 : Nat) (a2 : Nat) : Nat → Int32 → Mem → Option (Int32 × Mem)
  | 0, _, _ => none
  | n + 1, x3, μ =>
      if (4 : Int32) ≤ x3 then
      some ((x3, μ))
      else
      (sI a2 x3 0 μ).bind fun μ2 =>
      X9_moveOn_L2 a0 a1 a2 n (x3 + 1) μ2
set_option maxRecDepth 100000 in
set_option maxHeartbeats 4000000 in
theorem X9_moveOn_L2_ok {G : GL} {X : CX} (C : Ctx G X cX9_moveOn 6 RX9 rm_X9_moveOn) (a0 : Nat) (a1 : Nat) (a2 : Nat) : ∀ (n : Nat) (x3 : Int32) (μ : Mem) (z : Int32 × Mem), X9_moveOn_L2 a0 a1 a2 n x3 μ = some z → AW G 6 X 0 0 17 [(0, .ref (gZ G + a0)), (1, .ref (gZ G + a1)), (2, .ref (gZ G + a2)), (3, .int z.1)] [] z.2 → AW G 6 X 0 0 2 [(0, .ref (gZ G + a0)), (1, .ref (gZ G + a1)), (2, .ref (gZ G + a2)), (3, .int x3)] [] μ := by
  intro n
  induction n with
  | zero =>
    intro x3 μ z h kx
    rw [X9_moveOn_L2] at h
    cases h
  | succ n ih =>
    intro x3 μ z h kx
    rw [X9_moveOn_L2] at h
    refine aw_iload_n C 3 dX9_moveOn_2 rfl rfl ?_
    refine aw_iconst C 4 dX9_moveOn_3 (by decide) ?_
    refine aw_icmp_ge C 17 dX9_moveOn_4 (by decide) (fun c1 => ?_) (fun c1 => ?_)
    · rw [if_pos c1] at h
      cases h
      exact aw_sub [0, 1, 2, 3] rfl kx
    · rw [if_neg c1] at h
      refine aw_aload_n C 2 dX9_moveOn_7 rfl rfl ?_
      refine aw_iload_n C 3 dX9_moveOn_8 rfl rfl ?_
      refine aw_iconst C 0 dX9_moveOn_9 (by decide) ?_
      obtain ⟨μ2, hμ2, h⟩ := bindE h
      refine aw_sI C hμ2 dX9_moveOn_10 ?_
      refine aw_iinc C (x3 + 1) 3 [(3, .int (x3 + 1)), (0, .ref (gZ G + a0)), (1, .ref (gZ G + a1)), (2, .ref (gZ G + a2))] dX9_moveOn_11 rfl rfl (by decide) rfl ?_
      refine aw_goto C 2 dX9_moveOn_14 (by decide) ?_
      exact aw_sub [1, 2, 3, 0] rfl (ih _ _ _ h kx)
def X9_moveOn_L69 (a0 : Nat) (a1 : Nat) (a2 : Nat) (x3 : Int32) (x4 : Int32) : Nat → Int32 → Mem → Option (Int32 × Mem)
  | 0, _, _ => none
  | n + 1, x5, μ =>
      if (4 : Int32) ≤ x5 then
      some ((x5, μ))
      else
      (aI a2 x5 μ).bind fun v2 =>
      (aI a1 x3 μ).bind fun v3 =>
      (gR 9 0 a0 μ).bind fun v4 =>
      (aR 7 v4 x3 μ).bind fun v5 =>
      (aI v5 x5 μ).bind fun v6 =>
      (dvI (v3 * v6) x4).bind fun v7 =>
      (sI a2 x5 (v2 + v7) μ).bind fun μ8 =>
      X9_moveOn_L69 a0 a1 a2 x3 x4 n (x5 + 1) μ8
set_option maxRecDepth 100000 in
set_option maxHeartbeats 4000000 in
theorem X9_moveOn_L69_ok {G : GL} {X : CX} (C : Ctx G X cX9_moveOn 6 RX9 rm_X9_moveOn) (a0 : Nat) (a1 : Nat) (a2 : Nat) (x3 : Int32) (x4 : Int32) : ∀ (n : Nat) (x5 : Int32) (μ : Mem) (z : Int32 × Mem), X9_moveOn_L69 a0 a1 a2 x3 x4 n x5 μ = some z → AW G 6 X 0 0 104 [(0, .ref (gZ G + a0)), (1, .ref (gZ G + a1)), (2, .ref (gZ G + a2)), (3, .int x3), (4, .int x4), (5, .int z.1)] [] z.2 → AW G 6 X 0 0 69 [(0, .ref (gZ G + a0)), (1, .ref (gZ G + a1)), (2, .ref (gZ G + a2)), (3, .int x3), (4, .int x4), (5, .int x5)] [] μ := by
  intro n
  induction n with
  | zero =>
    intro x5 μ z h kx
    rw [X9_moveOn_L69] at h
    cases h
  | succ n ih =>
    intro x5 μ z h kx
    rw [X9_moveOn_L69] at h
    refine aw_iload C 5 dX9_moveOn_69 rfl ?_
    refine aw_iconst C 4 dX9_moveOn_71 (by decide) ?_
    refine aw_icmp_ge C 104 dX9_moveOn_72 (by decide) (fun c1 => ?_) (fun c1 => ?_)
    · rw [if_pos c1] at h
      cases h
      exact aw_sub [0, 1, 2, 3, 4, 5] rfl kx
    · rw [if_neg c1] at h
      refine aw_aload_n C 2 dX9_moveOn_75 rfl rfl ?_
      refine aw_iload C 5 dX9_moveOn_76 rfl ?_
      refine aw_dup2 C dX9_moveOn_78 rfl rfl ?_
      obtain ⟨v2, hv2, h⟩ := bindE h
      refine aw_aI C hv2 dX9_moveOn_79 ?_
      refine aw_aload_n C 1 dX9_moveOn_80 rfl rfl ?_
      refine aw_iload_n C 3 dX9_moveOn_81 rfl rfl ?_
      obtain ⟨v3, hv3, h⟩ := bindE h
      refine aw_aI C hv3 dX9_moveOn_82 ?_
      refine aw_aload_n C 0 dX9_moveOn_83 rfl rfl ?_
      obtain ⟨v4, hv4, h⟩ := bindE h
      refine aw_gR C fl_X9_11 rfl hv4 dX9_moveOn_84 ?_
      refine aw_iload_n C 3 dX9_moveOn_87 rfl rfl ?_
      obtain ⟨v5, hv5, h⟩ := bindE h
      refine aw_aR C (by decide) (ty := .array .int) rfl rfl hv5 dX9_moveOn_88 ?_
      refine aw_iload C 5 dX9_moveOn_89 rfl ?_
      obtain ⟨v6, hv6, h⟩ := bindE h
      refine aw_aI C hv6 dX9_moveOn_91 ?_
      refine aw_imul C dX9_moveOn_92 ?_
      refine aw_iload C 4 dX9_moveOn_93 rfl ?_
      obtain ⟨v7, hv7, h⟩ := bindE h
      refine aw_idiv C hv7 dX9_moveOn_95 ?_
      refine aw_iadd C dX9_moveOn_96 ?_
      obtain ⟨μ8, hμ8, h⟩ := bindE h
      refine aw_sI C hμ8 dX9_moveOn_97 ?_
      refine aw_iinc C (x5 + 1) 5 [(5, .int (x5 + 1)), (0, .ref (gZ G + a0)), (1, .ref (gZ G + a1)), (2, .ref (gZ G + a2)), (3, .int x3), (4, .int x4)] dX9_moveOn_98 rfl rfl (by decide) rfl ?_
      refine aw_goto C 69 dX9_moveOn_101 (by decide) ?_
      exact aw_sub [1, 2, 3, 4, 5, 0] rfl (ih _ _ _ h kx)
def X9_moveOn_L19 (a0 : Nat) (a1 : Nat) (a2 : Nat) : Nat → Int32 → Mem → Option (Int32 × Mem)
  | 0, _, _ => none
  | n + 1, x3, μ =>
      if (4 : Int32) ≤ x3 then
      some ((x3, μ))
      else
      (gR 9 0 a0 μ).bind fun v2 =>
      (aR 7 v2 x3 μ).bind fun v3 =>
      (aI v3 0 μ).bind fun v4 =>
      (gR 9 0 a0 μ).bind fun v5 =>
      (aR 7 v5 x3 μ).bind fun v6 =>
      (aI v6 1 μ).bind fun v7 =>
      (gR 9 0 a0 μ).bind fun v8 =>
      (aR 7 v8 x3 μ).bind fun v9 =>
      (aI v9 2 μ).bind fun v10 =>
      (gR 9 0 a0 μ).bind fun v11 =>
      (aR 7 v11 x3 μ).bind fun v12 =>
      (aI v12 3 μ).bind fun v13 =>
      (some (((v4 + v7) + v10) + v13 : Int32)).bind fun v14 =>
      ((if v14 ≤ 0 then
      some μ
      else
      (X9_moveOn_L69 a0 a1 a2 x3 v14 FU 0 μ).bind fun z16 =>
      some z16.2) : Option (Mem)).bind fun z17 =>
      X9_moveOn_L19 a0 a1 a2 n (x3 + 1) z17
set_option maxRecDepth 100000 in
set_option maxHeartbeats 4000000 in
theorem X9_moveOn_L19_ok {G : GL} {X : CX} (C : Ctx G X cX9_moveOn 6 RX9 rm_X9_moveOn) (a0 : Nat) (a1 : Nat) (a2 : Nat) : ∀ (n : Nat) (x3 : Int32) (μ : Mem) (z : Int32 × Mem), X9_moveOn_L19 a0 a1 a2 n x3 μ = some z → AW G 6 X 0 0 110 [(0, .ref (gZ G + a0)), (1, .ref (gZ G + a1)), (2, .ref (gZ G + a2)), (3, .int z.1)] [] z.2 → AW G 6 X 0 0 19 [(0, .ref (gZ G + a0)), (1, .ref (gZ G + a1)), (2, .ref (gZ G + a2)), (3, .int x3)] [] μ := by
  intro n
  induction n with
  | zero =>
    intro x3 μ z h kx
    rw [X9_moveOn_L19] at h
    cases h
  | succ n ih =>
    intro x3 μ z h kx
    rw [X9_moveOn_L19] at h
    refine aw_iload_n C 3 dX9_moveOn_19 rfl rfl ?_
    refine aw_iconst C 4 dX9_moveOn_20 (by decide) ?_
    refine aw_icmp_ge C 110 dX9_moveOn_21 (by decide) (fun c1 => ?_) (fun c1 => ?_)
    · rw [if_pos c1] at h
      cases h
      exact aw_sub [0, 1, 2, 3] rfl kx
    · rw [if_neg c1] at h
      refine aw_aload_n C 0 dX9_moveOn_24 rfl rfl ?_
      obtain ⟨v2, hv2, h⟩ := bindE h
      refine aw_gR C fl_X9_11 rfl hv2 dX9_moveOn_25 ?_
      refine aw_iload_n C 3 dX9_moveOn_28 rfl rfl ?_
      obtain ⟨v3, hv3, h⟩ := bindE h
      refine aw_aR C (by decide) (ty := .array .int) rfl rfl hv3 dX9_moveOn_29 ?_
      refine aw_iconst C 0 dX9_moveOn_30 (by decide) ?_
      obtain ⟨v4, hv4, h⟩ := bindE h
      refine aw_aI C hv4 dX9_moveOn_31 ?_
      refine aw_aload_n C 0 dX9_moveOn_32 rfl rfl ?_
      obtain ⟨v5, hv5, h⟩ := bindE h
      refine aw_gR C fl_X9_11 rfl hv5 dX9_moveOn_33 ?_
      refine aw_iload_n C 3 dX9_moveOn_36 rfl rfl ?_
      obtain ⟨v6, hv6, h⟩ := bindE h
      refine aw_aR C (by decide) (ty := .array .int) rfl rfl hv6 dX9_moveOn_37 ?_
      refine aw_iconst C 1 dX9_moveOn_38 (by decide) ?_
      obtain ⟨v7, hv7, h⟩ := bindE h
      refine aw_aI C hv7 dX9_moveOn_39 ?_
      refine aw_iadd C dX9_moveOn_40 ?_
      refine aw_aload_n C 0 dX9_moveOn_41 rfl rfl ?_
      obtain ⟨v8, hv8, h⟩ := bindE h
      refine aw_gR C fl_X9_11 rfl hv8 dX9_moveOn_42 ?_
      refine aw_iload_n C 3 dX9_moveOn_45 rfl rfl ?_
      obtain ⟨v9, hv9, h⟩ := bindE h
      refine aw_aR C (by decide) (ty := .array .int) rfl rfl hv9 dX9_moveOn_46 ?_
      refine aw_iconst C 2 dX9_moveOn_47 (by decide) ?_
      obtain ⟨v10, hv10, h⟩ := bindE h
      refine aw_aI C hv10 dX9_moveOn_48 ?_
      refine aw_iadd C dX9_moveOn_49 ?_
      refine aw_aload_n C 0 dX9_moveOn_50 rfl rfl ?_
      obtain ⟨v11, hv11, h⟩ := bindE h
      refine aw_gR C fl_X9_11 rfl hv11 dX9_moveOn_51 ?_
      refine aw_iload_n C 3 dX9_moveOn_54 rfl rfl ?_
      obtain ⟨v12, hv12, h⟩ := bindE h
      refine aw_aR C (by decide) (ty := .array .int) rfl rfl hv12 dX9_moveOn_55 ?_
      refine aw_iconst C 3 dX9_moveOn_56 (by decide) ?_
      obtain ⟨v13, hv13, h⟩ := bindE h
      refine aw_aI C hv13 dX9_moveOn_57 ?_
      refine aw_iadd C dX9_moveOn_58 ?_
      obtain ⟨v14, ev14, h⟩ := bindS h
      refine aw_topi ev14 ?_
      refine aw_istore C [(4, .int v14), (0, .ref (gZ G + a0)), (1, .ref (gZ G + a1)), (2, .ref (gZ G + a2)), (3, .int x3)] dX9_moveOn_59 (by decide) rfl ?_
      refine aw_iload C 0 dX9_moveOn_61 rfl ?_
      obtain ⟨z17, hz17, h⟩ := bindE h
      have kj63 : AW G 6 X 0 0 104 [(0, .ref (gZ G + a0)), (1, .ref (gZ G + a1)), (2, .ref (gZ G + a2)), (3, .int x3)] [] z17 := by
        refine aw_iinc C (x3 + 1) 3 [(3, .int (x3 + 1)), (0, .ref (gZ G + a0)), (1, .ref (gZ G + a1)), (2, .ref (gZ G + a2))] dX9_moveOn_104 rfl rfl (by decide) rfl ?_
        refine aw_goto C 19 dX9_moveOn_107 (by decide) ?_
        exact aw_sub [1, 2, 3, 0] rfl (ih _ _ _ h kx)
      replace h := hz17
      refine aw_if_le C 104 dX9_moveOn_63 (by decide) (fun c15 => ?_) (fun c15 => ?_)
      · rw [if_pos c15] at h
        cases h
        exact aw_sub [1, 2, 3, 4] rfl kj63
      · rw [if_neg c15] at h
        refine aw_iconst C 0 dX9_moveOn_66 (by decide) ?_
        refine aw_istore C [(5, .int 0), (4, .int v14), (0, .ref (gZ G + a0)), (1, .ref (gZ G + a1)), (2, .ref (gZ G + a2)), (3, .int x3)] dX9_moveOn_67 (by decide) rfl ?_
        obtain ⟨z16, hz16, h⟩ := bindE h
        refine aw_sub [2, 3, 4, 5, 1, 0] rfl ?_
        refine X9_moveOn_L69_ok C _ _ _ _ _ _ _ _ _ hz16 ?_
        cases h
        exact aw_sub [0, 1, 2, 3] rfl kj63
def X9_moveOn (a0 : Nat) (a1 : Nat) (a2 : Nat) (μ : Mem) : Option Mem :=
  (X9_moveOn_L2 a0 a1 a2 FU 0 μ).bind fun z1 =>
  (X9_moveOn_L19 a0 a1 a2 FU 0 z1.2).bind fun z2 =>
  some z2.2
set_option maxRecDepth 100000 in
set_option maxHeartbeats 4000000 in
theorem wk_X9_moveOn {G : GL} {X : CX} {a0 : Nat} {a1 : Nat} {a2 : Nat} {μ : Mem} {μ' : Mem} (C : Ctx G X cX9_moveOn 6 RX9 rm_X9_moveOn) (h : X9_moveOn a0 a1 a2 μ = some μ') (hret : RtV G 6 X cX9_moveOn 0 0 μ') : AW G 6 X 0 0 0 [(0, .ref (gZ G + a0)), (1, .ref (gZ G + a1)), (2, .ref (gZ G + a2))] [] μ := by
  unfold X9_moveOn at h
  refine aw_iconst C 0 dX9_moveOn_0 (by decide) ?_
  refine aw_istore_n C [(3, .int 0), (0, .ref (gZ G + a0)), (1, .ref (gZ G + a1)), (2, .ref (gZ G + a2))] dX9_moveOn_1 rfl (by decide) rfl ?_
  obtain ⟨z1, hz1, h⟩ := bindE h
  refine aw_sub [1, 2, 3, 0] rfl ?_
  refine X9_moveOn_L2_ok C _ _ _ _ _ _ _ hz1 ?_
  refine aw_iconst C 0 dX9_moveOn_17 (by decide) ?_
  refine aw_istore_n C [(3, .int 0), (0, .ref (gZ G + a0)), (1, .ref (gZ G + a1)), (2, .ref (gZ G + a2))] dX9_moveOn_18 rfl (by decide) rfl ?_
  obtain ⟨z2, hz2, h⟩ := bindE h
  refine aw_sub [1, 2, 3, 0] rfl ?_
  refine X9_moveOn_L19_ok C _ _ _ _ _ _ _ hz2 ?_
  cases h
  exact hret _ _ dX9_moveOn_110
set_option maxRecDepth 100000 in
set_option maxHeartbeats 4000000 in
theorem mt_X9_moveOn {G : GL} {l : Launch} {a0 : Nat} {a1 : Nat} {a2 : Nat} {μ : Mem} {μ' : Mem} (h : X9_moveOn a0 a1 a2 μ = some μ') : MtV G l yX9_moveOn cX9_moveOn 6 none rm_X9_moveOn false [.ref (gZ G + a0), .ref (gZ G + a1), .ref (gZ G + a2)] μ μ' := met_V (by decide) rfl (Nat.le_of_ble_eq_true rfl) (fun X _ C _ _ hret => wk_X9_moveOn C h hret)
def X9_lookAhead_L16 (a0 : Nat) (x3 : Int32) (j4 : Int64) : Nat → Int32 → Mem → Option (Int32 × Mem)
  | 0, _, _ => none
  | n + 1, x6, μ =>
      if (4 : Int32) ≤ x6 then
      some ((x6, μ))
      else
      (gR 9 4 a0 μ).bind fun v2 =>
      (aR 7 v2 0 μ).bind fun v3 =>
      ((if (0 : Int32) < (lg_cmp j4 0) then
      (gR 9 6 a0 μ).bind fun v5 =>
      (aJ v5 x6 μ).bind fun v6 =>
      (dvJ (v6 * 1000000) j4).bind fun v7 =>
      some v7.toInt32
      else
      some 0) : Option (Int32)).bind fun z8 =>
      (sI v3 x6 z8 μ).bind fun μ9 =>
      X9_lookAhead_L16 a0 x3 j4 n (x6 + 1) μ9
set_option maxRecDepth 100000 in
set_option maxHeartbeats 4000000 in
theorem X9_lookAhead_L16_ok {G : GL} {X : CX} (C : Ctx G X cX9_lookAhead 7 RX9 rm_X9_lookAhead) (a0 : Nat) (x3 : Int32) (j4 : Int64) : ∀ (n : Nat) (x6 : Int32) (μ : Mem) (z : Int32 × Mem), X9_lookAhead_L16 a0 x3 j4 n x6 μ = some z → AW G 7 X 0 0 63 [(0, .ref (gZ G + a0)), (3, .int x3), (4, .long j4), (6, .int z.1)] [] z.2 → AW G 7 X 0 0 16 [(0, .ref (gZ G + a0)), (3, .int x3), (4, .long j4), (6, .int x6)] [] μ := by
  intro n
  induction n with
  | zero =>
    intro x6 μ z h kx
    rw [X9_lookAhead_L16] at h
    cases h
  | succ n ih =>
    intro x6 μ z h kx
    rw [X9_lookAhead_L16] at h
    refine aw_iload C 3 dX9_lookAhead_16 rfl ?_
    refine aw_iconst C 4 dX9_lookAhead_18 (by decide) ?_
    refine aw_icmp_ge C 63 dX9_lookAhead_19 (by decide) (fun c1 => ?_) (fun c1 => ?_)
    · rw [if_pos c1] at h
      cases h
      exact aw_sub [0, 1, 2, 3] rfl kx
    · rw [if_neg c1] at h
      refine aw_aload_n C 0 dX9_lookAhead_22 rfl rfl ?_
      obtain ⟨v2, hv2, h⟩ := bindE h
      refine aw_gR C fl_X9_26 rfl hv2 dX9_lookAhead_23 ?_
      refine aw_iconst C 0 dX9_lookAhead_26 (by decide) ?_
      obtain ⟨v3, hv3, h⟩ := bindE h
      refine aw_aR C (by decide) (ty := .array .int) rfl rfl hv3 dX9_lookAhead_27 ?_
      refine aw_iload C 3 dX9_lookAhead_28 rfl ?_
      refine aw_lload C 2 dX9_lookAhead_30 rfl ?_
      refine aw_lconst C 0 dX9_lookAhead_32 (by decide) ?_
      refine aw_lcmp C dX9_lookAhead_33 ?_
      obtain ⟨z8, hz8, h⟩ := bindE h
      have kj34 : AW G 7 X 0 0 56 [(0, .ref (gZ G + a0)), (3, .int x3), (4, .long j4), (6, .int x6)] [.int z8, .int x6, .ref (gZ G + v3)] μ := by
        obtain ⟨μ9, hμ9, h⟩ := bindE h
        refine aw_sI C hμ9 dX9_lookAhead_56 ?_
        refine aw_iinc C (x6 + 1) 3 [(6, .int (x6 + 1)), (0, .ref (gZ G + a0)), (3, .int x3), (4, .long j4)] dX9_lookAhead_57 rfl rfl (by decide) rfl ?_
        refine aw_goto C 16 dX9_lookAhead_60 (by decide) ?_
        exact aw_sub [1, 2, 3, 0] rfl (ih _ _ _ h kx)
      replace h := hz8
      refine aw_if_gt C 41 dX9_lookAhead_34 (by decide) (fun c4 => ?_) (fun c4 => ?_)
      · rw [if_pos c4] at h
        refine aw_aload_n C 0 dX9_lookAhead_41 rfl rfl ?_
        obtain ⟨v5, hv5, h⟩ := bindE h
        refine aw_gR C fl_X9_29 rfl hv5 dX9_lookAhead_42 ?_
        refine aw_iload C 3 dX9_lookAhead_45 rfl ?_
        obtain ⟨v6, hv6, h⟩ := bindE h
        refine aw_aJ C hv6 dX9_lookAhead_47 ?_
        refine aw_ldc2 C kl_X9_44 dX9_lookAhead_48 ?_
        refine aw_lmul C dX9_lookAhead_51 ?_
        refine aw_lload C 2 dX9_lookAhead_52 rfl ?_
        obtain ⟨v7, hv7, h⟩ := bindE h
        refine aw_ldiv C hv7 dX9_lookAhead_54 ?_
        refine aw_l2i C dX9_lookAhead_55 ?_
        cases h
        exact aw_sub [0, 1, 2, 3] rfl kj34
      · rw [if_neg c4] at h
        refine aw_iconst C 0 dX9_lookAhead_37 (by decide) ?_
        refine aw_goto C 56 dX9_lookAhead_38 (by decide) ?_
        cases h
        exact aw_sub [0, 1, 2, 3] rfl kj34
def X9_lookAhead_L66 (a0 : Nat) (x3 : Int32) : Nat → Int32 → Mem → Option (Int32 × Mem)
  | 0, _, _ => none
  | n + 1, x6, μ =>
      if x3 < x6 then
      some ((x6, μ))
      else
      if (8 : Int32) < x6 then
      some ((x6, μ))
      else
      (gR 9 4 a0 μ).bind fun v3 =>
      (aR 7 v3 (x6 - 1) μ).bind fun v4 =>
      (gR 9 4 a0 μ).bind fun v5 =>
      (aR 7 v5 x6 μ).bind fun v6 =>
      (vO 9 a0 μ).bind fun g7 =>
      (X9_moveOn a0 v4 v6 μ).bind fun μ8 =>
      X9_lookAhead_L66 a0 x3 n (x6 + 1) μ8
set_option maxRecDepth 100000 in
set_option maxHeartbeats 4000000 in
theorem X9_lookAhead_L66_ok {G : GL} {X : CX} (C : Ctx G X cX9_lookAhead 7 RX9 rm_X9_lookAhead) (a0 : Nat) (x3 : Int32) : ∀ (n : Nat) (x6 : Int32) (μ : Mem) (z : Int32 × Mem), X9_lookAhead_L66 a0 x3 n x6 μ = some z → AW G 7 X 0 0 105 [(0, .ref (gZ G + a0)), (3, .int x3), (6, .int z.1)] [] z.2 → AW G 7 X 0 0 66 [(0, .ref (gZ G + a0)), (3, .int x3), (6, .int x6)] [] μ := by
  intro n
  induction n with
  | zero =>
    intro x6 μ z h kx
    rw [X9_lookAhead_L66] at h
    cases h
  | succ n ih =>
    intro x6 μ z h kx
    rw [X9_lookAhead_L66] at h
    refine aw_iload C 2 dX9_lookAhead_66 rfl ?_
    refine aw_iload_n C 1 dX9_lookAhead_68 rfl rfl ?_
    refine aw_icmp_gt C 105 dX9_lookAhead_69 (by decide) (fun c1 => ?_) (fun c1 => ?_)
    · rw [if_pos c1] at h
      cases h
      exact aw_sub [0, 1, 2] rfl kx
    · rw [if_neg c1] at h
      refine aw_iload C 2 dX9_lookAhead_72 rfl ?_
      refine aw_bipush C 8 dX9_lookAhead_74 (by decide) ?_
      refine aw_icmp_gt C 105 dX9_lookAhead_76 (by decide) (fun c2 => ?_) (fun c2 => ?_)
      · rw [if_pos c2] at h
        cases h
        exact aw_sub [0, 1, 2] rfl kx
      · rw [if_neg c2] at h
        refine aw_aload_n C 0 dX9_lookAhead_79 rfl rfl ?_
        refine aw_aload_n C 0 dX9_lookAhead_80 rfl rfl ?_
        obtain ⟨v3, hv3, h⟩ := bindE h
        refine aw_gR C fl_X9_26 rfl hv3 dX9_lookAhead_81 ?_
        refine aw_iload C 2 dX9_lookAhead_84 rfl ?_
        refine aw_iconst C 1 dX9_lookAhead_86 (by decide) ?_
        refine aw_isub C dX9_lookAhead_87 ?_
        obtain ⟨v4, hv4, h⟩ := bindE h
        refine aw_aR C (by decide) (ty := .array .int) rfl rfl hv4 dX9_lookAhead_88 ?_
        refine aw_aload_n C 0 dX9_lookAhead_89 rfl rfl ?_
        obtain ⟨v5, hv5, h⟩ := bindE h
        refine aw_gR C fl_X9_26 rfl hv5 dX9_lookAhead_90 ?_
        refine aw_iload C 2 dX9_lookAhead_93 rfl ?_
        obtain ⟨v6, hv6, h⟩ := bindE h
        refine aw_aR C (by decide) (ty := .array .int) rfl rfl hv6 dX9_lookAhead_95 ?_
        obtain ⟨g7, hg7, h⟩ := bindE h
        obtain ⟨μ8, hμ8, h⟩ := bindE h
        refine aw_cV_V C [.ref (gZ G + v4), .ref (gZ G + v6)] _ (mt_X9_moveOn hμ8) cs_X9_moveOn ml_X9_46 im_X9_moveOn se_X9_moveOn (ci := 9) rfl rfl hg7 ⟨by decide, by decide⟩ ⟨rfl, rfl⟩ ⟨Nat.zero_le _, Nat.zero_le _⟩ rfl rfl (Nat.le_of_ble_eq_true rfl) dX9_lookAhead_96 ?_
        refine aw_iinc C (x6 + 1) 2 [(6, .int (x6 + 1)), (0, .ref (gZ G + a0)), (3, .int x3)] dX9_lookAhead_99 rfl rfl (by decide) rfl ?_
        refine aw_goto C 66 dX9_lookAhead_102 (by decide) ?_
        exact aw_sub [1, 2, 0] rfl (ih _ _ _ h kx)
def X9_lookAhead (a0 : Nat) (x1 : Int32) (x2 : Int32) (x3 : Int32) (μ : Mem) : Option Mem :=
  (vO 9 a0 μ).bind fun g1 =>
  (X9_weigh a0 x1 x2 0 μ).bind fun μ2 =>
  (vO 9 a0 μ2).bind fun g3 =>
  (X9_allWeights a0 μ2).bind fun v4 =>
  (X9_lookAhead_L16 a0 x3 v4 FU 0 μ2).bind fun z5 =>
  (X9_lookAhead_L66 a0 x3 FU 1 z5.2).bind fun z6 =>
  some z6.2
set_option maxRecDepth 100000 in
set_option maxHeartbeats 4000000 in
theorem wk_X9_lookAhead {G : GL} {X : CX} {a0 : Nat} {x1 : Int32} {x2 : Int32} {x3 : Int32} {μ : Mem} {μ' : Mem} (C : Ctx G X cX9_lookAhead 7 RX9 rm_X9_lookAhead) (h : X9_lookAhead a0 x1 x2 x3 μ = some μ') (hret : RtV G 7 X cX9_lookAhead 0 0 μ') : AW G 7 X 0 0 0 [(0, .ref (gZ G + a0)), (1, .int x1), (2, .int x2), (3, .int x3)] [] μ := by
  unfold X9_lookAhead at h
  refine aw_aload_n C 0 dX9_lookAhead_0 rfl rfl ?_
  refine aw_iload_n C 1 dX9_lookAhead_1 rfl rfl ?_
  refine aw_iload_n C 2 dX9_lookAhead_2 rfl rfl ?_
  refine aw_iconst C 0 dX9_lookAhead_3 (by decide) ?_
  obtain ⟨g1, hg1, h⟩ := bindE h
  obtain ⟨μ2, hμ2, h⟩ := bindE h
  refine aw_cV_V C [.int x1, .int x2, .int 0] _ (mt_X9_weigh hμ2) cs_X9_weigh ml_X9_36 im_X9_weigh se_X9_weigh (ci := 9) rfl rfl hg1 ⟨by decide, by decide⟩ ⟨rfl, rfl⟩ ⟨Nat.zero_le _, Nat.zero_le _⟩ rfl rfl (Nat.le_of_ble_eq_true rfl) dX9_lookAhead_4 ?_
  refine aw_aload_n C 0 dX9_lookAhead_7 rfl rfl ?_
  obtain ⟨g3, hg3, h⟩ := bindE h
  obtain ⟨v4, hv4, h⟩ := bindE h
  refine aw_cV_J C [] _ (mt_X9_allWeights hv4) cs_X9_allWeights ml_X9_40 im_X9_allWeights se_X9_allWeights (ci := 9) rfl rfl hg3 ⟨by decide, by decide⟩ ⟨rfl, rfl⟩ ⟨Nat.zero_le _, Nat.zero_le _⟩ rfl rfl (Nat.le_of_ble_eq_true rfl) dX9_lookAhead_8 ?_
  refine aw_lstore C [(4, .long v4), (0, .ref (gZ G + a0)), (1, .int x1), (2, .int x2), (3, .int x3)] dX9_lookAhead_11 (by decide) rfl ?_
  refine aw_iconst C 0 dX9_lookAhead_13 (by decide) ?_
  refine aw_istore C [(6, .int 0), (4, .long v4), (0, .ref (gZ G + a0)), (1, .int x1), (2, .int x2), (3, .int x3)] dX9_lookAhead_14 (by decide) rfl ?_
  obtain ⟨z5, hz5, h⟩ := bindE h
  refine aw_sub [2, 5, 1, 0] rfl ?_
  refine X9_lookAhead_L16_ok C _ _ _ _ _ _ _ hz5 ?_
  refine aw_iconst C 1 dX9_lookAhead_63 (by decide) ?_
  refine aw_istore C [(6, .int 1), (0, .ref (gZ G + a0)), (3, .int x3), (4, .long v4)] dX9_lookAhead_64 (by decide) rfl ?_
  obtain ⟨z6, hz6, h⟩ := bindE h
  refine aw_sub [1, 2, 0] rfl ?_
  refine X9_lookAhead_L66_ok C _ _ _ _ _ _ hz6 ?_
  cases h
  exact hret _ _ dX9_lookAhead_105
set_option maxRecDepth 100000 in
set_option maxHeartbeats 4000000 in
theorem mt_X9_lookAhead {G : GL} {l : Launch} {a0 : Nat} {x1 : Int32} {x2 : Int32} {x3 : Int32} {μ : Mem} {μ' : Mem} (h : X9_lookAhead a0 x1 x2 x3 μ = some μ') : MtV G l yX9_lookAhead cX9_lookAhead 7 none rm_X9_lookAhead false [.ref (gZ G + a0), .int x1, .int x2, .int x3] μ μ' := met_V (by decide) rfl (Nat.le_of_ble_eq_true rfl) (fun X _ C _ _ hret => wk_X9_lookAhead C h hret)
def X9_seamOdds_L4 (a0 : Nat) (x1 : Int32) (μ : Mem) : Nat → Int32 → Int32 → Option (Int32 × Int32)
  | 0, _, _ => none
  | n + 1, x2, x3 =>
      if (4 : Int32) ≤ x3 then
      some ((x2, x3))
      else
      (gI 9 5 a0 μ).bind fun v2 =>
      ((if (X10_contains v2 x3) = 0 then
      some x2
      else
      (gR 9 4 a0 μ).bind fun v4 =>
      (aR 7 v4 x1 μ).bind fun v5 =>
      (aI v5 x3 μ).bind fun v6 =>
      (some (x2 + v6 : Int32)).bind fun v7 =>
      some v7) : Option (Int32)).bind fun z8 =>
      X9_seamOdds_L4 a0 x1 μ n z8 (x3 + 1)
set_option maxRecDepth 100000 in
set_option maxHeartbeats 4000000 in
theorem X9_seamOdds_L4_ok {G : GL} {X : CX} (C : Ctx G X cX9_seamOdds 4 RX9 rm_X9_seamOdds) (a0 : Nat) (x1 : Int32) (μ : Mem) : ∀ (n : Nat) (x2 : Int32) (x3 : Int32) (z : Int32 × Int32), X9_seamOdds_L4 a0 x1 μ n x2 x3 = some z → AW G 4 X 0 0 37 [(0, .ref (gZ G + a0)), (1, .int x1), (2, .int z.1), (3, .int z.2)] [] μ → AW G 4 X 0 0 4 [(0, .ref (gZ G + a0)), (1, .int x1), (2, .int x2), (3, .int x3)] [] μ := by
  intro n
  induction n with
  | zero =>
    intro x2 x3 z h kx
    rw [X9_seamOdds_L4] at h
    cases h
  | succ n ih =>
    intro x2 x3 z h kx
    rw [X9_seamOdds_L4] at h
    refine aw_iload_n C 3 dX9_seamOdds_4 rfl rfl ?_
    refine aw_iconst C 4 dX9_seamOdds_5 (by decide) ?_
    refine aw_icmp_ge C 37 dX9_seamOdds_6 (by decide) (fun c1 => ?_) (fun c1 => ?_)
    · rw [if_pos c1] at h
      cases h
      exact aw_sub [0, 1, 2, 3] rfl kx
    · rw [if_neg c1] at h
      refine aw_aload_n C 0 dX9_seamOdds_9 rfl rfl ?_
      obtain ⟨v2, hv2, h⟩ := bindE h
      refine aw_gI C fl_X9_50 rfl hv2 dX9_seamOdds_10 ?_
      refine aw_iload_n C 3 dX9_seamOdds_13 rfl rfl ?_
      refine aw_cSN_I C [.int v2, .int x3] _ (mt_X10_contains _ _) cs_X10_contains ml_X9_54 st_X10_contains ⟨by decide, by decide⟩ ⟨rfl, rfl⟩ ⟨Nat.zero_le _, Nat.zero_le _⟩ rfl rfl (Nat.le_of_ble_eq_true rfl) dX9_seamOdds_14 ?_
      obtain ⟨z8, hz8, h⟩ := bindE h
      have kj17 : AW G 4 X 0 0 31 [(0, .ref (gZ G + a0)), (1, .int x1), (2, .int z8), (3, .int x3)] [] μ := by
        refine aw_iinc C (x3 + 1) 3 [(3, .int (x3 + 1)), (0, .ref (gZ G + a0)), (1, .int x1), (2, .int z8)] dX9_seamOdds_31 rfl rfl (by decide) rfl ?_
        refine aw_goto C 4 dX9_seamOdds_34 (by decide) ?_
        exact aw_sub [1, 2, 3, 0] rfl (ih _ _ _ h kx)
      replace h := hz8
      refine aw_if_eq C 31 dX9_seamOdds_17 (by decide) (fun c3 => ?_) (fun c3 => ?_)
      · rw [if_pos c3] at h
        cases h
        exact aw_sub [0, 1, 2, 3] rfl kj17
      · rw [if_neg c3] at h
        refine aw_iload_n C 2 dX9_seamOdds_20 rfl rfl ?_
        refine aw_aload_n C 0 dX9_seamOdds_21 rfl rfl ?_
        obtain ⟨v4, hv4, h⟩ := bindE h
        refine aw_gR C fl_X9_26 rfl hv4 dX9_seamOdds_22 ?_
        refine aw_iload_n C 1 dX9_seamOdds_25 rfl rfl ?_
        obtain ⟨v5, hv5, h⟩ := bindE h
        refine aw_aR C (by decide) (ty := .array .int) rfl rfl hv5 dX9_seamOdds_26 ?_
        refine aw_iload_n C 3 dX9_seamOdds_27 rfl rfl ?_
        obtain ⟨v6, hv6, h⟩ := bindE h
        refine aw_aI C hv6 dX9_seamOdds_28 ?_
        refine aw_iadd C dX9_seamOdds_29 ?_
        obtain ⟨v7, ev7, h⟩ := bindS h
        refine aw_topi ev7 ?_
        refine aw_istore_n C [(2, .int v7), (0, .ref (gZ G + a0)), (1, .int x1), (3, .int x3)] dX9_seamOdds_30 rfl (by decide) rfl ?_
        cases h
        exact aw_sub [1, 2, 0, 3] rfl kj17
def X9_seamOdds (a0 : Nat) (x1 : Int32) (μ : Mem) : Option Int32 :=
  (X9_seamOdds_L4 a0 x1 μ FU 0 0).bind fun z1 =>
  some (z1.1)
set_option maxRecDepth 100000 in
set_option maxHeartbeats 4000000 in
theorem wk_X9_seamOdds {G : GL} {X : CX} {a0 : Nat} {x1 : Int32} {μ : Mem} {r : Int32} (C : Ctx G X cX9_seamOdds 4 RX9 rm_X9_seamOdds) (h : X9_seamOdds a0 x1 μ = some r) (hret : RtI G 4 X cX9_seamOdds 0 0 r μ) : AW G 4 X 0 0 0 [(0, .ref (gZ G + a0)), (1, .int x1)] [] μ := by
  unfold X9_seamOdds at h
  refine aw_iconst C 0 dX9_seamOdds_0 (by decide) ?_
  refine aw_istore_n C [(2, .int 0), (0, .ref (gZ G + a0)), (1, .int x1)] dX9_seamOdds_1 rfl (by decide) rfl ?_
  refine aw_iconst C 0 dX9_seamOdds_2 (by decide) ?_
  refine aw_istore_n C [(3, .int 0), (2, .int 0), (0, .ref (gZ G + a0)), (1, .int x1)] dX9_seamOdds_3 rfl (by decide) rfl ?_
  obtain ⟨z1, hz1, h⟩ := bindE h
  refine aw_sub [2, 3, 1, 0] rfl ?_
  refine X9_seamOdds_L4_ok C _ _ _ _ _ _ _ hz1 ?_
  refine aw_iload_n C 2 dX9_seamOdds_37 rfl rfl ?_
  cases h
  exact hret _ _ dX9_seamOdds_38
set_option maxRecDepth 100000 in
set_option maxHeartbeats 4000000 in
theorem mt_X9_seamOdds {G : GL} {l : Launch} {a0 : Nat} {x1 : Int32} {μ : Mem} {r : Int32} (h : X9_seamOdds a0 x1 μ = some r) : MtI G l yX9_seamOdds cX9_seamOdds 4 (some .int) rm_X9_seamOdds false [.ref (gZ G + a0), .int x1] μ r μ := met_I (by decide) rfl rfl (Nat.le_of_ble_eq_true rfl) (fun X _ C _ _ hret => wk_X9_seamOdds C h hret)
def X9_fittingRows (a0 : Nat) (x1 : Int32) (x2 : Int32) (μ : Mem) : Option (Int32 × Mem) :=
  (vO 9 a0 μ).bind fun g1 =>
  (X9_weigh a0 x1 x2 1 μ).bind fun μ2 =>
  (vO 9 a0 μ2).bind fun g3 =>
  (X9_allWeights a0 μ2).bind fun v4 =>
  some (v4.toInt32, μ2)
set_option maxRecDepth 100000 in
set_option maxHeartbeats 4000000 in
theorem wk_X9_fittingRows {G : GL} {X : CX} {a0 : Nat} {x1 : Int32} {x2 : Int32} {μ : Mem} {r : Int32} {μ' : Mem} (C : Ctx G X cX9_fittingRows 3 RX9 rm_X9_fittingRows) (h : X9_fittingRows a0 x1 x2 μ = some (r, μ')) (hret : RtI G 3 X cX9_fittingRows 0 0 r μ') : AW G 3 X 0 0 0 [(0, .ref (gZ G + a0)), (1, .int x1), (2, .int x2)] [] μ := by
  unfold X9_fittingRows at h
  refine aw_aload_n C 0 dX9_fittingRows_0 rfl rfl ?_
  refine aw_iload_n C 1 dX9_fittingRows_1 rfl rfl ?_
  refine aw_iload_n C 2 dX9_fittingRows_2 rfl rfl ?_
  refine aw_iconst C 1 dX9_fittingRows_3 (by decide) ?_
  obtain ⟨g1, hg1, h⟩ := bindE h
  obtain ⟨μ2, hμ2, h⟩ := bindE h
  refine aw_cV_V C [.int x1, .int x2, .int 1] _ (mt_X9_weigh hμ2) cs_X9_weigh ml_X9_36 im_X9_weigh se_X9_weigh (ci := 9) rfl rfl hg1 ⟨by decide, by decide⟩ ⟨rfl, rfl⟩ ⟨Nat.zero_le _, Nat.zero_le _⟩ rfl rfl (Nat.le_of_ble_eq_true rfl) dX9_fittingRows_4 ?_
  refine aw_aload_n C 0 dX9_fittingRows_7 rfl rfl ?_
  obtain ⟨g3, hg3, h⟩ := bindE h
  obtain ⟨v4, hv4, h⟩ := bindE h
  refine aw_cV_J C [] _ (mt_X9_allWeights hv4) cs_X9_allWeights ml_X9_40 im_X9_allWeights se_X9_allWeights (ci := 9) rfl rfl hg3 ⟨by decide, by decide⟩ ⟨rfl, rfl⟩ ⟨Nat.zero_le _, Nat.zero_le _⟩ rfl rfl (Nat.le_of_ble_eq_true rfl) dX9_fittingRows_8 ?_
  refine aw_l2i C dX9_fittingRows_11 ?_
  cases h
  exact hret _ _ dX9_fittingRows_12
set_option maxRecDepth 100000 in
set_option maxHeartbeats 4000000 in
theorem mt_X9_fittingRows {G : GL} {l : Launch} {a0 : Nat} {x1 : Int32} {x2 : Int32} {μ : Mem} {r : Int32} {μ' : Mem} (h : X9_fittingRows a0 x1 x2 μ = some (r, μ')) : MtI G l yX9_fittingRows cX9_fittingRows 3 (some .int) rm_X9_fittingRows false [.ref (gZ G + a0), .int x1, .int x2] μ r μ' := met_I (by decide) rfl rfl (Nat.le_of_ble_eq_true rfl) (fun X _ C _ _ hret => wk_X9_fittingRows C h hret)
def X10_isState (x0 : Int32) : Int32 :=
  X10_within x0 0 3
set_option maxRecDepth 100000 in
set_option maxHeartbeats 4000000 in
theorem wk_X10_isState {G : GL} {X : CX} {x0 : Int32} {μ : Mem} (C : Ctx G X cX10_isState 1 RX10 rm_X10_isState) (hret : RtZ G 1 X cX10_isState 0 0 (X10_isState x0) μ) : AW G 1 X 0 0 0 [(0, .int x0)] [] μ := by
  unfold X10_isState at hret
  refine aw_iload_n C 0 dX10_isState_0 rfl rfl ?_
  refine aw_iconst C 0 dX10_isState_1 (by decide) ?_
  refine aw_iconst C 3 dX10_isState_2 (by decide) ?_
  refine aw_cS_I C [.int x0, .int 0, .int 3] _ (mt_X10_within _ _ _) cs_X10_within ml_X10_90 st_X10_within ⟨by decide, by decide⟩ ⟨rfl, rfl⟩ ⟨Nat.zero_le _, Nat.zero_le _⟩ rfl rfl (Nat.le_of_ble_eq_true rfl) dX10_isState_3 ?_
  exact hret _ _ dX10_isState_6 (z_X10_within _ _ _)
set_option maxRecDepth 100000 in
set_option maxHeartbeats 4000000 in
theorem mt_X10_isState {G : GL} {l : Launch} (x0 : Int32) {μ : Mem} : MtI G l yX10_isState cX10_isState 1 (some .boolean) rm_X10_isState false [.int x0] μ (X10_isState x0) μ := met_Z (by decide) rfl (Nat.le_of_ble_eq_true rfl) (fun X _ C _ _ hret => wk_X10_isState C hret)
theorem z_X10_isState (x0 : Int32) : X10_isState x0 = 0 ∨ X10_isState x0 = 1 := by
  unfold X10_isState
  exact z_X10_within _ _ _
def X10_isOften (x0 : Int32) : Int32 :=
  X10_within x0 0 4
set_option maxRecDepth 100000 in
set_option maxHeartbeats 4000000 in
theorem wk_X10_isOften {G : GL} {X : CX} {x0 : Int32} {μ : Mem} (C : Ctx G X cX10_isOften 1 RX10 rm_X10_isOften) (hret : RtZ G 1 X cX10_isOften 0 0 (X10_isOften x0) μ) : AW G 1 X 0 0 0 [(0, .int x0)] [] μ := by
  unfold X10_isOften at hret
  refine aw_iload_n C 0 dX10_isOften_0 rfl rfl ?_
  refine aw_iconst C 0 dX10_isOften_1 (by decide) ?_
  refine aw_iconst C 4 dX10_isOften_2 (by decide) ?_
  refine aw_cS_I C [.int x0, .int 0, .int 4] _ (mt_X10_within _ _ _) cs_X10_within ml_X10_90 st_X10_within ⟨by decide, by decide⟩ ⟨rfl, rfl⟩ ⟨Nat.zero_le _, Nat.zero_le _⟩ rfl rfl (Nat.le_of_ble_eq_true rfl) dX10_isOften_3 ?_
  exact hret _ _ dX10_isOften_6 (z_X10_within _ _ _)
set_option maxRecDepth 100000 in
set_option maxHeartbeats 4000000 in
theorem mt_X10_isOften {G : GL} {l : Launch} (x0 : Int32) {μ : Mem} : MtI G l yX10_isOften cX10_isOften 1 (some .boolean) rm_X10_isOften false [.int x0] μ (X10_isOften x0) μ := met_Z (by decide) rfl (Nat.le_of_ble_eq_true rfl) (fun X _ C _ _ hret => wk_X10_isOften C hret)
theorem z_X10_isOften (x0 : Int32) : X10_isOften x0 = 0 ∨ X10_isOften x0 = 1 := by
  unfold X10_isOften
  exact z_X10_within _ _ _
def X10_isPerson (x0 : Int32) : Int32 :=
  X10_within x0 0 3
set_option maxRecDepth 100000 in
set_option maxHeartbeats 4000000 in
theorem wk_X10_isPerson {G : GL} {X : CX} {x0 : Int32} {μ : Mem} (C : Ctx G X cX10_isPerson 1 RX10 rm_X10_isPerson) (hret : RtZ G 1 X cX10_isPerson 0 0 (X10_isPerson x0) μ) : AW G 1 X 0 0 0 [(0, .int x0)] [] μ := by
  unfold X10_isPerson at hret
  refine aw_iload_n C 0 dX10_isPerson_0 rfl rfl ?_
  refine aw_iconst C 0 dX10_isPerson_1 (by decide) ?_
  refine aw_iconst C 3 dX10_isPerson_2 (by decide) ?_
  refine aw_cS_I C [.int x0, .int 0, .int 3] _ (mt_X10_within _ _ _) cs_X10_within ml_X10_90 st_X10_within ⟨by decide, by decide⟩ ⟨rfl, rfl⟩ ⟨Nat.zero_le _, Nat.zero_le _⟩ rfl rfl (Nat.le_of_ble_eq_true rfl) dX10_isPerson_3 ?_
  exact hret _ _ dX10_isPerson_6 (z_X10_within _ _ _)
set_option maxRecDepth 100000 in
set_option maxHeartbeats 4000000 in
theorem mt_X10_isPerson {G : GL} {l : Launch} (x0 : Int32) {μ : Mem} : MtI G l yX10_isPerson cX10_isPerson 1 (some .boolean) rm_X10_isPerson false [.int x0] μ (X10_isPerson x0) μ := met_Z (by decide) rfl (Nat.le_of_ble_eq_true rfl) (fun X _ C _ _ hret => wk_X10_isPerson C hret)
theorem z_X10_isPerson (x0 : Int32) : X10_isPerson x0 = 0 ∨ X10_isPerson x0 = 1 := by
  unfold X10_isPerson
  exact z_X10_within _ _ _
def X10_isAhead (x0 : Int32) : Int32 :=
  X10_within x0 0 8
set_option maxRecDepth 100000 in
set_option maxHeartbeats 4000000 in
theorem wk_X10_isAhead {G : GL} {X : CX} {x0 : Int32} {μ : Mem} (C : Ctx G X cX10_isAhead 1 RX10 rm_X10_isAhead) (hret : RtZ G 1 X cX10_isAhead 0 0 (X10_isAhead x0) μ) : AW G 1 X 0 0 0 [(0, .int x0)] [] μ := by
  unfold X10_isAhead at hret
  refine aw_iload_n C 0 dX10_isAhead_0 rfl rfl ?_
  refine aw_iconst C 0 dX10_isAhead_1 (by decide) ?_
  refine aw_bipush C 8 dX10_isAhead_2 (by decide) ?_
  refine aw_cS_I C [.int x0, .int 0, .int 8] _ (mt_X10_within _ _ _) cs_X10_within ml_X10_90 st_X10_within ⟨by decide, by decide⟩ ⟨rfl, rfl⟩ ⟨Nat.zero_le _, Nat.zero_le _⟩ rfl rfl (Nat.le_of_ble_eq_true rfl) dX10_isAhead_4 ?_
  exact hret _ _ dX10_isAhead_7 (z_X10_within _ _ _)
set_option maxRecDepth 100000 in
set_option maxHeartbeats 4000000 in
theorem mt_X10_isAhead {G : GL} {l : Launch} (x0 : Int32) {μ : Mem} : MtI G l yX10_isAhead cX10_isAhead 1 (some .boolean) rm_X10_isAhead false [.int x0] μ (X10_isAhead x0) μ := met_Z (by decide) rfl (Nat.le_of_ble_eq_true rfl) (fun X _ C _ _ hret => wk_X10_isAhead C hret)
theorem z_X10_isAhead (x0 : Int32) : X10_isAhead x0 = 0 ∨ X10_isAhead x0 = 1 := by
  unfold X10_isAhead
  exact z_X10_within _ _ _
def X10_isWay (x0 : Int32) : Int32 :=
  X10_within x0 0 3
set_option maxRecDepth 100000 in
set_option maxHeartbeats 4000000 in
theorem wk_X10_isWay {G : GL} {X : CX} {x0 : Int32} {μ : Mem} (C : Ctx G X cX10_isWay 1 RX10 rm_X10_isWay) (hret : RtZ G 1 X cX10_isWay 0 0 (X10_isWay x0) μ) : AW G 1 X 0 0 0 [(0, .int x0)] [] μ := by
  unfold X10_isWay at hret
  refine aw_iload_n C 0 dX10_isWay_0 rfl rfl ?_
  refine aw_iconst C 0 dX10_isWay_1 (by decide) ?_
  refine aw_iconst C 3 dX10_isWay_2 (by decide) ?_
  refine aw_cS_I C [.int x0, .int 0, .int 3] _ (mt_X10_within _ _ _) cs_X10_within ml_X10_90 st_X10_within ⟨by decide, by decide⟩ ⟨rfl, rfl⟩ ⟨Nat.zero_le _, Nat.zero_le _⟩ rfl rfl (Nat.le_of_ble_eq_true rfl) dX10_isWay_3 ?_
  exact hret _ _ dX10_isWay_6 (z_X10_within _ _ _)
set_option maxRecDepth 100000 in
set_option maxHeartbeats 4000000 in
theorem mt_X10_isWay {G : GL} {l : Launch} (x0 : Int32) {μ : Mem} : MtI G l yX10_isWay cX10_isWay 1 (some .boolean) rm_X10_isWay false [.int x0] μ (X10_isWay x0) μ := met_Z (by decide) rfl (Nat.le_of_ble_eq_true rfl) (fun X _ C _ _ hret => wk_X10_isWay C hret)
theorem z_X10_isWay (x0 : Int32) : X10_isWay x0 = 0 ∨ X10_isWay x0 = 1 := by
  unfold X10_isWay
  exact z_X10_within _ _ _
