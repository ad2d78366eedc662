def X0_hasThing (a0 : Nat) (x1 : Int32) (μ : Mem) : Option Int32 :=
  ((if x1 < 0 then
  some 0
  else
  (gI 0 2 a0 μ).bind fun v2 =>
  if v2 ≤ x1 then
  some 0
  else
  some 1) : Option (Int32)).bind fun z4 =>
  (zz z4).bind fun v5 =>
  some v5
set_option maxRecDepth 100000 in
set_option maxHeartbeats 4000000 in
theorem wk_X0_hasThing {G : GL} {X : CX} {a0 : Nat} {x1 : Int32} {μ : Mem} {r : Int32} (C : Ctx G X cX0_hasThing 2 RX0 rm_X0_hasThing) (h : X0_hasThing a0 x1 μ = some r) (hret : RtZ G 2 X cX0_hasThing 0 0 r μ) : AW G 2 X 0 0 0 [(0, .ref (gZ G + a0)), (1, .int x1)] [] μ := by
  unfold X0_hasThing at h
  refine aw_iload_n C 1 dX0_hasThing_0 rfl rfl ?_
  obtain ⟨z4, hz4, h⟩ := bindE h
  have kj1 : AW G 2 X 0 0 17 [] [.int z4] μ := by
    obtain ⟨v5, hv5, h⟩ := bindE h
    obtain ⟨ev5, zv5⟩ := zzE hv5
    refine aw_topi ev5 ?_
    have e9 := inj1 h
    subst e9
    exact hret _ _ dX0_hasThing_17 zv5
  replace h := hz4
  refine aw_if_lt C 16 dX0_hasThing_1 (by decide) (fun c1 => ?_) (fun c1 => ?_)
  · rw [if_pos c1] at h
    refine aw_iconst C 0 dX0_hasThing_16 (by decide) ?_
    have e9 := inj1 h
    subst e9
    exact aw_sub [] rfl kj1
  · rw [if_neg c1] at h
    refine aw_iload_n C 1 dX0_hasThing_4 rfl rfl ?_
    refine aw_aload_n C 0 dX0_hasThing_5 rfl rfl ?_
    obtain ⟨v2, hv2, h⟩ := bindE h
    refine aw_gI C fl_X0_25 rfl hv2 dX0_hasThing_6 ?_
    refine aw_icmp_ge C 16 dX0_hasThing_9 (by decide) (fun c3 => ?_) (fun c3 => ?_)
    · rw [if_pos c3] at h
      refine aw_iconst C 0 dX0_hasThing_16 (by decide) ?_
      have e9 := inj1 h
      subst e9
      exact aw_sub [] rfl kj1
    · rw [if_neg c3] at h
      refine aw_iconst C 1 dX0_hasThing_12 (by decide) ?_
      refine aw_goto C 17 dX0_hasThing_13 (by decide) ?_
      have e9 := inj1 h
      subst e9
      exact aw_sub [] rfl kj1
set_option maxRecDepth 100000 in
set_option maxHeartbeats 4000000 in
theorem mt_X0_hasThing {G : GL} {l : Launch} {a0 : Nat} {x1 : Int32} {μ : Mem} {r : Int32} (h : X0_hasThing a0 x1 μ = some r) : MtI G l yX0_hasThing cX0_hasThing 2 (some .boolean) rm_X0_hasThing false [.ref (gZ G + a0), .int x1] μ r μ := met_Z (by decide) rfl (Nat.le_of_ble_eq_true rfl) (fun X _ C _ _ hret => wk_X0_hasThing C h hret)
def X0_hasThings (a0 : Nat) (x1 : Int32) (μ : Mem) : Option Int32 :=
  ((if x1 ≤ 0 then
  some 0
  else
  (gI 0 2 a0 μ).bind fun v2 =>
  if ((1 : Int32) <<< (v2 &&& 31)) ≤ x1 then
  some 0
  else
  some 1) : Option (Int32)).bind fun z4 =>
  (zz z4).bind fun v5 =>
  some v5
set_option maxRecDepth 100000 in
set_option maxHeartbeats 4000000 in
theorem wk_X0_hasThings {G : GL} {X : CX} {a0 : Nat} {x1 : Int32} {μ : Mem} {r : Int32} (C : Ctx G X cX0_hasThings 2 RX0 rm_X0_hasThings) (h : X0_hasThings a0 x1 μ = some r) (hret : RtZ G 2 X cX0_hasThings 0 0 r μ) : AW G 2 X 0 0 0 [(0, .ref (gZ G + a0)), (1, .int x1)] [] μ := by
  unfold X0_hasThings at h
  refine aw_iload_n C 1 dX0_hasThings_0 rfl rfl ?_
  obtain ⟨z4, hz4, h⟩ := bindE h
  have kj1 : AW G 2 X 0 0 19 [] [.int z4] μ := by
    obtain ⟨v5, hv5, h⟩ := bindE h
    obtain ⟨ev5, zv5⟩ := zzE hv5
    refine aw_topi ev5 ?_
    have e9 := inj1 h
    subst e9
    exact hret _ _ dX0_hasThings_19 zv5
  replace h := hz4
  refine aw_if_le C 18 dX0_hasThings_1 (by decide) (fun c1 => ?_) (fun c1 => ?_)
  · rw [if_pos c1] at h
    refine aw_iconst C 0 dX0_hasThings_18 (by decide) ?_
    have e9 := inj1 h
    subst e9
    exact aw_sub [] rfl kj1
  · rw [if_neg c1] at h
    refine aw_iload_n C 1 dX0_hasThings_4 rfl rfl ?_
    refine aw_iconst C 1 dX0_hasThings_5 (by decide) ?_
    refine aw_aload_n C 0 dX0_hasThings_6 rfl rfl ?_
    obtain ⟨v2, hv2, h⟩ := bindE h
    refine aw_gI C fl_X0_25 rfl hv2 dX0_hasThings_7 ?_
    refine aw_ishl C dX0_hasThings_10 ?_
    refine aw_icmp_ge C 18 dX0_hasThings_11 (by decide) (fun c3 => ?_) (fun c3 => ?_)
    · rw [if_pos c3] at h
      refine aw_iconst C 0 dX0_hasThings_18 (by decide) ?_
      have e9 := inj1 h
      subst e9
      exact aw_sub [] rfl kj1
    · rw [if_neg c3] at h
      refine aw_iconst C 1 dX0_hasThings_14 (by decide) ?_
      refine aw_goto C 19 dX0_hasThings_15 (by decide) ?_
      have e9 := inj1 h
      subst e9
      exact aw_sub [] rfl kj1
set_option maxRecDepth 100000 in
set_option maxHeartbeats 4000000 in
theorem mt_X0_hasThings {G : GL} {l : Launch} {a0 : Nat} {x1 : Int32} {μ : Mem} {r : Int32} (h : X0_hasThings a0 x1 μ = some r) : MtI G l yX0_hasThings cX0_hasThings 2 (some .boolean) rm_X0_hasThings false [.ref (gZ G + a0), .int x1] μ r μ := met_Z (by decide) rfl (Nat.le_of_ble_eq_true rfl) (fun X _ C _ _ hret => wk_X0_hasThings C h hret)
def X0_hasSaying (a0 : Nat) (x1 : Int32) (μ : Mem) : Option Int32 :=
  ((if x1 < 0 then
  some 0
  else
  (gI 0 3 a0 μ).bind fun v2 =>
  if v2 ≤ x1 then
  some 0
  else
  some 1) : Option (Int32)).bind fun z4 =>
  (zz z4).bind fun v5 =>
  some v5
set_option maxRecDepth 100000 in
set_option maxHeartbeats 4000000 in
theorem wk_X0_hasSaying {G : GL} {X : CX} {a0 : Nat} {x1 : Int32} {μ : Mem} {r : Int32} (C : Ctx G X cX0_hasSaying 2 RX0 rm_X0_hasSaying) (h : X0_hasSaying a0 x1 μ = some r) (hret : RtZ G 2 X cX0_hasSaying 0 0 r μ) : AW G 2 X 0 0 0 [(0, .ref (gZ G + a0)), (1, .int x1)] [] μ := by
  unfold X0_hasSaying at h
  refine aw_iload_n C 1 dX0_hasSaying_0 rfl rfl ?_
  obtain ⟨z4, hz4, h⟩ := bindE h
  have kj1 : AW G 2 X 0 0 17 [] [.int z4] μ := by
    obtain ⟨v5, hv5, h⟩ := bindE h
    obtain ⟨ev5, zv5⟩ := zzE hv5
    refine aw_topi ev5 ?_
    have e9 := inj1 h
    subst e9
    exact hret _ _ dX0_hasSaying_17 zv5
  replace h := hz4
  refine aw_if_lt C 16 dX0_hasSaying_1 (by decide) (fun c1 => ?_) (fun c1 => ?_)
  · rw [if_pos c1] at h
    refine aw_iconst C 0 dX0_hasSaying_16 (by decide) ?_
    have e9 := inj1 h
    subst e9
    exact aw_sub [] rfl kj1
  · rw [if_neg c1] at h
    refine aw_iload_n C 1 dX0_hasSaying_4 rfl rfl ?_
    refine aw_aload_n C 0 dX0_hasSaying_5 rfl rfl ?_
    obtain ⟨v2, hv2, h⟩ := bindE h
    refine aw_gI C fl_X0_29 rfl hv2 dX0_hasSaying_6 ?_
    refine aw_icmp_ge C 16 dX0_hasSaying_9 (by decide) (fun c3 => ?_) (fun c3 => ?_)
    · rw [if_pos c3] at h
      refine aw_iconst C 0 dX0_hasSaying_16 (by decide) ?_
      have e9 := inj1 h
      subst e9
      exact aw_sub [] rfl kj1
    · rw [if_neg c3] at h
      refine aw_iconst C 1 dX0_hasSaying_12 (by decide) ?_
      refine aw_goto C 17 dX0_hasSaying_13 (by decide) ?_
      have e9 := inj1 h
      subst e9
      exact aw_sub [] rfl kj1
set_option maxRecDepth 100000 in
set_option maxHeartbeats 4000000 in
theorem mt_X0_hasSaying {G : GL} {l : Launch} {a0 : Nat} {x1 : Int32} {μ : Mem} {r : Int32} (h : X0_hasSaying a0 x1 μ = some r) : MtI G l yX0_hasSaying cX0_hasSaying 2 (some .boolean) rm_X0_hasSaying false [.ref (gZ G + a0), .int x1] μ r μ := met_Z (by decide) rfl (Nat.le_of_ble_eq_true rfl) (fun X _ C _ _ hret => wk_X0_hasSaying C h hret)
def X10_contains (x0 : Int32) (x1 : Int32) : Int32 :=
  (if ((x0 >>> (x1 &&& 31)) &&& 1) = 0 then 0 else 1)
set_option maxRecDepth 100000 in
set_option maxHeartbeats 4000000 in
theorem wk_X10_contains {G : GL} {X : CX} {x0 : Int32} {x1 : Int32} {μ : Mem} (C : Ctx G X cX10_contains 2 RX10 rm_X10_contains) (hret : RtZ G 2 X cX10_contains 0 0 (X10_contains x0 x1) μ) : AW G 2 X 0 0 0 [(0, .int x0), (1, .int x1)] [] μ := by
  unfold X10_contains at hret
  refine aw_iload_n C 0 dX10_contains_0 rfl rfl ?_
  refine aw_iload_n C 1 dX10_contains_1 rfl rfl ?_
  refine aw_ishr C dX10_contains_2 ?_
  refine aw_iconst C 1 dX10_contains_3 (by decide) ?_
  refine aw_iand C dX10_contains_4 ?_
  have kj5 : ∀ (q5_0 : Int32), q5_0 = (if ((x0 >>> (x1 &&& 31)) &&& 1) = 0 then 0 else 1) → AW G 2 X 0 0 13 [] [.int q5_0] μ := by
    rintro _ rfl
    exact hret _ _ dX10_contains_13 (by repeat (first | exact Or.inl rfl | exact Or.inr rfl | split))
  refine aw_if_eq C 12 dX10_contains_5 (by decide) (fun c1 => ?_) (fun c1 => ?_)
  · refine aw_iconst C 0 dX10_contains_12 (by decide) ?_
    exact aw_sub [] rfl (kj5 _ (by simp only [if_pos c1]))
  · refine aw_iconst C 1 dX10_contains_8 (by decide) ?_
    refine aw_goto C 13 dX10_contains_9 (by decide) ?_
    exact aw_sub [] rfl (kj5 _ (by simp only [if_neg c1]))
set_option maxRecDepth 100000 in
set_option maxHeartbeats 4000000 in
theorem mt_X10_contains {G : GL} {l : Launch} (x0 : Int32) (x1 : Int32) {μ : Mem} : MtI G l yX10_contains cX10_contains 2 (some .boolean) rm_X10_contains false [.int x0, .int x1] μ (X10_contains x0 x1) μ := met_Z (by decide) rfl (Nat.le_of_ble_eq_true rfl) (fun X _ C _ _ hret => wk_X10_contains C hret)
theorem z_X10_contains (x0 : Int32) (x1 : Int32) : X10_contains x0 x1 = 0 ∨ X10_contains x0 x1 = 1 := by
  unfold X10_contains
  repeat (first | exact Or.inl rfl | exact Or.inr rfl | split)
def J6_bitCount_0f7a4 (x0 : Int32) : Int32 :=
  (((((((x0 - (((x0.toUInt32 >>> ((1 : Int32).toUInt32 &&& Int32.toUInt32 31)).toInt32) &&& 1431655765)) &&& 858993459) + ((((x0 - (((x0.toUInt32 >>> ((1 : Int32).toUInt32 &&& Int32.toUInt32 31)).toInt32) &&& 1431655765)).toUInt32 >>> ((2 : Int32).toUInt32 &&& Int32.toUInt32 31)).toInt32) &&& 858993459)) + (((((x0 - (((x0.toUInt32 >>> ((1 : Int32).toUInt32 &&& Int32.toUInt32 31)).toInt32) &&& 1431655765)) &&& 858993459) + ((((x0 - (((x0.toUInt32 >>> ((1 : Int32).toUInt32 &&& Int32.toUInt32 31)).toInt32) &&& 1431655765)).toUInt32 >>> ((2 : Int32).toUInt32 &&& Int32.toUInt32 31)).toInt32) &&& 858993459)).toUInt32 >>> ((4 : Int32).toUInt32 &&& Int32.toUInt32 31)).toInt32)) &&& 252645135) + (((((((x0 - (((x0.toUInt32 >>> ((1 : Int32).toUInt32 &&& Int32.toUInt32 31)).toInt32) &&& 1431655765)) &&& 858993459) + ((((x0 - (((x0.toUInt32 >>> ((1 : Int32).toUInt32 &&& Int32.toUInt32 31)).toInt32) &&& 1431655765)).toUInt32 >>> ((2 : Int32).toUInt32 &&& Int32.toUInt32 31)).toInt32) &&& 858993459)) + (((((x0 - (((x0.toUInt32 >>> ((1 : Int32).toUInt32 &&& Int32.toUInt32 31)).toInt32) &&& 1431655765)) &&& 858993459) + ((((x0 - (((x0.toUInt32 >>> ((1 : Int32).toUInt32 &&& Int32.toUInt32 31)).toInt32) &&& 1431655765)).toUInt32 >>> ((2 : Int32).toUInt32 &&& Int32.toUInt32 31)).toInt32) &&& 858993459)).toUInt32 >>> ((4 : Int32).toUInt32 &&& Int32.toUInt32 31)).toInt32)) &&& 252645135).toUInt32 >>> ((8 : Int32).toUInt32 &&& Int32.toUInt32 31)).toInt32)) + ((((((((x0 - (((x0.toUInt32 >>> ((1 : Int32).toUInt32 &&& Int32.toUInt32 31)).toInt32) &&& 1431655765)) &&& 858993459) + ((((x0 - (((x0.toUInt32 >>> ((1 : Int32).toUInt32 &&& Int32.toUInt32 31)).toInt32) &&& 1431655765)).toUInt32 >>> ((2 : Int32).toUInt32 &&& Int32.toUInt32 31)).toInt32) &&& 858993459)) + (((((x0 - (((x0.toUInt32 >>> ((1 : Int32).toUInt32 &&& Int32.toUInt32 31)).toInt32) &&& 1431655765)) &&& 858993459) + ((((x0 - (((x0.toUInt32 >>> ((1 : Int32).toUInt32 &&& Int32.toUInt32 31)).toInt32) &&& 1431655765)).toUInt32 >>> ((2 : Int32).toUInt32 &&& Int32.toUInt32 31)).toInt32) &&& 858993459)).toUInt32 >>> ((4 : Int32).toUInt32 &&& Int32.toUInt32 31)).toInt32)) &&& 252645135) + (((((((x0 - (((x0.toUInt32 >>> ((1 : Int32).toUInt32 &&& Int32.toUInt32 31)).toInt32) &&& 1431655765)) &&& 858993459) + ((((x0 - (((x0.toUInt32 >>> ((1 : Int32).toUInt32 &&& Int32.toUInt32 31)).toInt32) &&& 1431655765)).toUInt32 >>> ((2 : Int32).toUInt32 &&& Int32.toUInt32 31)).toInt32) &&& 858993459)) + (((((x0 - (((x0.toUInt32 >>> ((1 : Int32).toUInt32 &&& Int32.toUInt32 31)).toInt32) &&& 1431655765)) &&& 858993459) + ((((x0 - (((x0.toUInt32 >>> ((1 : Int32).toUInt32 &&& Int32.toUInt32 31)).toInt32) &&& 1431655765)).toUInt32 >>> ((2 : Int32).toUInt32 &&& Int32.toUInt32 31)).toInt32) &&& 858993459)).toUInt32 >>> ((4 : Int32).toUInt32 &&& Int32.toUInt32 31)).toInt32)) &&& 252645135).toUInt32 >>> ((8 : Int32).toUInt32 &&& Int32.toUInt32 31)).toInt32)).toUInt32 >>> ((16 : Int32).toUInt32 &&& Int32.toUInt32 31)).toInt32)) &&& 63
set_option maxRecDepth 100000 in
set_option maxHeartbeats 4000000 in
theorem wk_J6_bitCount_0f7a4 {G : GL} {X : CX} {x0 : Int32} {μ : Mem} (C : Ctx G X cJ6_bitCount_0f7a4 1 RJ6 rm_J6_bitCount_0f7a4) (hret : RtI G 1 X cJ6_bitCount_0f7a4 0 0 (J6_bitCount_0f7a4 x0) μ) : AW G 1 X 0 0 0 [(0, .int x0)] [] μ := by
  unfold J6_bitCount_0f7a4 at hret
  refine aw_iload_n C 0 dJ6_bitCount_0f7a4_0 rfl rfl ?_
  refine aw_iload_n C 0 dJ6_bitCount_0f7a4_1 rfl rfl ?_
  refine aw_iconst C 1 dJ6_bitCount_0f7a4_2 (by decide) ?_
  refine aw_iushr C dJ6_bitCount_0f7a4_3 ?_
  refine aw_ldcw C kc_J6_265 dJ6_bitCount_0f7a4_4 ?_
  refine aw_iand C dJ6_bitCount_0f7a4_7 ?_
  refine aw_isub C dJ6_bitCount_0f7a4_8 ?_
  refine aw_istore_n C [(0, .int (x0 - (((x0.toUInt32 >>> ((1 : Int32).toUInt32 &&& Int32.toUInt32 31)).toInt32) &&& 1431655765)))] dJ6_bitCount_0f7a4_9 rfl (by decide) rfl ?_
  refine aw_iload_n C 0 dJ6_bitCount_0f7a4_10 rfl rfl ?_
  refine aw_ldcw C kc_J6_266 dJ6_bitCount_0f7a4_11 ?_
  refine aw_iand C dJ6_bitCount_0f7a4_14 ?_
  refine aw_iload_n C 0 dJ6_bitCount_0f7a4_15 rfl rfl ?_
  refine aw_iconst C 2 dJ6_bitCount_0f7a4_16 (by decide) ?_
  refine aw_iushr C dJ6_bitCount_0f7a4_17 ?_
  refine aw_ldcw C kc_J6_266 dJ6_bitCount_0f7a4_18 ?_
  refine aw_iand C dJ6_bitCount_0f7a4_21 ?_
  refine aw_iadd C dJ6_bitCount_0f7a4_22 ?_
  refine aw_istore_n C [(0, .int (((x0 - (((x0.toUInt32 >>> ((1 : Int32).toUInt32 &&& Int32.toUInt32 31)).toInt32) &&& 1431655765)) &&& 858993459) + ((((x0 - (((x0.toUInt32 >>> ((1 : Int32).toUInt32 &&& Int32.toUInt32 31)).toInt32) &&& 1431655765)).toUInt32 >>> ((2 : Int32).toUInt32 &&& Int32.toUInt32 31)).toInt32) &&& 858993459)))] dJ6_bitCount_0f7a4_23 rfl (by decide) rfl ?_
  refine aw_iload_n C 0 dJ6_bitCount_0f7a4_24 rfl rfl ?_
  refine aw_iload_n C 0 dJ6_bitCount_0f7a4_25 rfl rfl ?_
  refine aw_iconst C 4 dJ6_bitCount_0f7a4_26 (by decide) ?_
  refine aw_iushr C dJ6_bitCount_0f7a4_27 ?_
  refine aw_iadd C dJ6_bitCount_0f7a4_28 ?_
  refine aw_ldcw C kc_J6_267 dJ6_bitCount_0f7a4_29 ?_
  refine aw_iand C dJ6_bitCount_0f7a4_32 ?_
  refine aw_istore_n C [(0, .int (((((x0 - (((x0.toUInt32 >>> ((1 : Int32).toUInt32 &&& Int32.toUInt32 31)).toInt32) &&& 1431655765)) &&& 858993459) + ((((x0 - (((x0.toUInt32 >>> ((1 : Int32).toUInt32 &&& Int32.toUInt32 31)).toInt32) &&& 1431655765)).toUInt32 >>> ((2 : Int32).toUInt32 &&& Int32.toUInt32 31)).toInt32) &&& 858993459)) + (((((x0 - (((x0.toUInt32 >>> ((1 : Int32).toUInt32 &&& Int32.toUInt32 31)).toInt32) &&& 1431655765)) &&& 858993459) + ((((x0 - (((x0.toUInt32 >>> ((1 : Int32).toUInt32 &&& Int32.toUInt32 31)).toInt32) &&& 1431655765)).toUInt32 >>> ((2 : Int32).toUInt32 &&& Int32.toUInt32 31)).toInt32) &&& 858993459)).toUInt32 >>> ((4 : Int32).toUInt32 &&& Int32.toUInt32 31)).toInt32)) &&& 252645135))] dJ6_bitCount_0f7a4_33 rfl (by decide) rfl ?_
  refine aw_iload_n C 0 dJ6_bitCount_0f7a4_34 rfl rfl ?_
  refine aw_iload_n C 0 dJ6_bitCount_0f7a4_35 rfl rfl ?_
  refine aw_bipush C 8 dJ6_bitCount_0f7a4_36 (by decide) ?_
  refine aw_iushr C dJ6_bitCount_0f7a4_38 ?_
  refine aw_iadd C dJ6_bitCount_0f7a4_39 ?_
  refine aw_istore_n C [(0, .int ((((((x0 - (((x0.toUInt32 >>> ((1 : Int32).toUInt32 &&& Int32.toUInt32 31)).toInt32) &&& 1431655765)) &&& 858993459) + ((((x0 - (((x0.toUInt32 >>> ((1 : Int32).toUInt32 &&& Int32.toUInt32 31)).toInt32) &&& 1431655765)).toUInt32 >>> ((2 : Int32).toUInt32 &&& Int32.toUInt32 31)).toInt32) &&& 858993459)) + (((((x0 - (((x0.toUInt32 >>> ((1 : Int32).toUInt32 &&& Int32.toUInt32 31)).toInt32) &&& 1431655765)) &&& 858993459) + ((((x0 - (((x0.toUInt32 >>> ((1 : Int32).toUInt32 &&& Int32.toUInt32 31)).toInt32) &&& 1431655765)).toUInt32 >>> ((2 : Int32).toUInt32 &&& Int32.toUInt32 31)).toInt32) &&& 858993459)).toUInt32 >>> ((4 : Int32).toUInt32 &&& Int32.toUInt32 31)).toInt32)) &&& 252645135) + (((((((x0 - (((x0.toUInt32 >>> ((1 : Int32).toUInt32 &&& Int32.toUInt32 31)).toInt32) &&& 1431655765)) &&& 858993459) + ((((x0 - (((x0.toUInt32 >>> ((1 : Int32).toUInt32 &&& Int32.toUInt32 31)).toInt32) &&& 1431655765)).toUInt32 >>> ((2 : Int32).toUInt32 &&& Int32.toUInt32 31)).toInt32) &&& 858993459)) + (((((x0 - (((x0.toUInt32 >>> ((1 : Int32).toUInt32 &&& Int32.toUInt32 31)).toInt32) &&& 1431655765)) &&& 858993459) + ((((x0 - (((x0.toUInt32 >>> ((1 : Int32).toUInt32 &&& Int32.toUInt32 31)).toInt32) &&& 1431655765)).toUInt32 >>> ((2 : Int32).toUInt32 &&& Int32.toUInt32 31)).toInt32) &&& 858993459)).toUInt32 >>> ((4 : Int32).toUInt32 &&& Int32.toUInt32 31)).toInt32)) &&& 252645135).toUInt32 >>> ((8 : Int32).toUInt32 &&& Int32.toUInt32 31)).toInt32)))] dJ6_bitCount_0f7a4_40 rfl (by decide) rfl ?_
  refine aw_iload_n C 0 dJ6_bitCount_0f7a4_41 rfl rfl ?_
  refine aw_iload_n C 0 dJ6_bitCount_0f7a4_42 rfl rfl ?_
  refine aw_bipush C 16 dJ6_bitCount_0f7a4_43 (by decide) ?_
  refine aw_iushr C dJ6_bitCount_0f7a4_45 ?_
  refine aw_iadd C dJ6_bitCount_0f7a4_46 ?_
  refine aw_istore_n C [(0, .int (((((((x0 - (((x0.toUInt32 >>> ((1 : Int32).toUInt32 &&& Int32.toUInt32 31)).toInt32) &&& 1431655765)) &&& 858993459) + ((((x0 - (((x0.toUInt32 >>> ((1 : Int32).toUInt32 &&& Int32.toUInt32 31)).toInt32) &&& 1431655765)).toUInt32 >>> ((2 : Int32).toUInt32 &&& Int32.toUInt32 31)).toInt32) &&& 858993459)) + (((((x0 - (((x0.toUInt32 >>> ((1 : Int32).toUInt32 &&& Int32.toUInt32 31)).toInt32) &&& 1431655765)) &&& 858993459) + ((((x0 - (((x0.toUInt32 >>> ((1 : Int32).toUInt32 &&& Int32.toUInt32 31)).toInt32) &&& 1431655765)).toUInt32 >>> ((2 : Int32).toUInt32 &&& Int32.toUInt32 31)).toInt32) &&& 858993459)).toUInt32 >>> ((4 : Int32).toUInt32 &&& Int32.toUInt32 31)).toInt32)) &&& 252645135) + (((((((x0 - (((x0.toUInt32 >>> ((1 : Int32).toUInt32 &&& Int32.toUInt32 31)).toInt32) &&& 1431655765)) &&& 858993459) + ((((x0 - (((x0.toUInt32 >>> ((1 : Int32).toUInt32 &&& Int32.toUInt32 31)).toInt32) &&& 1431655765)).toUInt32 >>> ((2 : Int32).toUInt32 &&& Int32.toUInt32 31)).toInt32) &&& 858993459)) + (((((x0 - (((x0.toUInt32 >>> ((1 : Int32).toUInt32 &&& Int32.toUInt32 31)).toInt32) &&& 1431655765)) &&& 858993459) + ((((x0 - (((x0.toUInt32 >>> ((1 : Int32).toUInt32 &&& Int32.toUInt32 31)).toInt32) &&& 1431655765)).toUInt32 >>> ((2 : Int32).toUInt32 &&& Int32.toUInt32 31)).toInt32) &&& 858993459)).toUInt32 >>> ((4 : Int32).toUInt32 &&& Int32.toUInt32 31)).toInt32)) &&& 252645135).toUInt32 >>> ((8 : Int32).toUInt32 &&& Int32.toUInt32 31)).toInt32)) + ((((((((x0 - (((x0.toUInt32 >>> ((1 : Int32).toUInt32 &&& Int32.toUInt32 31)).toInt32) &&& 1431655765)) &&& 858993459) + ((((x0 - (((x0.toUInt32 >>> ((1 : Int32).toUInt32 &&& Int32.toUInt32 31)).toInt32) &&& 1431655765)).toUInt32 >>> ((2 : Int32).toUInt32 &&& Int32.toUInt32 31)).toInt32) &&& 858993459)) + (((((x0 - (((x0.toUInt32 >>> ((1 : Int32).toUInt32 &&& Int32.toUInt32 31)).toInt32) &&& 1431655765)) &&& 858993459) + ((((x0 - (((x0.toUInt32 >>> ((1 : Int32).toUInt32 &&& Int32.toUInt32 31)).toInt32) &&& 1431655765)).toUInt32 >>> ((2 : Int32).toUInt32 &&& Int32.toUInt32 31)).toInt32) &&& 858993459)).toUInt32 >>> ((4 : Int32).toUInt32 &&& Int32.toUInt32 31)).toInt32)) &&& 252645135) + (((((((x0 - (((x0.toUInt32 >>> ((1 : Int32).toUInt32 &&& Int32.toUInt32 31)).toInt32) &&& 1431655765)) &&& 858993459) + ((((x0 - (((x0.toUInt32 >>> ((1 : Int32).toUInt32 &&& Int32.toUInt32 31)).toInt32) &&& 1431655765)).toUInt32 >>> ((2 : Int32).toUInt32 &&& Int32.toUInt32 31)).toInt32) &&& 858993459)) + (((((x0 - (((x0.toUInt32 >>> ((1 : Int32).toUInt32 &&& Int32.toUInt32 31)).toInt32) &&& 1431655765)) &&& 858993459) + ((((x0 - (((x0.toUInt32 >>> ((1 : Int32).toUInt32 &&& Int32.toUInt32 31)).toInt32) &&& 1431655765)).toUInt32 >>> ((2 : Int32).toUInt32 &&& Int32.toUInt32 31)).toInt32) &&& 858993459)).toUInt32 >>> ((4 : Int32).toUInt32 &&& Int32.toUInt32 31)).toInt32)) &&& 252645135).toUInt32 >>> ((8 : Int32).toUInt32 &&& Int32.toUInt32 31)).toInt32)).toUInt32 >>> ((16 : Int32).toUInt32 &&& Int32.toUInt32 31)).toInt32)))] dJ6_bitCount_0f7a4_47 rfl (by decide) rfl ?_
  refine aw_iload_n C 0 dJ6_bitCount_0f7a4_48 rfl rfl ?_
  refine aw_bipush C 63 dJ6_bitCount_0f7a4_49 (by decide) ?_
  refine aw_iand C dJ6_bitCount_0f7a4_51 ?_
  exact hret _ _ dJ6_bitCount_0f7a4_52
set_option maxRecDepth 100000 in
set_option maxHeartbeats 4000000 in
theorem mt_J6_bitCount_0f7a4 {G : GL} {l : Launch} (x0 : Int32) {μ : Mem} : MtI G l yJ6_bitCount_0f7a4 cJ6_bitCount_0f7a4 1 (some .int) rm_J6_bitCount_0f7a4 false [.int x0] μ (J6_bitCount_0f7a4 x0) μ := met_I (by decide) rfl rfl (Nat.le_of_ble_eq_true rfl) (fun X _ C _ _ hret => wk_J6_bitCount_0f7a4 C hret)
def X0_isTold_L7 (a0 : Nat) (x1 : Int32) (μ : Mem) : Nat → Int32 → Int32 → Int32 → Option (Int32 × Int32 × Int32)
  | 0, _, _, _ => none
  | n + 1, x2, x3, x4 =>
      (gI 0 3 a0 μ).bind fun v1 =>
      if v1 ≤ x4 then
      some ((x2, x3, x4))
      else
      (gR 0 1 a0 μ).bind fun v3 =>
      (aR 5 v3 x4 μ).bind fun v4 =>
      (gI 5 1 v4 μ).bind fun v5 =>
      ((if (X10_contains v5 x1) = 0 then
      some ((x2, x3))
      else
      (gR 0 1 a0 μ).bind fun v7 =>
      (aR 5 v7 x4 μ).bind fun v8 =>
      (gI 5 4 v8 μ).bind fun v9 =>
      (some (if v9 = 3 then x2 else x2 + 1 : Int32)).bind fun v11 =>
      (gR 0 1 a0 μ).bind fun v12 =>
      (aR 5 v12 x4 μ).bind fun v13 =>
      (gI 5 4 v13 μ).bind fun v14 =>
      if v14 = 1 then
      (gR 0 1 a0 μ).bind fun v16 =>
      (aR 5 v16 x4 μ).bind fun v17 =>
      (gI 5 0 v17 μ).bind fun v18 =>
      some ((v11, x3 ||| (1 <<< (v18 &&& 31))))
      else
      some ((v11, x3))) : Option (Int32 × Int32)).bind fun z19 =>
      X0_isTold_L7 a0 x1 μ n z19.1 z19.2 (x4 + 1)
set_option maxRecDepth 100000 in
set_option maxHeartbeats 4000000 in
theorem X0_isTold_L7_ok {G : GL} {X : CX} (C : Ctx G X cX0_isTold 5 RX0 rm_X0_isTold) (a0 : Nat) (x1 : Int32) (μ : Mem) : ∀ (n : Nat) (x2 : Int32) (x3 : Int32) (x4 : Int32) (z : Int32 × Int32 × Int32), X0_isTold_L7 a0 x1 μ n x2 x3 x4 = some z → AW G 5 X 0 0 85 [(0, .ref (gZ G + a0)), (1, .int x1), (2, .int z.1), (3, .int z.2.1), (4, .int z.2.2)] [] μ → AW G 5 X 0 0 7 [(0, .ref (gZ G + a0)), (1, .int x1), (2, .int x2), (3, .int x3), (4, .int x4)] [] μ := by
  intro n
  induction n with
  | zero =>
    intro x2 x3 x4 z h kx
    rw [X0_isTold_L7] at h
    cases h
  | succ n ih =>
    intro x2 x3 x4 z h kx
    rw [X0_isTold_L7] at h
    refine aw_iload C 4 dX0_isTold_7 rfl ?_
    refine aw_aload_n C 0 dX0_isTold_9 rfl rfl ?_
    obtain ⟨v1, hv1, h⟩ := bindE h
    refine aw_gI C fl_X0_29 rfl hv1 dX0_isTold_10 ?_
    refine aw_icmp_ge C 85 dX0_isTold_13 (by decide) (fun c2 => ?_) (fun c2 => ?_)
    · rw [if_pos c2] at h
      have e9 := inj1 h
      subst e9
      exact aw_sub [0, 1, 2, 3, 4] rfl kx
    · rw [if_neg c2] at h
      refine aw_aload_n C 0 dX0_isTold_16 rfl rfl ?_
      obtain ⟨v3, hv3, h⟩ := bindE h
      refine aw_gR C fl_X0_19 rfl hv3 dX0_isTold_17 ?_
      refine aw_iload C 4 dX0_isTold_20 rfl ?_
      obtain ⟨v4, hv4, h⟩ := bindE h
      refine aw_aR C (by decide) (ty := .object RX5) rfl rfl hv4 dX0_isTold_22 ?_
      obtain ⟨v5, hv5, h⟩ := bindE h
      refine aw_gI C fl_X0_47 rfl hv5 dX0_isTold_23 ?_
      refine aw_iload_n C 1 dX0_isTold_26 rfl rfl ?_
      refine aw_cSN_I C [.int v5, .int x1] _ (mt_X10_contains _ _) cs_X10_contains ml_X0_50 st_X10_contains ⟨by decide, by decide⟩ ⟨rfl, rfl⟩ ⟨Nat.zero_le _, Nat.zero_le _⟩ rfl rfl (Nat.le_of_ble_eq_true rfl) dX0_isTold_27 ?_
      obtain ⟨z19, hz19, h⟩ := bindE h
      have kj30 : AW G 5 X 0 0 79 [(0, .ref (gZ G + a0)), (1, .int x1), (2, .int z19.1), (3, .int z19.2), (4, .int x4)] [] μ := by
        refine aw_iinc C (x4 + 1) 4 [(4, .int (x4 + 1)), (0, .ref (gZ G + a0)), (1, .int x1), (2, .int z19.1), (3, .int z19.2)] dX0_isTold_79 rfl rfl (by decide) rfl ?_
        refine aw_goto C 7 dX0_isTold_82 (by decide) ?_
        exact aw_sub [1, 2, 3, 4, 0] rfl (ih _ _ _ _ h kx)
      replace h := hz19
      refine aw_if_eq C 79 dX0_isTold_30 (by decide) (fun c6 => ?_) (fun c6 => ?_)
      · rw [if_pos c6] at h
        have e9 := inj1 h
        subst e9
        exact aw_sub [0, 1, 2, 3, 4] rfl kj30
      · rw [if_neg c6] at h
        refine aw_aload_n C 0 dX0_isTold_33 rfl rfl ?_
        obtain ⟨v7, hv7, h⟩ := bindE h
        refine aw_gR C fl_X0_19 rfl hv7 dX0_isTold_34 ?_
        refine aw_iload C 4 dX0_isTold_37 rfl ?_
        obtain ⟨v8, hv8, h⟩ := bindE h
        refine aw_aR C (by decide) (ty := .object RX5) rfl rfl hv8 dX0_isTold_39 ?_
        obtain ⟨v9, hv9, h⟩ := bindE h
        refine aw_gI C fl_X0_54 rfl hv9 dX0_isTold_40 ?_
        refine aw_iconst C 3 dX0_isTold_43 (by decide) ?_
        obtain ⟨v11, ev11, h⟩ := bindS h
        have kj44 : AW G 5 X 0 0 50 [(0, .ref (gZ G + a0)), (1, .int x1), (2, .int v11), (3, .int x3), (4, .int x4)] [] μ := by
          refine aw_aload_n C 0 dX0_isTold_50 rfl rfl ?_
          obtain ⟨v12, hv12, h⟩ := bindE h
          refine aw_gR C fl_X0_19 rfl hv12 dX0_isTold_51 ?_
          refine aw_iload C 4 dX0_isTold_54 rfl ?_
          obtain ⟨v13, hv13, h⟩ := bindE h
          refine aw_aR C (by decide) (ty := .object RX5) rfl rfl hv13 dX0_isTold_56 ?_
          obtain ⟨v14, hv14, h⟩ := bindE h
          refine aw_gI C fl_X0_54 rfl hv14 dX0_isTold_57 ?_
          refine aw_iconst C 1 dX0_isTold_60 (by decide) ?_
          refine aw_icmp_ne C 79 dX0_isTold_61 (by decide) (fun c15 => ?_) (fun c15 => ?_)
          · rw [if_neg c15] at h
            have e9 := inj1 h
            subst e9
            exact aw_sub [0, 1, 2, 3, 4] rfl kj30
          · rw [if_pos c15] at h
            refine aw_iload_n C 3 dX0_isTold_64 rfl rfl ?_
            refine aw_iconst C 1 dX0_isTold_65 (by decide) ?_
            refine aw_aload_n C 0 dX0_isTold_66 rfl rfl ?_
            obtain ⟨v16, hv16, h⟩ := bindE h
            refine aw_gR C fl_X0_19 rfl hv16 dX0_isTold_67 ?_
            refine aw_iload C 4 dX0_isTold_70 rfl ?_
            obtain ⟨v17, hv17, h⟩ := bindE h
            refine aw_aR C (by decide) (ty := .object RX5) rfl rfl hv17 dX0_isTold_72 ?_
            obtain ⟨v18, hv18, h⟩ := bindE h
            refine aw_gI C fl_X0_57 rfl hv18 dX0_isTold_73 ?_
            refine aw_ishl C dX0_isTold_76 ?_
            refine aw_ior C dX0_isTold_77 ?_
            refine aw_istore_n C [(3, .int (x3 ||| (1 <<< (v18 &&& 31)))), (0, .ref (gZ G + a0)), (1, .int x1), (2, .int v11), (4, .int x4)] dX0_isTold_78 rfl (by decide) rfl ?_
            have e9 := inj1 h
            subst e9
            exact aw_sub [1, 2, 3, 0, 4] rfl kj30
        clear h
        refine aw_icmp_eq C 50 dX0_isTold_44 (by decide) (fun c10 => ?_) (fun c10 => ?_)
        · rw [if_pos c10] at ev11
          subst ev11
          exact aw_sub [0, 1, 2, 3, 4] rfl kj44
        · refine aw_iinc C (x2 + 1) 2 [(2, .int (x2 + 1)), (0, .ref (gZ G + a0)), (1, .int x1), (3, .int x3), (4, .int x4)] dX0_isTold_47 rfl rfl (by decide) rfl ?_
          rw [if_neg c10] at ev11
          subst ev11
          exact aw_sub [1, 2, 0, 3, 4] rfl kj44
def X0_isTold (a0 : Nat) (x1 : Int32) (μ : Mem) : Option Int32 :=
  (X0_isTold_L7 a0 x1 μ FU 0 0 0).bind fun z1 =>
  ((if z1.1 ≤ 0 then
  some 0
  else
  (gR 0 0 a0 μ).bind fun v3 =>
  (aR 6 v3 x1 μ).bind fun v4 =>
  (gI 6 1 v4 μ).bind fun v5 =>
  if v5 = 3 then
  if (J6_bitCount_0f7a4 z1.2.1) < 2 then
  some 0
  else
  some 1
  else
  some 1) : Option (Int32)).bind fun z8 =>
  (zz z8).bind fun v9 =>
  some v9
set_option maxRecDepth 100000 in
set_option maxHeartbeats 4000000 in
theorem wk_X0_isTold {G : GL} {X : CX} {a0 : Nat} {x1 : Int32} {μ : Mem} {r : Int32} (C : Ctx G X cX0_isTold 5 RX0 rm_X0_isTold) (h : X0_isTold a0 x1 μ = some r) (hret : RtZ G 5 X cX0_isTold 0 0 r μ) : AW G 5 X 0 0 0 [(0, .ref (gZ G + a0)), (1, .int x1)] [] μ := by
  unfold X0_isTold at h
  refine aw_iconst C 0 dX0_isTold_0 (by decide) ?_
  refine aw_istore_n C [(2, .int 0), (0, .ref (gZ G + a0)), (1, .int x1)] dX0_isTold_1 rfl (by decide) rfl ?_
  refine aw_iconst C 0 dX0_isTold_2 (by decide) ?_
  refine aw_istore_n C [(3, .int 0), (2, .int 0), (0, .ref (gZ G + a0)), (1, .int x1)] dX0_isTold_3 rfl (by decide) rfl ?_
  refine aw_iconst C 0 dX0_isTold_4 (by decide) ?_
  refine aw_istore C [(4, .int 0), (3, .int 0), (2, .int 0), (0, .ref (gZ G + a0)), (1, .int x1)] dX0_isTold_5 (by decide) rfl ?_
  obtain ⟨z1, hz1, h⟩ := bindE h
  refine aw_sub [3, 4, 2, 1, 0] rfl ?_
  refine X0_isTold_L7_ok C _ _ _ _ _ _ _ _ hz1 ?_
  refine aw_iload_n C 2 dX0_isTold_85 rfl rfl ?_
  obtain ⟨z8, hz8, h⟩ := bindE h
  have kj86 : AW G 5 X 0 0 115 [] [.int z8] μ := by
    obtain ⟨v9, hv9, h⟩ := bindE h
    obtain ⟨ev9, zv9⟩ := zzE hv9
    refine aw_topi ev9 ?_
    have e9 := inj1 h
    subst e9
    exact hret _ _ dX0_isTold_115 zv9
  replace h := hz8
  refine aw_if_le C 114 dX0_isTold_86 (by decide) (fun c2 => ?_) (fun c2 => ?_)
  · rw [if_pos c2] at h
    refine aw_iconst C 0 dX0_isTold_114 (by decide) ?_
    have e9 := inj1 h
    subst e9
    exact aw_sub [] rfl kj86
  · rw [if_neg c2] at h
    refine aw_aload_n C 0 dX0_isTold_89 rfl rfl ?_
    obtain ⟨v3, hv3, h⟩ := bindE h
    refine aw_gR C fl_X0_11 rfl hv3 dX0_isTold_90 ?_
    refine aw_iload_n C 1 dX0_isTold_93 rfl rfl ?_
    obtain ⟨v4, hv4, h⟩ := bindE h
    refine aw_aR C (by decide) (ty := .object RX6) rfl rfl hv4 dX0_isTold_94 ?_
    obtain ⟨v5, hv5, h⟩ := bindE h
    refine aw_gI C fl_X0_60 rfl hv5 dX0_isTold_95 ?_
    refine aw_iconst C 3 dX0_isTold_98 (by decide) ?_
    refine aw_icmp_ne C 110 dX0_isTold_99 (by decide) (fun c6 => ?_) (fun c6 => ?_)
    · rw [if_neg c6] at h
      refine aw_iconst C 1 dX0_isTold_110 (by decide) ?_
      refine aw_goto C 115 dX0_isTold_111 (by decide) ?_
      have e9 := inj1 h
      subst e9
      exact aw_sub [] rfl kj86
    · rw [if_pos c6] at h
      refine aw_iload_n C 3 dX0_isTold_102 rfl rfl ?_
      refine aw_cS_I C [.int z1.2.1] _ (mt_J6_bitCount_0f7a4 _) cs_J6_bitCount_0f7a4 ml_X0_63 st_J6_bitCount_0f7a4 ⟨by decide, by decide⟩ ⟨rfl, rfl⟩ ⟨Nat.zero_le _, Nat.zero_le _⟩ rfl rfl (Nat.le_of_ble_eq_true rfl) dX0_isTold_103 ?_
      refine aw_iconst C 2 dX0_isTold_106 (by decide) ?_
      refine aw_icmp_lt C 114 dX0_isTold_107 (by decide) (fun c7 => ?_) (fun c7 => ?_)
      · rw [if_pos c7] at h
        refine aw_iconst C 0 dX0_isTold_114 (by decide) ?_
        have e9 := inj1 h
        subst e9
        exact aw_sub [] rfl kj86
      · rw [if_neg c7] at h
        refine aw_iconst C 1 dX0_isTold_110 (by decide) ?_
        refine aw_goto C 115 dX0_isTold_111 (by decide) ?_
        have e9 := inj1 h
        subst e9
        exact aw_sub [] rfl kj86
set_option maxRecDepth 100000 in
set_option maxHeartbeats 4000000 in
theorem mt_X0_isTold {G : GL} {l : Launch} {a0 : Nat} {x1 : Int32} {μ : Mem} {r : Int32} (h : X0_isTold a0 x1 μ = some r) : MtI G l yX0_isTold cX0_isTold 5 (some .boolean) rm_X0_isTold false [.ref (gZ G + a0), .int x1] μ r μ := met_Z (by decide) rfl (Nat.le_of_ble_eq_true rfl) (fun X _ C _ _ hret => wk_X0_isTold C h hret)
def X0_standing (a0 : Nat) (x1 : Int32) (x2 : Int32) (μ : Mem) : Option Int32 :=
  (gR 0 0 a0 μ).bind fun v1 =>
  (aR 6 v1 x1 μ).bind fun v2 =>
  (gI 6 8 v2 μ).bind fun v3 =>
  if v3 = 0 then
  (vO 0 a0 μ).bind fun g5 =>
  (X0_isTold a0 x1 μ).bind fun v6 =>
  if v6 = 0 then
  (gR 0 0 a0 μ).bind fun v8 =>
  (aR 6 v8 x1 μ).bind fun v9 =>
  (gI 6 6 v9 μ).bind fun v10 =>
  (some (if x2 ≤ v10 then 0 else 3 : Int32)).bind fun v12 =>
  some (v12)
  else
  some (1)
  else
  some (2)
set_option maxRecDepth 100000 in
set_option maxHeartbeats 4000000 in
theorem wk_X0_standing {G : GL} {X : CX} {a0 : Nat} {x1 : Int32} {x2 : Int32} {μ : Mem} {r : Int32} (C : Ctx G X cX0_standing 3 RX0 rm_X0_standing) (h : X0_standing a0 x1 x2 μ = some r) (hret : RtI G 3 X cX0_standing 0 0 r μ) : AW G 3 X 0 0 0 [(0, .ref (gZ G + a0)), (1, .int x1), (2, .int x2)] [] μ := by
  unfold X0_standing at h
  refine aw_aload_n C 0 dX0_standing_0 rfl rfl ?_
  obtain ⟨v1, hv1, h⟩ := bindE h
  refine aw_gR C fl_X0_11 rfl hv1 dX0_standing_1 ?_
  refine aw_iload_n C 1 dX0_standing_4 rfl rfl ?_
  obtain ⟨v2, hv2, h⟩ := bindE h
  refine aw_aR C (by decide) (ty := .object RX6) rfl rfl hv2 dX0_standing_5 ?_
  obtain ⟨v3, hv3, h⟩ := bindE h
  refine aw_gI C fl_X0_32 rfl hv3 dX0_standing_6 ?_
  refine aw_if_eq C 14 dX0_standing_9 (by decide) (fun c4 => ?_) (fun c4 => ?_)
  · rw [if_pos c4] at h
    refine aw_aload_n C 0 dX0_standing_14 rfl rfl ?_
    refine aw_iload_n C 1 dX0_standing_15 rfl rfl ?_
    obtain ⟨g5, hg5, h⟩ := bindE h
    obtain ⟨v6, hv6, h⟩ := bindE h
    refine aw_cV_I C [.int x1] _ (mt_X0_isTold hv6) cs_X0_isTold ml_X0_36 im_X0_isTold se_X0_isTold (ci := 0) rfl rfl hg5 ⟨by decide, by decide⟩ ⟨rfl, rfl⟩ ⟨Nat.zero_le _, Nat.zero_le _⟩ rfl rfl (Nat.le_of_ble_eq_true rfl) dX0_standing_16 ?_
    refine aw_if_eq C 24 dX0_standing_19 (by decide) (fun c7 => ?_) (fun c7 => ?_)
    · rw [if_pos c7] at h
      refine aw_aload_n C 0 dX0_standing_24 rfl rfl ?_
      obtain ⟨v8, hv8, h⟩ := bindE h
      refine aw_gR C fl_X0_11 rfl hv8 dX0_standing_25 ?_
      refine aw_iload_n C 1 dX0_standing_28 rfl rfl ?_
      obtain ⟨v9, hv9, h⟩ := bindE h
      refine aw_aR C (by decide) (ty := .object RX6) rfl rfl hv9 dX0_standing_29 ?_
      obtain ⟨v10, hv10, h⟩ := bindE h
      refine aw_gI C fl_X0_40 rfl hv10 dX0_standing_30 ?_
      refine aw_iload_n C 2 dX0_standing_33 rfl rfl ?_
      obtain ⟨v12, ev12, h⟩ := bindS h
      have kj34 : AW G 3 X 0 0 42 [] [.int v12] μ := by
        have e9 := inj1 h
        subst e9
        exact hret _ _ dX0_standing_42
      clear h
      refine aw_icmp_ge C 41 dX0_standing_34 (by decide) (fun c11 => ?_) (fun c11 => ?_)
      · refine aw_iconst C 0 dX0_standing_41 (by decide) ?_
        rw [if_pos c11] at ev12
        subst ev12
        exact aw_sub [] rfl kj34
      · refine aw_iconst C 3 dX0_standing_37 (by decide) ?_
        refine aw_goto C 42 dX0_standing_38 (by decide) ?_
        rw [if_neg c11] at ev12
        subst ev12
        exact aw_sub [] rfl kj34
    · rw [if_neg c7] at h
      refine aw_iconst C 1 dX0_standing_22 (by decide) ?_
      have e9 := inj1 h
      subst e9
      exact hret _ _ dX0_standing_23
  · rw [if_neg c4] at h
    refine aw_iconst C 2 dX0_standing_12 (by decide) ?_
    have e9 := inj1 h
    subst e9
    exact hret _ _ dX0_standing_13
set_option maxRecDepth 100000 in
set_option maxHeartbeats 4000000 in
theorem mt_X0_standing {G : GL} {l : Launch} {a0 : Nat} {x1 : Int32} {x2 : Int32} {μ : Mem} {r : Int32} (h : X0_standing a0 x1 x2 μ = some r) : MtI G l yX0_standing cX0_standing 3 (some .int) rm_X0_standing false [.ref (gZ G + a0), .int x1, .int x2] μ r μ := met_I (by decide) rfl rfl (Nat.le_of_ble_eq_true rfl) (fun X _ C _ _ hret => wk_X0_standing C h hret)
def X0_thingsThatAre_L5 (a0 : Nat) (x1 : Int32) (x2 : Int32) (μ : Mem) : Nat → Int32 → Int32 → Option (Int32 × Int32)
  | 0, _, _ => none
  | n + 1, x3, x4 =>
      (gI 0 2 a0 μ).bind fun v1 =>
      if v1 ≤ x4 then
      some ((x3, x4))
      else
      (vO 0 a0 μ).bind fun g3 =>
      (X0_standing a0 x4 x2 μ).bind fun v4 =>
      (some (if v4 = x1 then x3 + 1 else x3 : Int32)).bind fun v6 =>
      X0_thingsThatAre_L5 a0 x1 x2 μ n v6 (x4 + 1)
set_option maxRecDepth 100000 in
set_option maxHeartbeats 4000000 in
theorem X0_thingsThatAre_L5_ok {G : GL} {X : CX} (C : Ctx G X cX0_thingsThatAre 5 RX0 rm_X0_thingsThatAre) (a0 : Nat) (x1 : Int32) (x2 : Int32) (μ : Mem) : ∀ (n : Nat) (x3 : Int32) (x4 : Int32) (z : Int32 × Int32), X0_thingsThatAre_L5 a0 x1 x2 μ n x3 x4 = some z → AW G 5 X 0 0 34 [(0, .ref (gZ G + a0)), (1, .int x1), (2, .int x2), (3, .int z.1), (4, .int z.2)] [] μ → AW G 5 X 0 0 5 [(0, .ref (gZ G + a0)), (1, .int x1), (2, .int x2), (3, .int x3), (4, .int x4)] [] μ := by
  intro n
  induction n with
  | zero =>
    intro x3 x4 z h kx
    rw [X0_thingsThatAre_L5] at h
    cases h
  | succ n ih =>
    intro x3 x4 z h kx
    rw [X0_thingsThatAre_L5] at h
    refine aw_iload C 4 dX0_thingsThatAre_5 rfl ?_
    refine aw_aload_n C 0 dX0_thingsThatAre_7 rfl rfl ?_
    obtain ⟨v1, hv1, h⟩ := bindE h
    refine aw_gI C fl_X0_25 rfl hv1 dX0_thingsThatAre_8 ?_
    refine aw_icmp_ge C 34 dX0_thingsThatAre_11 (by decide) (fun c2 => ?_) (fun c2 => ?_)
    · rw [if_pos c2] at h
      have e9 := inj1 h
      subst e9
      exact aw_sub [0, 1, 2, 3, 4] rfl kx
    · rw [if_neg c2] at h
      refine aw_aload_n C 0 dX0_thingsThatAre_14 rfl rfl ?_
      refine aw_iload C 4 dX0_thingsThatAre_15 rfl ?_
      refine aw_iload_n C 2 dX0_thingsThatAre_17 rfl rfl ?_
      obtain ⟨g3, hg3, h⟩ := bindE h
      obtain ⟨v4, hv4, h⟩ := bindE h
      refine aw_cV_I C [.int x4, .int x2] _ (mt_X0_standing hv4) cs_X0_standing ml_X0_43 im_X0_standing se_X0_standing (ci := 0) rfl rfl hg3 ⟨by decide, by decide⟩ ⟨rfl, rfl⟩ ⟨Nat.zero_le _, Nat.zero_le _⟩ rfl rfl (Nat.le_of_ble_eq_true rfl) dX0_thingsThatAre_18 ?_
      refine aw_iload_n C 1 dX0_thingsThatAre_21 rfl rfl ?_
      obtain ⟨v6, ev6, h⟩ := bindS h
      have kj22 : AW G 5 X 0 0 28 [(0, .ref (gZ G + a0)), (1, .int x1), (2, .int x2), (3, .int v6), (4, .int x4)] [] μ := by
        refine aw_iinc C (x4 + 1) 4 [(4, .int (x4 + 1)), (0, .ref (gZ G + a0)), (1, .int x1), (2, .int x2), (3, .int v6)] dX0_thingsThatAre_28 rfl rfl (by decide) rfl ?_
        refine aw_goto C 5 dX0_thingsThatAre_31 (by decide) ?_
        exact aw_sub [1, 2, 3, 4, 0] rfl (ih _ _ _ h kx)
      clear h
      refine aw_icmp_ne C 28 dX0_thingsThatAre_22 (by decide) (fun c5 => ?_) (fun c5 => ?_)
      · rw [if_neg c5] at ev6
        subst ev6
        exact aw_sub [0, 1, 2, 3, 4] rfl kj22
      · refine aw_iinc C (x3 + 1) 3 [(3, .int (x3 + 1)), (0, .ref (gZ G + a0)), (1, .int x1), (2, .int x2), (4, .int x4)] dX0_thingsThatAre_25 rfl rfl (by decide) rfl ?_
        rw [if_pos c5] at ev6
        subst ev6
        exact aw_sub [1, 2, 3, 0, 4] rfl kj22
def X0_thingsThatAre (a0 : Nat) (x1 : Int32) (x2 : Int32) (μ : Mem) : Option Int32 :=
  (X0_thingsThatAre_L5 a0 x1 x2 μ FU 0 0).bind fun z1 =>
  some (z1.1)
set_option maxRecDepth 100000 in
set_option maxHeartbeats 4000000 in
theorem wk_X0_thingsThatAre {G : GL} {X : CX} {a0 : Nat} {x1 : Int32} {x2 : Int32} {μ : Mem} {r : Int32} (C : Ctx G X cX0_thingsThatAre 5 RX0 rm_X0_thingsThatAre) (h : X0_thingsThatAre a0 x1 x2 μ = some r) (hret : RtI G 5 X cX0_thingsThatAre 0 0 r μ) : AW G 5 X 0 0 0 [(0, .ref (gZ G + a0)), (1, .int x1), (2, .int x2)] [] μ := by
  unfold X0_thingsThatAre at h
  refine aw_iconst C 0 dX0_thingsThatAre_0 (by decide) ?_
  refine aw_istore_n C [(3, .int 0), (0, .ref (gZ G + a0)), (1, .int x1), (2, .int x2)] dX0_thingsThatAre_1 rfl (by decide) rfl ?_
  refine aw_iconst C 0 dX0_thingsThatAre_2 (by decide) ?_
  refine aw_istore C [(4, .int 0), (3, .int 0), (0, .ref (gZ G + a0)), (1, .int x1), (2, .int x2)] dX0_thingsThatAre_3 (by decide) rfl ?_
  obtain ⟨z1, hz1, h⟩ := bindE h
  refine aw_sub [2, 3, 4, 1, 0] rfl ?_
  refine X0_thingsThatAre_L5_ok C _ _ _ _ _ _ _ _ hz1 ?_
  refine aw_iload_n C 3 dX0_thingsThatAre_34 rfl rfl ?_
  have e9 := inj1 h
  subst e9
  exact hret _ _ dX0_thingsThatAre_35
set_option maxRecDepth 100000 in
set_option maxHeartbeats 4000000 in
theorem mt_X0_thingsThatAre {G : GL} {l : Launch} {a0 : Nat} {x1 : Int32} {x2 : Int32} {μ : Mem} {r : Int32} (h : X0_thingsThatAre a0 x1 x2 μ = some r) : MtI G l yX0_thingsThatAre cX0_thingsThatAre 5 (some .int) rm_X0_thingsThatAre false [.ref (gZ G + a0), .int x1, .int x2] μ r μ := met_I (by decide) rfl rfl (Nat.le_of_ble_eq_true rfl) (fun X _ C _ _ hret => wk_X0_thingsThatAre C h hret)
def X0_sayingsWith_L4 (a0 : Nat) (x1 : Int32) (μ : Mem) : Nat → Int32 → Int32 → Option (Int32 × Int32)
  | 0, _, _ => none
  | n + 1, x2, x3 =>
      (gI 0 3 a0 μ).bind fun v1 =>
      if v1 ≤ x3 then
      some ((x2, x3))
      else
      (gR 0 1 a0 μ).bind fun v3 =>
      (aR 5 v3 x3 μ).bind fun v4 =>
      (gI 5 1 v4 μ).bind fun v5 =>
      (some (if (X10_contains v5 x1) = 0 then x2 else x2 + 1 : Int32)).bind fun v7 =>
      X0_sayingsWith_L4 a0 x1 μ n v7 (x3 + 1)
set_option maxRecDepth 100000 in
set_option maxHeartbeats 4000000 in
theorem X0_sayingsWith_L4_ok {G : GL} {X : CX} (C : Ctx G X cX0_sayingsWith 4 RX0 rm_X0_sayingsWith) (a0 : Nat) (x1 : Int32) (μ : Mem) : ∀ (n : Nat) (x2 : Int32) (x3 : Int32) (z : Int32 × Int32), X0_sayingsWith_L4 a0 x1 μ n x2 x3 = some z → AW G 4 X 0 0 37 [(0, .ref (gZ G + a0)), (1, .int x1), (2, .int z.1), (3, .int z.2)] [] μ → AW G 4 X 0 0 4 [(0, .ref (gZ G + a0)), (1, .int x1), (2, .int x2), (3, .int x3)] [] μ := by
  intro n
  induction n with
  | zero =>
    intro x2 x3 z h kx
    rw [X0_sayingsWith_L4] at h
    cases h
  | succ n ih =>
    intro x2 x3 z h kx
    rw [X0_sayingsWith_L4] at h
    refine aw_iload_n C 3 dX0_sayingsWith_4 rfl rfl ?_
    refine aw_aload_n C 0 dX0_sayingsWith_5 rfl rfl ?_
    obtain ⟨v1, hv1, h⟩ := bindE h
    refine aw_gI C fl_X0_29 rfl hv1 dX0_sayingsWith_6 ?_
    refine aw_icmp_ge C 37 dX0_sayingsWith_9 (by decide) (fun c2 => ?_) (fun c2 => ?_)
    · rw [if_pos c2] at h
      have e9 := inj1 h
      subst e9
      exact aw_sub [0, 1, 2, 3] rfl kx
    · rw [if_neg c2] at h
      refine aw_aload_n C 0 dX0_sayingsWith_12 rfl rfl ?_
      obtain ⟨v3, hv3, h⟩ := bindE h
      refine aw_gR C fl_X0_19 rfl hv3 dX0_sayingsWith_13 ?_
      refine aw_iload_n C 3 dX0_sayingsWith_16 rfl rfl ?_
      obtain ⟨v4, hv4, h⟩ := bindE h
      refine aw_aR C (by decide) (ty := .object RX5) rfl rfl hv4 dX0_sayingsWith_17 ?_
      obtain ⟨v5, hv5, h⟩ := bindE h
      refine aw_gI C fl_X0_47 rfl hv5 dX0_sayingsWith_18 ?_
      refine aw_iload_n C 1 dX0_sayingsWith_21 rfl rfl ?_
      refine aw_cSN_I C [.int v5, .int x1] _ (mt_X10_contains _ _) cs_X10_contains ml_X0_50 st_X10_contains ⟨by decide, by decide⟩ ⟨rfl, rfl⟩ ⟨Nat.zero_le _, Nat.zero_le _⟩ rfl rfl (Nat.le_of_ble_eq_true rfl) dX0_sayingsWith_22 ?_
      obtain ⟨v7, ev7, h⟩ := bindS h
      have kj25 : AW G 4 X 0 0 31 [(0, .ref (gZ G + a0)), (1, .int x1), (2, .int v7), (3, .int x3)] [] μ := by
        refine aw_iinc C (x3 + 1) 3 [(3, .int (x3 + 1)), (0, .ref (gZ G + a0)), (1, .int x1), (2, .int v7)] dX0_sayingsWith_31 rfl rfl (by decide) rfl ?_
        refine aw_goto C 4 dX0_sayingsWith_34 (by decide) ?_
        exact aw_sub [1, 2, 3, 0] rfl (ih _ _ _ h kx)
      clear h
      refine aw_if_eq C 31 dX0_sayingsWith_25 (by decide) (fun c6 => ?_) (fun c6 => ?_)
      · rw [if_pos c6] at ev7
        subst ev7
        exact aw_sub [0, 1, 2, 3] rfl kj25
      · refine aw_iinc C (x2 + 1) 2 [(2, .int (x2 + 1)), (0, .ref (gZ G + a0)), (1, .int x1), (3, .int x3)] dX0_sayingsWith_28 rfl rfl (by decide) rfl ?_
        rw [if_neg c6] at ev7
        subst ev7
        exact aw_sub [1, 2, 0, 3] rfl kj25
def X0_sayingsWith (a0 : Nat) (x1 : Int32) (μ : Mem) : Option Int32 :=
  (X0_sayingsWith_L4 a0 x1 μ FU 0 0).bind fun z1 =>
  some (z1.1)
set_option maxRecDepth 100000 in
set_option maxHeartbeats 4000000 in
theorem wk_X0_sayingsWith {G : GL} {X : CX} {a0 : Nat} {x1 : Int32} {μ : Mem} {r : Int32} (C : Ctx G X cX0_sayingsWith 4 RX0 rm_X0_sayingsWith) (h : X0_sayingsWith a0 x1 μ = some r) (hret : RtI G 4 X cX0_sayingsWith 0 0 r μ) : AW G 4 X 0 0 0 [(0, .ref (gZ G + a0)), (1, .int x1)] [] μ := by
  unfold X0_sayingsWith at h
  refine aw_iconst C 0 dX0_sayingsWith_0 (by decide) ?_
  refine aw_istore_n C [(2, .int 0), (0, .ref (gZ G + a0)), (1, .int x1)] dX0_sayingsWith_1 rfl (by decide) rfl ?_
  refine aw_iconst C 0 dX0_sayingsWith_2 (by decide) ?_
  refine aw_istore_n C [(3, .int 0), (2, .int 0), (0, .ref (gZ G + a0)), (1, .int x1)] dX0_sayingsWith_3 rfl (by decide) rfl ?_
  obtain ⟨z1, hz1, h⟩ := bindE h
  refine aw_sub [2, 3, 1, 0] rfl ?_
  refine X0_sayingsWith_L4_ok C _ _ _ _ _ _ _ hz1 ?_
  refine aw_iload_n C 2 dX0_sayingsWith_37 rfl rfl ?_
  have e9 := inj1 h
  subst e9
  exact hret _ _ dX0_sayingsWith_38
set_option maxRecDepth 100000 in
set_option maxHeartbeats 4000000 in
theorem mt_X0_sayingsWith {G : GL} {l : Launch} {a0 : Nat} {x1 : Int32} {μ : Mem} {r : Int32} (h : X0_sayingsWith a0 x1 μ = some r) : MtI G l yX0_sayingsWith cX0_sayingsWith 4 (some .int) rm_X0_sayingsWith false [.ref (gZ G + a0), .int x1] μ r μ := met_I (by decide) rfl rfl (Nat.le_of_ble_eq_true rfl) (fun X _ C _ _ hret => wk_X0_sayingsWith C h hret)
def X0_personsWith_L4 (a0 : Nat) (x1 : Int32) (μ : Mem) : Nat → Int32 → Int32 → Option (Int32 × Int32)
  | 0, _, _ => none
  | n + 1, x2, x3 =>
      (gI 0 3 a0 μ).bind fun v1 =>
      if v1 ≤ x3 then
      some ((x2, x3))
      else
      (gR 0 1 a0 μ).bind fun v3 =>
      (aR 5 v3 x3 μ).bind fun v4 =>
      (gI 5 1 v4 μ).bind fun v5 =>
      ((if (X10_contains v5 x1) = 0 then
      some x2
      else
      (gR 0 1 a0 μ).bind fun v7 =>
      (aR 5 v7 x3 μ).bind fun v8 =>
      (gI 5 0 v8 μ).bind fun v9 =>
      some (x2 ||| (1 <<< (v9 &&& 31)))) : Option (Int32)).bind fun z10 =>
      X0_personsWith_L4 a0 x1 μ n z10 (x3 + 1)
set_option maxRecDepth 100000 in
set_option maxHeartbeats 4000000 in
theorem X0_personsWith_L4_ok {G : GL} {X : CX} (C : Ctx G X cX0_personsWith 4 RX0 rm_X0_personsWith) (a0 : Nat) (x1 : Int32) (μ : Mem) : ∀ (n : Nat) (x2 : Int32) (x3 : Int32) (z : Int32 × Int32), X0_personsWith_L4 a0 x1 μ n x2 x3 = some z → AW G 4 X 0 0 48 [(0, .ref (gZ G + a0)), (1, .int x1), (2, .int z.1), (3, .int z.2)] [] μ → AW G 4 X 0 0 4 [(0, .ref (gZ G + a0)), (1, .int x1), (2, .int x2), (3, .int x3)] [] μ := by
  intro n
  induction n with
  | zero =>
    intro x2 x3 z h kx
    rw [X0_personsWith_L4] at h
    cases h
  | succ n ih =>
    intro x2 x3 z h kx
    rw [X0_personsWith_L4] at h
    refine aw_iload_n C 3 dX0_personsWith_4 rfl rfl ?_
    refine aw_aload_n C 0 dX0_personsWith_5 rfl rfl ?_
    obtain ⟨v1, hv1, h⟩ := bindE h
    refine aw_gI C fl_X0_29 rfl hv1 dX0_personsWith_6 ?_
    refine aw_icmp_ge C 48 dX0_personsWith_9 (by decide) (fun c2 => ?_) (fun c2 => ?_)
    · rw [if_pos c2] at h
      have e9 := inj1 h
      subst e9
      exact aw_sub [0, 1, 2, 3] rfl kx
    · rw [if_neg c2] at h
      refine aw_aload_n C 0 dX0_personsWith_12 rfl rfl ?_
      obtain ⟨v3, hv3, h⟩ := bindE h
      refine aw_gR C fl_X0_19 rfl hv3 dX0_personsWith_13 ?_
      refine aw_iload_n C 3 dX0_personsWith_16 rfl rfl ?_
      obtain ⟨v4, hv4, h⟩ := bindE h
      refine aw_aR C (by decide) (ty := .object RX5) rfl rfl hv4 dX0_personsWith_17 ?_
      obtain ⟨v5, hv5, h⟩ := bindE h
      refine aw_gI C fl_X0_47 rfl hv5 dX0_personsWith_18 ?_
      refine aw_iload_n C 1 dX0_personsWith_21 rfl rfl ?_
      refine aw_cSN_I C [.int v5, .int x1] _ (mt_X10_contains _ _) cs_X10_contains ml_X0_50 st_X10_contains ⟨by decide, by decide⟩ ⟨rfl, rfl⟩ ⟨Nat.zero_le _, Nat.zero_le _⟩ rfl rfl (Nat.le_of_ble_eq_true rfl) dX0_personsWith_22 ?_
      obtain ⟨z10, hz10, h⟩ := bindE h
      have kj25 : AW G 4 X 0 0 42 [(0, .ref (gZ G + a0)), (1, .int x1), (2, .int z10), (3, .int x3)] [] μ := by
        refine aw_iinc C (x3 + 1) 3 [(3, .int (x3 + 1)), (0, .ref (gZ G + a0)), (1, .int x1), (2, .int z10)] dX0_personsWith_42 rfl rfl (by decide) rfl ?_
        refine aw_goto C 4 dX0_personsWith_45 (by decide) ?_
        exact aw_sub [1, 2, 3, 0] rfl (ih _ _ _ h kx)
      replace h := hz10
      refine aw_if_eq C 42 dX0_personsWith_25 (by decide) (fun c6 => ?_) (fun c6 => ?_)
      · rw [if_pos c6] at h
        have e9 := inj1 h
        subst e9
        exact aw_sub [0, 1, 2, 3] rfl kj25
      · rw [if_neg c6] at h
        refine aw_iload_n C 2 dX0_personsWith_28 rfl rfl ?_
        refine aw_iconst C 1 dX0_personsWith_29 (by decide) ?_
        refine aw_aload_n C 0 dX0_personsWith_30 rfl rfl ?_
        obtain ⟨v7, hv7, h⟩ := bindE h
        refine aw_gR C fl_X0_19 rfl hv7 dX0_personsWith_31 ?_
        refine aw_iload_n C 3 dX0_personsWith_34 rfl rfl ?_
        obtain ⟨v8, hv8, h⟩ := bindE h
        refine aw_aR C (by decide) (ty := .object RX5) rfl rfl hv8 dX0_personsWith_35 ?_
        obtain ⟨v9, hv9, h⟩ := bindE h
        refine aw_gI C fl_X0_57 rfl hv9 dX0_personsWith_36 ?_
        refine aw_ishl C dX0_personsWith_39 ?_
        refine aw_ior C dX0_personsWith_40 ?_
        refine aw_istore_n C [(2, .int (x2 ||| (1 <<< (v9 &&& 31)))), (0, .ref (gZ G + a0)), (1, .int x1), (3, .int x3)] dX0_personsWith_41 rfl (by decide) rfl ?_
        have e9 := inj1 h
        subst e9
        exact aw_sub [1, 2, 0, 3] rfl kj25
def X0_personsWith (a0 : Nat) (x1 : Int32) (μ : Mem) : Option Int32 :=
  (X0_personsWith_L4 a0 x1 μ FU 0 0).bind fun z1 =>
  some (z1.1)
set_option maxRecDepth 100000 in
set_option maxHeartbeats 4000000 in
theorem wk_X0_personsWith {G : GL} {X : CX} {a0 : Nat} {x1 : Int32} {μ : Mem} {r : Int32} (C : Ctx G X cX0_personsWith 4 RX0 rm_X0_personsWith) (h : X0_personsWith a0 x1 μ = some r) (hret : RtI G 4 X cX0_personsWith 0 0 r μ) : AW G 4 X 0 0 0 [(0, .ref (gZ G + a0)), (1, .int x1)] [] μ := by
  unfold X0_personsWith at h
  refine aw_iconst C 0 dX0_personsWith_0 (by decide) ?_
  refine aw_istore_n C [(2, .int 0), (0, .ref (gZ G + a0)), (1, .int x1)] dX0_personsWith_1 rfl (by decide) rfl ?_
  refine aw_iconst C 0 dX0_personsWith_2 (by decide) ?_
  refine aw_istore_n C [(3, .int 0), (2, .int 0), (0, .ref (gZ G + a0)), (1, .int x1)] dX0_personsWith_3 rfl (by decide) rfl ?_
  obtain ⟨z1, hz1, h⟩ := bindE h
  refine aw_sub [2, 3, 1, 0] rfl ?_
  refine X0_personsWith_L4_ok C _ _ _ _ _ _ _ hz1 ?_
  refine aw_iload_n C 2 dX0_personsWith_48 rfl rfl ?_
  have e9 := inj1 h
  subst e9
  exact hret _ _ dX0_personsWith_49
set_option maxRecDepth 100000 in
set_option maxHeartbeats 4000000 in
theorem mt_X0_personsWith {G : GL} {l : Launch} {a0 : Nat} {x1 : Int32} {μ : Mem} {r : Int32} (h : X0_personsWith a0 x1 μ = some r) : MtI G l yX0_personsWith cX0_personsWith 4 (some .int) rm_X0_personsWith false [.ref (gZ G + a0), .int x1] μ r μ := met_I (by decide) rfl rfl (Nat.le_of_ble_eq_true rfl) (fun X _ C _ _ hret => wk_X0_personsWith C h hret)
def X0_deadThings_L4 (a0 : Nat) (μ : Mem) : Nat → Int32 → Int32 → Option (Int32 × Int32)
  | 0, _, _ => none
  | n + 1, x1, x2 =>
      (gI 0 2 a0 μ).bind fun v1 =>
      if v1 ≤ x2 then
      some ((x1, x2))
      else
      (gR 0 0 a0 μ).bind fun v3 =>
      (aR 6 v3 x2 μ).bind fun v4 =>
      (gI 6 8 v4 μ).bind fun v5 =>
      (some (if v5 = 0 then x1 else x1 ||| (1 <<< (x2 &&& 31)) : Int32)).bind fun v7 =>
      X0_deadThings_L4 a0 μ n v7 (x2 + 1)
set_option maxRecDepth 100000 in
set_option maxHeartbeats 4000000 in
theorem X0_deadThings_L4_ok {G : GL} {X : CX} (C : Ctx G X cX0_deadThings 3 RX0 rm_X0_deadThings) (a0 : Nat) (μ : Mem) : ∀ (n : Nat) (x1 : Int32) (x2 : Int32) (z : Int32 × Int32), X0_deadThings_L4 a0 μ n x1 x2 = some z → AW G 3 X 0 0 36 [(0, .ref (gZ G + a0)), (1, .int z.1), (2, .int z.2)] [] μ → AW G 3 X 0 0 4 [(0, .ref (gZ G + a0)), (1, .int x1), (2, .int x2)] [] μ := by
  intro n
  induction n with
  | zero =>
    intro x1 x2 z h kx
    rw [X0_deadThings_L4] at h
    cases h
  | succ n ih =>
    intro x1 x2 z h kx
    rw [X0_deadThings_L4] at h
    refine aw_iload_n C 2 dX0_deadThings_4 rfl rfl ?_
    refine aw_aload_n C 0 dX0_deadThings_5 rfl rfl ?_
    obtain ⟨v1, hv1, h⟩ := bindE h
    refine aw_gI C fl_X0_25 rfl hv1 dX0_deadThings_6 ?_
    refine aw_icmp_ge C 36 dX0_deadThings_9 (by decide) (fun c2 => ?_) (fun c2 => ?_)
    · rw [if_pos c2] at h
      have e9 := inj1 h
      subst e9
      exact aw_sub [0, 1, 2] rfl kx
    · rw [if_neg c2] at h
      refine aw_aload_n C 0 dX0_deadThings_12 rfl rfl ?_
      obtain ⟨v3, hv3, h⟩ := bindE h
      refine aw_gR C fl_X0_11 rfl hv3 dX0_deadThings_13 ?_
      refine aw_iload_n C 2 dX0_deadThings_16 rfl rfl ?_
      obtain ⟨v4, hv4, h⟩ := bindE h
      refine aw_aR C (by decide) (ty := .object RX6) rfl rfl hv4 dX0_deadThings_17 ?_
      obtain ⟨v5, hv5, h⟩ := bindE h
      refine aw_gI C fl_X0_32 rfl hv5 dX0_deadThings_18 ?_
      obtain ⟨v7, ev7, h⟩ := bindS h
      have kj21 : AW G 3 X 0 0 30 [(0, .ref (gZ G + a0)), (1, .int v7), (2, .int x2)] [] μ := by
        refine aw_iinc C (x2 + 1) 2 [(2, .int (x2 + 1)), (0, .ref (gZ G + a0)), (1, .int v7)] dX0_deadThings_30 rfl rfl (by decide) rfl ?_
        refine aw_goto C 4 dX0_deadThings_33 (by decide) ?_
        exact aw_sub [1, 2, 0] rfl (ih _ _ _ h kx)
      clear h
      refine aw_if_eq C 30 dX0_deadThings_21 (by decide) (fun c6 => ?_) (fun c6 => ?_)
      · rw [if_pos c6] at ev7
        subst ev7
        exact aw_sub [0, 1, 2] rfl kj21
      · refine aw_iload_n C 1 dX0_deadThings_24 rfl rfl ?_
        refine aw_iconst C 1 dX0_deadThings_25 (by decide) ?_
        refine aw_iload_n C 2 dX0_deadThings_26 rfl rfl ?_
        refine aw_ishl C dX0_deadThings_27 ?_
        refine aw_ior C dX0_deadThings_28 ?_
        refine aw_istore_n C [(1, .int (x1 ||| (1 <<< (x2 &&& 31)))), (0, .ref (gZ G + a0)), (2, .int x2)] dX0_deadThings_29 rfl (by decide) rfl ?_
        rw [if_neg c6] at ev7
        subst ev7
        exact aw_sub [1, 0, 2] rfl kj21
def X0_deadThings (a0 : Nat) (μ : Mem) : Option Int32 :=
  (X0_deadThings_L4 a0 μ FU 0 0).bind fun z1 =>
  some (z1.1)
set_option maxRecDepth 100000 in
set_option maxHeartbeats 4000000 in
theorem wk_X0_deadThings {G : GL} {X : CX} {a0 : Nat} {μ : Mem} {r : Int32} (C : Ctx G X cX0_deadThings 3 RX0 rm_X0_deadThings) (h : X0_deadThings a0 μ = some r) (hret : RtI G 3 X cX0_deadThings 0 0 r μ) : AW G 3 X 0 0 0 [(0, .ref (gZ G + a0))] [] μ := by
  unfold X0_deadThings at h
  refine aw_iconst C 0 dX0_deadThings_0 (by decide) ?_
  refine aw_istore_n C [(1, .int 0), (0, .ref (gZ G + a0))] dX0_deadThings_1 rfl (by decide) rfl ?_
  refine aw_iconst C 0 dX0_deadThings_2 (by decide) ?_
  refine aw_istore_n C [(2, .int 0), (1, .int 0), (0, .ref (gZ G + a0))] dX0_deadThings_3 rfl (by decide) rfl ?_
  obtain ⟨z1, hz1, h⟩ := bindE h
  refine aw_sub [2, 1, 0] rfl ?_
  refine X0_deadThings_L4_ok C _ _ _ _ _ _ hz1 ?_
  refine aw_iload_n C 1 dX0_deadThings_36 rfl rfl ?_
  have e9 := inj1 h
  subst e9
  exact hret _ _ dX0_deadThings_37
set_option maxRecDepth 100000 in
set_option maxHeartbeats 4000000 in
theorem mt_X0_deadThings {G : GL} {l : Launch} {a0 : Nat} {μ : Mem} {r : Int32} (h : X0_deadThings a0 μ = some r) : MtI G l yX0_deadThings cX0_deadThings 3 (some .int) rm_X0_deadThings false [.ref (gZ G + a0)] μ r μ := met_I (by decide) rfl rfl (Nat.le_of_ble_eq_true rfl) (fun X _ C _ _ hret => wk_X0_deadThings C h hret)
def X0_canBeSaid_L5 (a0 : Nat) (x1 : Int32) (x2 : Int32) (μ : Mem) : Nat → Int32 → Int32 → Option (Int32)
  | 0, _, _ => none
  | n + 1, x3, x4 =>
      (gI 0 2 a0 μ).bind fun v1 =>
      if v1 ≤ x4 then
      some 1
      else
      if (X10_contains x1 x4) = 0 then
      X0_canBeSaid_L5 a0 x1 x2 μ n x3 (x4 + 1)
      else
      (gR 0 0 a0 μ).bind fun v4 =>
      (aR 6 v4 x4 μ).bind fun v5 =>
      (gI 6 8 v5 μ).bind fun v6 =>
      if v6 = 0 then
      (gI 6 0 v5 μ).bind fun v8 =>
      if (X10_contains v8 x2) = 0 then
      some 0
      else
      if x3 = ((-1)) then
      (gI 6 2 v5 μ).bind fun v11 =>
      X0_canBeSaid_L5 a0 x1 x2 μ n v11 (x4 + 1)
      else
      (gI 6 2 v5 μ).bind fun v12 =>
      if x3 = v12 then
      (gI 6 2 v5 μ).bind fun v14 =>
      X0_canBeSaid_L5 a0 x1 x2 μ n v14 (x4 + 1)
      else
      some 0
      else
      some 0
set_option maxRecDepth 100000 in
set_option maxHeartbeats 4000000 in
theorem X0_canBeSaid_L5_ok {G : GL} {X : CX} (C : Ctx G X cX0_canBeSaid 6 RX0 rm_X0_canBeSaid) {r : Int32} {μ : Mem} (hret : RtZ G 6 X cX0_canBeSaid 0 0 r μ) (a0 : Nat) (x1 : Int32) (x2 : Int32) : ∀ (n : Nat) (x3 : Int32) (x4 : Int32), X0_canBeSaid_L5 a0 x1 x2 μ n x3 x4 = some r → AW G 6 X 0 0 5 [(0, .ref (gZ G + a0)), (1, .int x1), (2, .int x2), (3, .int x3), (4, .int x4)] [] μ := by
  intro n
  induction n with
  | zero =>
    intro x3 x4 h
    rw [X0_canBeSaid_L5] at h
    cases h
  | succ n ih =>
    intro x3 x4 h
    rw [X0_canBeSaid_L5] at h
    refine aw_iload C 4 dX0_canBeSaid_5 rfl ?_
    refine aw_aload_n C 0 dX0_canBeSaid_7 rfl rfl ?_
    obtain ⟨v1, hv1, h⟩ := bindE h
    refine aw_gI C fl_X0_25 rfl hv1 dX0_canBeSaid_8 ?_
    refine aw_icmp_ge C 82 dX0_canBeSaid_11 (by decide) (fun c2 => ?_) (fun c2 => ?_)
    · rw [if_pos c2] at h
      refine aw_iconst C 1 dX0_canBeSaid_82 (by decide) ?_
      have e9 := inj1 h
      subst e9
      exact hret _ _ dX0_canBeSaid_83 (Or.inr rfl)
    · rw [if_neg c2] at h
      refine aw_iload_n C 1 dX0_canBeSaid_14 rfl rfl ?_
      refine aw_iload C 4 dX0_canBeSaid_15 rfl ?_
      refine aw_cSN_I C [.int x1, .int x4] _ (mt_X10_contains _ _) cs_X10_contains ml_X0_50 st_X10_contains ⟨by decide, by decide⟩ ⟨rfl, rfl⟩ ⟨Nat.zero_le _, Nat.zero_le _⟩ rfl rfl (Nat.le_of_ble_eq_true rfl) dX0_canBeSaid_17 ?_
      refine aw_if_eq C 76 dX0_canBeSaid_20 (by decide) (fun c3 => ?_) (fun c3 => ?_)
      · rw [if_pos c3] at h
        refine aw_iinc C (x4 + 1) 4 [(4, .int (x4 + 1)), (0, .ref (gZ G + a0)), (1, .int x1), (2, .int x2), (3, .int x3)] dX0_canBeSaid_76 rfl rfl (by decide) rfl ?_
        refine aw_goto C 5 dX0_canBeSaid_79 (by decide) ?_
        exact aw_sub [1, 2, 3, 4, 0] rfl (ih _ _ h)
      · rw [if_neg c3] at h
        refine aw_aload_n C 0 dX0_canBeSaid_23 rfl rfl ?_
        obtain ⟨v4, hv4, h⟩ := bindE h
        refine aw_gR C fl_X0_11 rfl hv4 dX0_canBeSaid_24 ?_
        refine aw_iload C 4 dX0_canBeSaid_27 rfl ?_
        obtain ⟨v5, hv5, h⟩ := bindE h
        refine aw_aR C (by decide) (ty := .object RX6) rfl rfl hv5 dX0_canBeSaid_29 ?_
        refine aw_astore C [(5, .ref (gZ G + v5)), (0, .ref (gZ G + a0)), (1, .int x1), (2, .int x2), (3, .int x3), (4, .int x4)] dX0_canBeSaid_30 (by decide) rfl ?_
        refine aw_aload C 0 dX0_canBeSaid_32 rfl ?_
        obtain ⟨v6, hv6, h⟩ := bindE h
        refine aw_gI C fl_X0_32 rfl hv6 dX0_canBeSaid_34 ?_
        refine aw_if_ne C 52 dX0_canBeSaid_37 (by decide) (fun c7 => ?_) (fun c7 => ?_)
        · rw [if_neg c7] at h
          refine aw_iconst C 0 dX0_canBeSaid_52 (by decide) ?_
          have e9 := inj1 h
          subst e9
          exact hret _ _ dX0_canBeSaid_53 (Or.inl rfl)
        · rw [if_pos c7] at h
          refine aw_aload C 0 dX0_canBeSaid_40 rfl ?_
          obtain ⟨v8, hv8, h⟩ := bindE h
          refine aw_gI C fl_X0_69 rfl hv8 dX0_canBeSaid_42 ?_
          refine aw_iload_n C 3 dX0_canBeSaid_45 rfl rfl ?_
          refine aw_cSN_I C [.int v8, .int x2] _ (mt_X10_contains _ _) cs_X10_contains ml_X0_50 st_X10_contains ⟨by decide, by decide⟩ ⟨rfl, rfl⟩ ⟨Nat.zero_le _, Nat.zero_le _⟩ rfl rfl (Nat.le_of_ble_eq_true rfl) dX0_canBeSaid_46 ?_
          refine aw_if_ne C 54 dX0_canBeSaid_49 (by decide) (fun c9 => ?_) (fun c9 => ?_)
          · rw [if_neg c9] at h
            refine aw_iload_n C 4 dX0_canBeSaid_54 rfl rfl ?_
            refine aw_iconst C ((-1)) dX0_canBeSaid_55 (by decide) ?_
            refine aw_icmp_eq C 70 dX0_canBeSaid_56 (by decide) (fun c10 => ?_) (fun c10 => ?_)
            · rw [if_pos c10] at h
              refine aw_aload C 0 dX0_canBeSaid_70 rfl ?_
              obtain ⟨v11, hv11, h⟩ := bindE h
              refine aw_gI C fl_X0_72 rfl hv11 dX0_canBeSaid_72 ?_
              refine aw_istore_n C [(3, .int v11), (5, .ref (gZ G + v5)), (0, .ref (gZ G + a0)), (1, .int x1), (2, .int x2), (4, .int x4)] dX0_canBeSaid_75 rfl (by decide) rfl ?_
              refine aw_iinc C (x4 + 1) 5 [(4, .int (x4 + 1)), (3, .int v11), (5, .ref (gZ G + v5)), (0, .ref (gZ G + a0)), (1, .int x1), (2, .int x2)] dX0_canBeSaid_76 rfl rfl (by decide) rfl ?_
              refine aw_goto C 5 dX0_canBeSaid_79 (by decide) ?_
              exact aw_sub [3, 4, 5, 1, 0] rfl (ih _ _ h)
            · rw [if_neg c10] at h
              refine aw_iload_n C 4 dX0_canBeSaid_59 rfl rfl ?_
              refine aw_aload C 0 dX0_canBeSaid_60 rfl ?_
              obtain ⟨v12, hv12, h⟩ := bindE h
              refine aw_gI C fl_X0_72 rfl hv12 dX0_canBeSaid_62 ?_
              refine aw_icmp_eq C 70 dX0_canBeSaid_65 (by decide) (fun c13 => ?_) (fun c13 => ?_)
              · rw [if_pos c13] at h
                refine aw_aload C 0 dX0_canBeSaid_70 rfl ?_
                obtain ⟨v14, hv14, h⟩ := bindE h
                refine aw_gI C fl_X0_72 rfl hv14 dX0_canBeSaid_72 ?_
                refine aw_istore_n C [(3, .int v14), (5, .ref (gZ G + v5)), (0, .ref (gZ G + a0)), (1, .int x1), (2, .int x2), (4, .int x4)] dX0_canBeSaid_75 rfl (by decide) rfl ?_
                refine aw_iinc C (x4 + 1) 5 [(4, .int (x4 + 1)), (3, .int v14), (5, .ref (gZ G + v5)), (0, .ref (gZ G + a0)), (1, .int x1), (2, .int x2)] dX0_canBeSaid_76 rfl rfl (by decide) rfl ?_
                refine aw_goto C 5 dX0_canBeSaid_79 (by decide) ?_
                exact aw_sub [3, 4, 5, 1, 0] rfl (ih _ _ h)
              · rw [if_neg c13] at h
                refine aw_iconst C 0 dX0_canBeSaid_68 (by decide) ?_
                have e9 := inj1 h
                subst e9
                exact hret _ _ dX0_canBeSaid_69 (Or.inl rfl)
          · rw [if_pos c9] at h
            refine aw_iconst C 0 dX0_canBeSaid_52 (by decide) ?_
            have e9 := inj1 h
            subst e9
            exact hret _ _ dX0_canBeSaid_53 (Or.inl rfl)
def X0_canBeSaid (a0 : Nat) (x1 : Int32) (x2 : Int32) (μ : Mem) : Option Int32 :=
  X0_canBeSaid_L5 a0 x1 x2 μ FU ((-1)) 0
set_option maxRecDepth 100000 in
set_option maxHeartbeats 4000000 in
theorem wk_X0_canBeSaid {G : GL} {X : CX} {a0 : Nat} {x1 : Int32} {x2 : Int32} {μ : Mem} {r : Int32} (C : Ctx G X cX0_canBeSaid 6 RX0 rm_X0_canBeSaid) (h : X0_canBeSaid a0 x1 x2 μ = some r) (hret : RtZ G 6 X cX0_canBeSaid 0 0 r μ) : AW G 6 X 0 0 0 [(0, .ref (gZ G + a0)), (1, .int x1), (2, .int x2)] [] μ := by
  unfold X0_canBeSaid at h
  refine aw_iconst C ((-1)) dX0_canBeSaid_0 (by decide) ?_
  refine aw_istore_n C [(3, .int ((-1))), (0, .ref (gZ G + a0)), (1, .int x1), (2, .int x2)] dX0_canBeSaid_1 rfl (by decide) rfl ?_
  refine aw_iconst C 0 dX0_canBeSaid_2 (by decide) ?_
  refine aw_istore C [(4, .int 0), (3, .int ((-1))), (0, .ref (gZ G + a0)), (1, .int x1), (2, .int x2)] dX0_canBeSaid_3 (by decide) rfl ?_
  refine aw_sub [2, 3, 4, 1, 0] rfl ?_
  exact X0_canBeSaid_L5_ok C hret _ _ _ _ _ _ h
set_option maxRecDepth 100000 in
set_option maxHeartbeats 4000000 in
theorem mt_X0_canBeSaid {G : GL} {l : Launch} {a0 : Nat} {x1 : Int32} {x2 : Int32} {μ : Mem} {r : Int32} (h : X0_canBeSaid a0 x1 x2 μ = some r) : MtI G l yX0_canBeSaid cX0_canBeSaid 6 (some .boolean) rm_X0_canBeSaid false [.ref (gZ G + a0), .int x1, .int x2] μ r μ := met_Z (by decide) rfl (Nat.le_of_ble_eq_true rfl) (fun X _ C _ _ hret => wk_X0_canBeSaid C h hret)
def X0_countSaid_L2 (a0 : Nat) (x1 : Int32) (a2 : Nat) : Nat → Int32 → Mem → Option (Int32 × Mem)
  | 0, _, _ => none
  | n + 1, x3, μ =>
      (aL a2 μ).bind fun v1 =>
      if v1 ≤ x3 then
      some ((x3, μ))
      else
      (sI a2 x3 0 μ).bind fun μ3 =>
      X0_countSaid_L2 a0 x1 a2 n (x3 + 1) μ3
set_option maxRecDepth 100000 in
set_option maxHeartbeats 4000000 in
theorem X0_countSaid_L2_ok {G : GL} {X : CX} (C : Ctx G X cX0_countSaid 5 RX0 rm_X0_countSaid) (a0 : Nat) (x1 : Int32) (a2 : Nat) : ∀ (n : Nat) (x3 : Int32) (μ : Mem) (z : Int32 × Mem), X0_countSaid_L2 a0 x1 a2 n x3 μ = some z → AW G 5 X 0 0 18 [(0, .ref (gZ G + a0)), (1, .int x1), (2, .ref (gZ G + a2)), (3, .int z.1)] [] z.2 → AW G 5 X 0 0 2 [(0, .ref (gZ G + a0)), (1, .int x1), (2, .ref (gZ G + a2)), (3, .int x3)] [] μ := by
  intro n
  induction n with
  | zero =>
    intro x3 μ z h kx
    rw [X0_countSaid_L2] at h
    cases h
  | succ n ih =>
    intro x3 μ z h kx
    rw [X0_countSaid_L2] at h
    refine aw_iload_n C 3 dX0_countSaid_2 rfl rfl ?_
    refine aw_aload_n C 2 dX0_countSaid_3 rfl rfl ?_
    obtain ⟨v1, hv1, h⟩ := bindE h
    refine aw_aL C hv1 dX0_countSaid_4 ?_
    refine aw_icmp_ge C 18 dX0_countSaid_5 (by decide) (fun c2 => ?_) (fun c2 => ?_)
    · rw [if_pos c2] at h
      have e9 := inj1 h
      subst e9
      exact aw_sub [0, 1, 2, 3] rfl kx
    · rw [if_neg c2] at h
      refine aw_aload_n C 2 dX0_countSaid_8 rfl rfl ?_
      refine aw_iload_n C 3 dX0_countSaid_9 rfl rfl ?_
      refine aw_iconst C 0 dX0_countSaid_10 (by decide) ?_
      obtain ⟨μ3, hμ3, h⟩ := bindE h
      refine aw_sI C hμ3 dX0_countSaid_11 ?_
      refine aw_iinc C (x3 + 1) 3 [(3, .int (x3 + 1)), (0, .ref (gZ G + a0)), (1, .int x1), (2, .ref (gZ G + a2))] dX0_countSaid_12 rfl rfl (by decide) rfl ?_
      refine aw_goto C 2 dX0_countSaid_15 (by decide) ?_
      exact aw_sub [1, 2, 3, 0] rfl (ih _ _ _ h kx)
def X0_countSaid_L20 (a0 : Nat) (x1 : Int32) (a2 : Nat) : Nat → Int32 → Mem → Option (Int32 × Mem)
  | 0, _, _ => none
  | n + 1, x3, μ =>
      (gI 0 3 a0 μ).bind fun v1 =>
      if v1 ≤ x3 then
      some ((x3, μ))
      else
      (gR 0 1 a0 μ).bind fun v3 =>
      (aR 5 v3 x3 μ).bind fun v4 =>
      (gI 5 3 v4 μ).bind fun v5 =>
      (gR 0 1 a0 μ).bind fun v6 =>
      (aR 5 v6 x3 μ).bind fun v7 =>
      (gI 5 0 v7 μ).bind fun v8 =>
      ((if v8 = x1 then
      if v5 < 0 then
      some μ
      else
      (aL a2 μ).bind fun v11 =>
      if v11 ≤ v5 then
      some μ
      else
      (aI a2 v5 μ).bind fun v13 =>
      (sI a2 v5 (v13 + 1) μ).bind fun μ14 =>
      some μ14
      else
      some μ) : Option (Mem)).bind fun z15 =>
      X0_countSaid_L20 a0 x1 a2 n (x3 + 1) z15
set_option maxRecDepth 100000 in
set_option maxHeartbeats 4000000 in
theorem X0_countSaid_L20_ok {G : GL} {X : CX} (C : Ctx G X cX0_countSaid 5 RX0 rm_X0_countSaid) (a0 : Nat) (x1 : Int32) (a2 : Nat) : ∀ (n : Nat) (x3 : Int32) (μ : Mem) (z : Int32 × Mem), X0_countSaid_L20 a0 x1 a2 n x3 μ = some z → AW G 5 X 0 0 78 [(0, .ref (gZ G + a0)), (1, .int x1), (2, .ref (gZ G + a2)), (3, .int z.1)] [] z.2 → AW G 5 X 0 0 20 [(0, .ref (gZ G + a0)), (1, .int x1), (2, .ref (gZ G + a2)), (3, .int x3)] [] μ := by
  intro n
  induction n with
  | zero =>
    intro x3 μ z h kx
    rw [X0_countSaid_L20] at h
    cases h
  | succ n ih =>
    intro x3 μ z h kx
    rw [X0_countSaid_L20] at h
    refine aw_iload_n C 3 dX0_countSaid_20 rfl rfl ?_
    refine aw_aload_n C 0 dX0_countSaid_21 rfl rfl ?_
    obtain ⟨v1, hv1, h⟩ := bindE h
    refine aw_gI C fl_X0_29 rfl hv1 dX0_countSaid_22 ?_
    refine aw_icmp_ge C 78 dX0_countSaid_25 (by decide) (fun c2 => ?_) (fun c2 => ?_)
    · rw [if_pos c2] at h
      have e9 := inj1 h
      subst e9
      exact aw_sub [0, 1, 2, 3] rfl kx
    · rw [if_neg c2] at h
      refine aw_aload_n C 0 dX0_countSaid_28 rfl rfl ?_
      obtain ⟨v3, hv3, h⟩ := bindE h
      refine aw_gR C fl_X0_19 rfl hv3 dX0_countSaid_29 ?_
      refine aw_iload_n C 3 dX0_countSaid_32 rfl rfl ?_
      obtain ⟨v4, hv4, h⟩ := bindE h
      refine aw_aR C (by decide) (ty := .object RX5) rfl rfl hv4 dX0_countSaid_33 ?_
      obtain ⟨v5, hv5, h⟩ := bindE h
      refine aw_gI C fl_X0_75 rfl hv5 dX0_countSaid_34 ?_
      refine aw_istore C [(4, .int v5), (0, .ref (gZ G + a0)), (1, .int x1), (2, .ref (gZ G + a2)), (3, .int x3)] dX0_countSaid_37 (by decide) rfl ?_
      refine aw_aload_n C 1 dX0_countSaid_39 rfl rfl ?_
      obtain ⟨v6, hv6, h⟩ := bindE h
      refine aw_gR C fl_X0_19 rfl hv6 dX0_countSaid_40 ?_
      refine aw_iload_n C 4 dX0_countSaid_43 rfl rfl ?_
      obtain ⟨v7, hv7, h⟩ := bindE h
      refine aw_aR C (by decide) (ty := .object RX5) rfl rfl hv7 dX0_countSaid_44 ?_
      obtain ⟨v8, hv8, h⟩ := bindE h
      refine aw_gI C fl_X0_57 rfl hv8 dX0_countSaid_45 ?_
      refine aw_iload_n C 2 dX0_countSaid_48 rfl rfl ?_
      obtain ⟨z15, hz15, h⟩ := bindE h
      have kj49 : AW G 5 X 0 0 72 [(0, .ref (gZ G + a0)), (1, .int x1), (2, .ref (gZ G + a2)), (3, .int x3)] [] z15 := by
        refine aw_iinc C (x3 + 1) 3 [(3, .int (x3 + 1)), (0, .ref (gZ G + a0)), (1, .int x1), (2, .ref (gZ G + a2))] dX0_countSaid_72 rfl rfl (by decide) rfl ?_
        refine aw_goto C 20 dX0_countSaid_75 (by decide) ?_
        exact aw_sub [1, 2, 3, 0] rfl (ih _ _ _ h kx)
      replace h := hz15
      refine aw_icmp_ne C 72 dX0_countSaid_49 (by decide) (fun c9 => ?_) (fun c9 => ?_)
      · rw [if_neg c9] at h
        have e9 := inj1 h
        subst e9
        exact aw_sub [1, 2, 3, 4] rfl kj49
      · rw [if_pos c9] at h
        refine aw_iload C 0 dX0_countSaid_52 rfl ?_
        refine aw_if_lt C 72 dX0_countSaid_54 (by decide) (fun c10 => ?_) (fun c10 => ?_)
        · rw [if_pos c10] at h
          have e9 := inj1 h
          subst e9
          exact aw_sub [1, 2, 3, 4] rfl kj49
        · rw [if_neg c10] at h
          refine aw_iload C 0 dX0_countSaid_57 rfl ?_
          refine aw_aload_n C 3 dX0_countSaid_59 rfl rfl ?_
          obtain ⟨v11, hv11, h⟩ := bindE h
          refine aw_aL C hv11 dX0_countSaid_60 ?_
          refine aw_icmp_ge C 72 dX0_countSaid_61 (by decide) (fun c12 => ?_) (fun c12 => ?_)
          · rw [if_pos c12] at h
            have e9 := inj1 h
            subst e9
            exact aw_sub [1, 2, 3, 4] rfl kj49
          · rw [if_neg c12] at h
            refine aw_aload_n C 3 dX0_countSaid_64 rfl rfl ?_
            refine aw_iload C 0 dX0_countSaid_65 rfl ?_
            refine aw_dup2 C dX0_countSaid_67 rfl rfl ?_
            obtain ⟨v13, hv13, h⟩ := bindE h
            refine aw_aI C hv13 dX0_countSaid_68 ?_
            refine aw_iconst C 1 dX0_countSaid_69 (by decide) ?_
            refine aw_iadd C dX0_countSaid_70 ?_
            obtain ⟨μ14, hμ14, h⟩ := bindE h
            refine aw_sI C hμ14 dX0_countSaid_71 ?_
            have e9 := inj1 h
            subst e9
            exact aw_sub [1, 2, 3, 4] rfl kj49
def X0_countSaid (a0 : Nat) (x1 : Int32) (a2 : Nat) (μ : Mem) : Option Mem :=
  (X0_countSaid_L2 a0 x1 a2 FU 0 μ).bind fun z1 =>
  (X0_countSaid_L20 a0 x1 a2 FU 0 z1.2).bind fun z2 =>
  some z2.2
set_option maxRecDepth 100000 in
set_option maxHeartbeats 4000000 in
theorem wk_X0_countSaid {G : GL} {X : CX} {a0 : Nat} {x1 : Int32} {a2 : Nat} {μ : Mem} {μ' : Mem} (C : Ctx G X cX0_countSaid 5 RX0 rm_X0_countSaid) (h : X0_countSaid a0 x1 a2 μ = some μ') (hret : RtV G 5 X cX0_countSaid 0 0 μ') : AW G 5 X 0 0 0 [(0, .ref (gZ G + a0)), (1, .int x1), (2, .ref (gZ G + a2))] [] μ := by
  unfold X0_countSaid at h
  refine aw_iconst C 0 dX0_countSaid_0 (by decide) ?_
  refine aw_istore_n C [(3, .int 0), (0, .ref (gZ G + a0)), (1, .int x1), (2, .ref (gZ G + a2))] dX0_countSaid_1 rfl (by decide) rfl ?_
  obtain ⟨z1, hz1, h⟩ := bindE h
  refine aw_sub [1, 2, 3, 0] rfl ?_
  refine X0_countSaid_L2_ok C _ _ _ _ _ _ _ hz1 ?_
  refine aw_iconst C 0 dX0_countSaid_18 (by decide) ?_
  refine aw_istore_n C [(3, .int 0), (0, .ref (gZ G + a0)), (1, .int x1), (2, .ref (gZ G + a2))] dX0_countSaid_19 rfl (by decide) rfl ?_
  obtain ⟨z2, hz2, h⟩ := bindE h
  refine aw_sub [1, 2, 3, 0] rfl ?_
  refine X0_countSaid_L20_ok C _ _ _ _ _ _ _ hz2 ?_
  have e9 := inj1 h
  subst e9
  exact hret _ _ dX0_countSaid_78
set_option maxRecDepth 100000 in
set_option maxHeartbeats 4000000 in
theorem mt_X0_countSaid {G : GL} {l : Launch} {a0 : Nat} {x1 : Int32} {a2 : Nat} {μ : Mem} {μ' : Mem} (h : X0_countSaid a0 x1 a2 μ = some μ') : MtV G l yX0_countSaid cX0_countSaid 5 none rm_X0_countSaid false [.ref (gZ G + a0), .int x1, .ref (gZ G + a2)] μ μ' := met_V (by decide) rfl (Nat.le_of_ble_eq_true rfl) (fun X _ C _ _ hret => wk_X0_countSaid C h hret)
def X0_outcomesBy_L4 (a0 : Nat) (x1 : Int32) (μ : Mem) : Nat → Int32 → Int32 → Option (Int32 × Int32)
  | 0, _, _ => none
  | n + 1, x2, x3 =>
      (gI 0 3 a0 μ).bind fun v1 =>
      if v1 ≤ x3 then
      some ((x2, x3))
      else
      (gR 0 1 a0 μ).bind fun v3 =>
      (aR 5 v3 x3 μ).bind fun v4 =>
      (gI 5 2 v4 μ).bind fun v5 =>
      ((if v5 = x1 then
      (gR 0 1 a0 μ).bind fun v7 =>
      (aR 5 v7 x3 μ).bind fun v8 =>
      (gI 5 4 v8 μ).bind fun v9 =>
      if v9 = 0 then
      some x2
      else
      some (x2 + 1)
      else
      some x2) : Option (Int32)).bind fun z11 =>
      X0_outcomesBy_L4 a0 x1 μ n z11 (x3 + 1)
set_option maxRecDepth 100000 in
set_option maxHeartbeats 4000000 in
theorem X0_outcomesBy_L4_ok {G : GL} {X : CX} (C : Ctx G X cX0_outcomesBy 4 RX0 rm_X0_outcomesBy) (a0 : Nat) (x1 : Int32) (μ : Mem) : ∀ (n : Nat) (x2 : Int32) (x3 : Int32) (z : Int32 × Int32), X0_outcomesBy_L4 a0 x1 μ n x2 x3 = some z → AW G 4 X 0 0 46 [(0, .ref (gZ G + a0)), (1, .int x1), (2, .int z.1), (3, .int z.2)] [] μ → AW G 4 X 0 0 4 [(0, .ref (gZ G + a0)), (1, .int x1), (2, .int x2), (3, .int x3)] [] μ := by
  intro n
  induction n with
  | zero =>
    intro x2 x3 z h kx
    rw [X0_outcomesBy_L4] at h
    cases h
  | succ n ih =>
    intro x2 x3 z h kx
    rw [X0_outcomesBy_L4] at h
    refine aw_iload_n C 3 dX0_outcomesBy_4 rfl rfl ?_
    refine aw_aload_n C 0 dX0_outcomesBy_5 rfl rfl ?_
    obtain ⟨v1, hv1, h⟩ := bindE h
    refine aw_gI C fl_X0_29 rfl hv1 dX0_outcomesBy_6 ?_
    refine aw_icmp_ge C 46 dX0_outcomesBy_9 (by decide) (fun c2 => ?_) (fun c2 => ?_)
    · rw [if_pos c2] at h
      have e9 := inj1 h
      subst e9
      exact aw_sub [0, 1, 2, 3] rfl kx
    · rw [if_neg c2] at h
      refine aw_aload_n C 0 dX0_outcomesBy_12 rfl rfl ?_
      obtain ⟨v3, hv3, h⟩ := bindE h
      refine aw_gR C fl_X0_19 rfl hv3 dX0_outcomesBy_13 ?_
      refine aw_iload_n C 3 dX0_outcomesBy_16 rfl rfl ?_
      obtain ⟨v4, hv4, h⟩ := bindE h
      refine aw_aR C (by decide) (ty := .object RX5) rfl rfl hv4 dX0_outcomesBy_17 ?_
      obtain ⟨v5, hv5, h⟩ := bindE h
      refine aw_gI C fl_X0_78 rfl hv5 dX0_outcomesBy_18 ?_
      refine aw_iload_n C 1 dX0_outcomesBy_21 rfl rfl ?_
      obtain ⟨z11, hz11, h⟩ := bindE h
      have kj22 : AW G 4 X 0 0 40 [(0, .ref (gZ G + a0)), (1, .int x1), (2, .int z11), (3, .int x3)] [] μ := by
        refine aw_iinc C (x3 + 1) 3 [(3, .int (x3 + 1)), (0, .ref (gZ G + a0)), (1, .int x1), (2, .int z11)] dX0_outcomesBy_40 rfl rfl (by decide) rfl ?_
        refine aw_goto C 4 dX0_outcomesBy_43 (by decide) ?_
        exact aw_sub [1, 2, 3, 0] rfl (ih _ _ _ h kx)
      replace h := hz11
      refine aw_icmp_ne C 40 dX0_outcomesBy_22 (by decide) (fun c6 => ?_) (fun c6 => ?_)
      · rw [if_neg c6] at h
        have e9 := inj1 h
        subst e9
        exact aw_sub [0, 1, 2, 3] rfl kj22
      · rw [if_pos c6] at h
        refine aw_aload_n C 0 dX0_outcomesBy_25 rfl rfl ?_
        obtain ⟨v7, hv7, h⟩ := bindE h
        refine aw_gR C fl_X0_19 rfl hv7 dX0_outcomesBy_26 ?_
        refine aw_iload_n C 3 dX0_outcomesBy_29 rfl rfl ?_
        obtain ⟨v8, hv8, h⟩ := bindE h
        refine aw_aR C (by decide) (ty := .object RX5) rfl rfl hv8 dX0_outcomesBy_30 ?_
        obtain ⟨v9, hv9, h⟩ := bindE h
        refine aw_gI C fl_X0_54 rfl hv9 dX0_outcomesBy_31 ?_
        refine aw_if_eq C 40 dX0_outcomesBy_34 (by decide) (fun c10 => ?_) (fun c10 => ?_)
        · rw [if_pos c10] at h
          have e9 := inj1 h
          subst e9
          exact aw_sub [0, 1, 2, 3] rfl kj22
        · rw [if_neg c10] at h
          refine aw_iinc C (x2 + 1) 2 [(2, .int (x2 + 1)), (0, .ref (gZ G + a0)), (1, .int x1), (3, .int x3)] dX0_outcomesBy_37 rfl rfl (by decide) rfl ?_
          have e9 := inj1 h
          subst e9
          exact aw_sub [1, 2, 0, 3] rfl kj22
def X0_outcomesBy (a0 : Nat) (x1 : Int32) (μ : Mem) : Option Int32 :=
  (X0_outcomesBy_L4 a0 x1 μ FU 0 0).bind fun z1 =>
  some (z1.1)
set_option maxRecDepth 100000 in
set_option maxHeartbeats 4000000 in
theorem wk_X0_outcomesBy {G : GL} {X : CX} {a0 : Nat} {x1 : Int32} {μ : Mem} {r : Int32} (C : Ctx G X cX0_outcomesBy 4 RX0 rm_X0_outcomesBy) (h : X0_outcomesBy a0 x1 μ = some r) (hret : RtI G 4 X cX0_outcomesBy 0 0 r μ) : AW G 4 X 0 0 0 [(0, .ref (gZ G + a0)), (1, .int x1)] [] μ := by
  unfold X0_outcomesBy at h
  refine aw_iconst C 0 dX0_outcomesBy_0 (by decide) ?_
  refine aw_istore_n C [(2, .int 0), (0, .ref (gZ G + a0)), (1, .int x1)] dX0_outcomesBy_1 rfl (by decide) rfl ?_
  refine aw_iconst C 0 dX0_outcomesBy_2 (by decide) ?_
  refine aw_istore_n C [(3, .int 0), (2, .int 0), (0, .ref (gZ G + a0)), (1, .int x1)] dX0_outcomesBy_3 rfl (by decide) rfl ?_
  obtain ⟨z1, hz1, h⟩ := bindE h
  refine aw_sub [2, 3, 1, 0] rfl ?_
  refine X0_outcomesBy_L4_ok C _ _ _ _ _ _ _ hz1 ?_
  refine aw_iload_n C 2 dX0_outcomesBy_46 rfl rfl ?_
  have e9 := inj1 h
  subst e9
  exact hret _ _ dX0_outcomesBy_47
set_option maxRecDepth 100000 in
set_option maxHeartbeats 4000000 in
theorem mt_X0_outcomesBy {G : GL} {l : Launch} {a0 : Nat} {x1 : Int32} {μ : Mem} {r : Int32} (h : X0_outcomesBy a0 x1 μ = some r) : MtI G l yX0_outcomesBy cX0_outcomesBy 4 (some .int) rm_X0_outcomesBy false [.ref (gZ G + a0), .int x1] μ r μ := met_I (by decide) rfl rfl (Nat.le_of_ble_eq_true rfl) (fun X _ C _ _ hret => wk_X0_outcomesBy C h hret)
def X0_lookedAtBy_L4 (a0 : Nat) (x1 : Int32) (μ : Mem) : Nat → Int32 → Int32 → Option (Int32 × Int32)
  | 0, _, _ => none
  | n + 1, x2, x3 =>
      (gI 0 3 a0 μ).bind fun v1 =>
      if v1 ≤ x3 then
      some ((x2, x3))
      else
      (gR 0 1 a0 μ).bind fun v3 =>
      (aR 5 v3 x3 μ).bind fun v4 =>
      (gI 5 2 v4 μ).bind fun v5 =>
      ((if v5 = x1 then
      (gR 0 1 a0 μ).bind fun v7 =>
      (aR 5 v7 x3 μ).bind fun v8 =>
      (gI 5 4 v8 μ).bind fun v9 =>
      if v9 = 1 then
      some (x2 + 1)
      else
      some x2
      else
      some x2) : Option (Int32)).bind fun z11 =>
      X0_lookedAtBy_L4 a0 x1 μ n z11 (x3 + 1)
set_option maxRecDepth 100000 in
set_option maxHeartbeats 4000000 in
theorem X0_lookedAtBy_L4_ok {G : GL} {X : CX} (C : Ctx G X cX0_lookedAtBy 4 RX0 rm_X0_lookedAtBy) (a0 : Nat) (x1 : Int32) (μ : Mem) : ∀ (n : Nat) (x2 : Int32) (x3 : Int32) (z : Int32 × Int32), X0_lookedAtBy_L4 a0 x1 μ n x2 x3 = some z → AW G 4 X 0 0 47 [(0, .ref (gZ G + a0)), (1, .int x1), (2, .int z.1), (3, .int z.2)] [] μ → AW G 4 X 0 0 4 [(0, .ref (gZ G + a0)), (1, .int x1), (2, .int x2), (3, .int x3)] [] μ := by
  intro n
  induction n with
  | zero =>
    intro x2 x3 z h kx
    rw [X0_lookedAtBy_L4] at h
    cases h
  | succ n ih =>
    intro x2 x3 z h kx
    rw [X0_lookedAtBy_L4] at h
    refine aw_iload_n C 3 dX0_lookedAtBy_4 rfl rfl ?_
    refine aw_aload_n C 0 dX0_lookedAtBy_5 rfl rfl ?_
    obtain ⟨v1, hv1, h⟩ := bindE h
    refine aw_gI C fl_X0_29 rfl hv1 dX0_lookedAtBy_6 ?_
    refine aw_icmp_ge C 47 dX0_lookedAtBy_9 (by decide) (fun c2 => ?_) (fun c2 => ?_)
    · rw [if_pos c2] at h
      have e9 := inj1 h
      subst e9
      exact aw_sub [0, 1, 2, 3] rfl kx
    · rw [if_neg c2] at h
      refine aw_aload_n C 0 dX0_lookedAtBy_12 rfl rfl ?_
      obtain ⟨v3, hv3, h⟩ := bindE h
      refine aw_gR C fl_X0_19 rfl hv3 dX0_lookedAtBy_13 ?_
      refine aw_iload_n C 3 dX0_lookedAtBy_16 rfl rfl ?_
      obtain ⟨v4, hv4, h⟩ := bindE h
      refine aw_aR C (by decide) (ty := .object RX5) rfl rfl hv4 dX0_lookedAtBy_17 ?_
      obtain ⟨v5, hv5, h⟩ := bindE h
      refine aw_gI C fl_X0_78 rfl hv5 dX0_lookedAtBy_18 ?_
      refine aw_iload_n C 1 dX0_lookedAtBy_21 rfl rfl ?_
      obtain ⟨z11, hz11, h⟩ := bindE h
      have kj22 : AW G 4 X 0 0 41 [(0, .ref (gZ G + a0)), (1, .int x1), (2, .int z11), (3, .int x3)] [] μ := by
        refine aw_iinc C (x3 + 1) 3 [(3, .int (x3 + 1)), (0, .ref (gZ G + a0)), (1, .int x1), (2, .int z11)] dX0_lookedAtBy_41 rfl rfl (by decide) rfl ?_
        refine aw_goto C 4 dX0_lookedAtBy_44 (by decide) ?_
        exact aw_sub [1, 2, 3, 0] rfl (ih _ _ _ h kx)
      replace h := hz11
      refine aw_icmp_ne C 41 dX0_lookedAtBy_22 (by decide) (fun c6 => ?_) (fun c6 => ?_)
      · rw [if_neg c6] at h
        have e9 := inj1 h
        subst e9
        exact aw_sub [0, 1, 2, 3] rfl kj22
      · rw [if_pos c6] at h
        refine aw_aload_n C 0 dX0_lookedAtBy_25 rfl rfl ?_
        obtain ⟨v7, hv7, h⟩ := bindE h
        refine aw_gR C fl_X0_19 rfl hv7 dX0_lookedAtBy_26 ?_
        refine aw_iload_n C 3 dX0_lookedAtBy_29 rfl rfl ?_
        obtain ⟨v8, hv8, h⟩ := bindE h
        refine aw_aR C (by decide) (ty := .object RX5) rfl rfl hv8 dX0_lookedAtBy_30 ?_
        obtain ⟨v9, hv9, h⟩ := bindE h
        refine aw_gI C fl_X0_54 rfl hv9 dX0_lookedAtBy_31 ?_
        refine aw_iconst C 1 dX0_lookedAtBy_34 (by decide) ?_
        refine aw_icmp_ne C 41 dX0_lookedAtBy_35 (by decide) (fun c10 => ?_) (fun c10 => ?_)
        · rw [if_neg c10] at h
          have e9 := inj1 h
          subst e9
          exact aw_sub [0, 1, 2, 3] rfl kj22
        · rw [if_pos c10] at h
          refine aw_iinc C (x2 + 1) 2 [(2, .int (x2 + 1)), (0, .ref (gZ G + a0)), (1, .int x1), (3, .int x3)] dX0_lookedAtBy_38 rfl rfl (by decide) rfl ?_
          have e9 := inj1 h
          subst e9
          exact aw_sub [1, 2, 0, 3] rfl kj22
def X0_lookedAtBy (a0 : Nat) (x1 : Int32) (μ : Mem) : Option Int32 :=
  (X0_lookedAtBy_L4 a0 x1 μ FU 0 0).bind fun z1 =>
  some (z1.1)
set_option maxRecDepth 100000 in
set_option maxHeartbeats 4000000 in
theorem wk_X0_lookedAtBy {G : GL} {X : CX} {a0 : Nat} {x1 : Int32} {μ : Mem} {r : Int32} (C : Ctx G X cX0_lookedAtBy 4 RX0 rm_X0_lookedAtBy) (h : X0_lookedAtBy a0 x1 μ = some r) (hret : RtI G 4 X cX0_lookedAtBy 0 0 r μ) : AW G 4 X 0 0 0 [(0, .ref (gZ G + a0)), (1, .int x1)] [] μ := by
  unfold X0_lookedAtBy at h
  refine aw_iconst C 0 dX0_lookedAtBy_0 (by decide) ?_
  refine aw_istore_n C [(2, .int 0), (0, .ref (gZ G + a0)), (1, .int x1)] dX0_lookedAtBy_1 rfl (by decide) rfl ?_
  refine aw_iconst C 0 dX0_lookedAtBy_2 (by decide) ?_
  refine aw_istore_n C [(3, .int 0), (2, .int 0), (0, .ref (gZ G + a0)), (1, .int x1)] dX0_lookedAtBy_3 rfl (by decide) rfl ?_
  obtain ⟨z1, hz1, h⟩ := bindE h
  refine aw_sub [2, 3, 1, 0] rfl ?_
  refine X0_lookedAtBy_L4_ok C _ _ _ _ _ _ _ hz1 ?_
  refine aw_iload_n C 2 dX0_lookedAtBy_47 rfl rfl ?_
  have e9 := inj1 h
  subst e9
  exact hret _ _ dX0_lookedAtBy_48
set_option maxRecDepth 100000 in
set_option maxHeartbeats 4000000 in
theorem mt_X0_lookedAtBy {G : GL} {l : Launch} {a0 : Nat} {x1 : Int32} {μ : Mem} {r : Int32} (h : X0_lookedAtBy a0 x1 μ = some r) : MtI G l yX0_lookedAtBy cX0_lookedAtBy 4 (some .int) rm_X0_lookedAtBy false [.ref (gZ G + a0), .int x1] μ r μ := met_I (by decide) rfl rfl (Nat.le_of_ble_eq_true rfl) (fun X _ C _ _ hret => wk_X0_lookedAtBy C h hret)
def X3_alwaysFrom_L4 (a0 : Nat) (μ : Mem) : Nat → Int32 → Int32 → Option (Int32 × Int32)
  | 0, _, _ => none
  | n + 1, x1, x2 =>
      (gI 3 0 a0 μ).bind fun v1 =>
      if v1 ≤ x2 then
      some ((x1, x2))
      else
      (gR 3 1 a0 μ).bind fun v3 =>
      (aI v3 x2 μ).bind fun v4 =>
      ((if v4 = 4 then
      (gR 3 2 a0 μ).bind fun v6 =>
      (aI v6 x2 μ).bind fun v7 =>
      some (x1 ||| (1 <<< (v7 &&& 31)))
      else
      some x1) : Option (Int32)).bind fun z8 =>
      X3_alwaysFrom_L4 a0 μ n z8 (x2 + 1)
set_option maxRecDepth 100000 in
set_option maxHeartbeats 4000000 in
theorem X3_alwaysFrom_L4_ok {G : GL} {X : CX} (C : Ctx G X cX3_alwaysFrom 3 RX3 rm_X3_alwaysFrom) (a0 : Nat) (μ : Mem) : ∀ (n : Nat) (x1 : Int32) (x2 : Int32) (z : Int32 × Int32), X3_alwaysFrom_L4 a0 μ n x1 x2 = some z → AW G 3 X 0 0 39 [(0, .ref (gZ G + a0)), (1, .int z.1), (2, .int z.2)] [] μ → AW G 3 X 0 0 4 [(0, .ref (gZ G + a0)), (1, .int x1), (2, .int x2)] [] μ := by
  intro n
  induction n with
  | zero =>
    intro x1 x2 z h kx
    rw [X3_alwaysFrom_L4] at h
    cases h
  | succ n ih =>
    intro x1 x2 z h kx
    rw [X3_alwaysFrom_L4] at h
    refine aw_iload_n C 2 dX3_alwaysFrom_4 rfl rfl ?_
    refine aw_aload_n C 0 dX3_alwaysFrom_5 rfl rfl ?_
    obtain ⟨v1, hv1, h⟩ := bindE h
    refine aw_gI C fl_X3_24 rfl hv1 dX3_alwaysFrom_6 ?_
    refine aw_icmp_ge C 39 dX3_alwaysFrom_9 (by decide) (fun c2 => ?_) (fun c2 => ?_)
    · rw [if_pos c2] at h
      have e9 := inj1 h
      subst e9
      exact aw_sub [0, 1, 2] rfl kx
    · rw [if_neg c2] at h
      refine aw_aload_n C 0 dX3_alwaysFrom_12 rfl rfl ?_
      obtain ⟨v3, hv3, h⟩ := bindE h
      refine aw_gR C fl_X3_9 rfl hv3 dX3_alwaysFrom_13 ?_
      refine aw_iload_n C 2 dX3_alwaysFrom_16 rfl rfl ?_
      obtain ⟨v4, hv4, h⟩ := bindE h
      refine aw_aI C hv4 dX3_alwaysFrom_17 ?_
      refine aw_iconst C 4 dX3_alwaysFrom_18 (by decide) ?_
      obtain ⟨z8, hz8, h⟩ := bindE h
      have kj19 : AW G 3 X 0 0 33 [(0, .ref (gZ G + a0)), (1, .int z8), (2, .int x2)] [] μ := by
        refine aw_iinc C (x2 + 1) 2 [(2, .int (x2 + 1)), (0, .ref (gZ G + a0)), (1, .int z8)] dX3_alwaysFrom_33 rfl rfl (by decide) rfl ?_
        refine aw_goto C 4 dX3_alwaysFrom_36 (by decide) ?_
        exact aw_sub [1, 2, 0] rfl (ih _ _ _ h kx)
      replace h := hz8
      refine aw_icmp_ne C 33 dX3_alwaysFrom_19 (by decide) (fun c5 => ?_) (fun c5 => ?_)
      · rw [if_neg c5] at h
        have e9 := inj1 h
        subst e9
        exact aw_sub [0, 1, 2] rfl kj19
      · rw [if_pos c5] at h
        refine aw_iload_n C 1 dX3_alwaysFrom_22 rfl rfl ?_
        refine aw_iconst C 1 dX3_alwaysFrom_23 (by decide) ?_
        refine aw_aload_n C 0 dX3_alwaysFrom_24 rfl rfl ?_
        obtain ⟨v6, hv6, h⟩ := bindE h
        refine aw_gR C fl_X3_15 rfl hv6 dX3_alwaysFrom_25 ?_
        refine aw_iload_n C 2 dX3_alwaysFrom_28 rfl rfl ?_
        obtain ⟨v7, hv7, h⟩ := bindE h
        refine aw_aI C hv7 dX3_alwaysFrom_29 ?_
        refine aw_ishl C dX3_alwaysFrom_30 ?_
        refine aw_ior C dX3_alwaysFrom_31 ?_
        refine aw_istore_n C [(1, .int (x1 ||| (1 <<< (v7 &&& 31)))), (0, .ref (gZ G + a0)), (2, .int x2)] dX3_alwaysFrom_32 rfl (by decide) rfl ?_
        have e9 := inj1 h
        subst e9
        exact aw_sub [1, 0, 2] rfl kj19
def X3_alwaysFrom (a0 : Nat) (μ : Mem) : Option Int32 :=
  (X3_alwaysFrom_L4 a0 μ FU 0 0).bind fun z1 =>
  some (z1.1)
set_option maxRecDepth 100000 in
set_option maxHeartbeats 4000000 in
theorem wk_X3_alwaysFrom {G : GL} {X : CX} {a0 : Nat} {μ : Mem} {r : Int32} (C : Ctx G X cX3_alwaysFrom 3 RX3 rm_X3_alwaysFrom) (h : X3_alwaysFrom a0 μ = some r) (hret : RtI G 3 X cX3_alwaysFrom 0 0 r μ) : AW G 3 X 0 0 0 [(0, .ref (gZ G + a0))] [] μ := by
  unfold X3_alwaysFrom at h
  refine aw_iconst C 0 dX3_alwaysFrom_0 (by decide) ?_
  refine aw_istore_n C [(1, .int 0), (0, .ref (gZ G + a0))] dX3_alwaysFrom_1 rfl (by decide) rfl ?_
  refine aw_iconst C 0 dX3_alwaysFrom_2 (by decide) ?_
  refine aw_istore_n C [(2, .int 0), (1, .int 0), (0, .ref (gZ G + a0))] dX3_alwaysFrom_3 rfl (by decide) rfl ?_
  obtain ⟨z1, hz1, h⟩ := bindE h
  refine aw_sub [2, 1, 0] rfl ?_
  refine X3_alwaysFrom_L4_ok C _ _ _ _ _ _ hz1 ?_
  refine aw_iload_n C 1 dX3_alwaysFrom_39 rfl rfl ?_
  have e9 := inj1 h
  subst e9
  exact hret _ _ dX3_alwaysFrom_40
set_option maxRecDepth 100000 in
set_option maxHeartbeats 4000000 in
theorem mt_X3_alwaysFrom {G : GL} {l : Launch} {a0 : Nat} {μ : Mem} {r : Int32} (h : X3_alwaysFrom a0 μ = some r) : MtI G l yX3_alwaysFrom cX3_alwaysFrom 3 (some .int) rm_X3_alwaysFrom false [.ref (gZ G + a0)] μ r μ := met_I (by decide) rfl rfl (Nat.le_of_ble_eq_true rfl) (fun X _ C _ _ hret => wk_X3_alwaysFrom C h hret)
def X3_barredKinds_L4 (a0 : Nat) (x1 : Int32) (μ : Mem) : Nat → Int32 → Int32 → Option (Int32 × Int32)
  | 0, _, _ => none
  | n + 1, x2, x3 =>
      (gI 3 0 a0 μ).bind fun v1 =>
      if v1 ≤ x3 then
      some ((x2, x3))
      else
      (gR 3 1 a0 μ).bind fun v3 =>
      (aI v3 x3 μ).bind fun v4 =>
      ((if v4 = 2 then
      (gR 3 3 a0 μ).bind fun v6 =>
      (aI v6 x3 μ).bind fun v7 =>
      if x1 ≤ v7 then
      some x2
      else
      (gR 3 2 a0 μ).bind fun v9 =>
      (aI v9 x3 μ).bind fun v10 =>
      some (x2 ||| (1 <<< (v10 &&& 31)))
      else
      some x2) : Option (Int32)).bind fun z11 =>
      X3_barredKinds_L4 a0 x1 μ n z11 (x3 + 1)
set_option maxRecDepth 100000 in
set_option maxHeartbeats 4000000 in
theorem X3_barredKinds_L4_ok {G : GL} {X : CX} (C : Ctx G X cX3_barredKinds 4 RX3 rm_X3_barredKinds) (a0 : Nat) (x1 : Int32) (μ : Mem) : ∀ (n : Nat) (x2 : Int32) (x3 : Int32) (z : Int32 × Int32), X3_barredKinds_L4 a0 x1 μ n x2 x3 = some z → AW G 4 X 0 0 49 [(0, .ref (gZ G + a0)), (1, .int x1), (2, .int z.1), (3, .int z.2)] [] μ → AW G 4 X 0 0 4 [(0, .ref (gZ G + a0)), (1, .int x1), (2, .int x2), (3, .int x3)] [] μ := by
  intro n
  induction n with
  | zero =>
    intro x2 x3 z h kx
    rw [X3_barredKinds_L4] at h
    cases h
  | succ n ih =>
    intro x2 x3 z h kx
    rw [X3_barredKinds_L4] at h
    refine aw_iload_n C 3 dX3_barredKinds_4 rfl rfl ?_
    refine aw_aload_n C 0 dX3_barredKinds_5 rfl rfl ?_
    obtain ⟨v1, hv1, h⟩ := bindE h
    refine aw_gI C fl_X3_24 rfl hv1 dX3_barredKinds_6 ?_
    refine aw_icmp_ge C 49 dX3_barredKinds_9 (by decide) (fun c2 => ?_) (fun c2 => ?_)
    · rw [if_pos c2] at h
      have e9 := inj1 h
      subst e9
      exact aw_sub [0, 1, 2, 3] rfl kx
    · rw [if_neg c2] at h
      refine aw_aload_n C 0 dX3_barredKinds_12 rfl rfl ?_
      obtain ⟨v3, hv3, h⟩ := bindE h
      refine aw_gR C fl_X3_9 rfl hv3 dX3_barredKinds_13 ?_
      refine aw_iload_n C 3 dX3_barredKinds_16 rfl rfl ?_
      obtain ⟨v4, hv4, h⟩ := bindE h
      refine aw_aI C hv4 dX3_barredKinds_17 ?_
      refine aw_iconst C 2 dX3_barredKinds_18 (by decide) ?_
      obtain ⟨z11, hz11, h⟩ := bindE h
      have kj19 : AW G 4 X 0 0 43 [(0, .ref (gZ G + a0)), (1, .int x1), (2, .int z11), (3, .int x3)] [] μ := by
        refine aw_iinc C (x3 + 1) 3 [(3, .int (x3 + 1)), (0, .ref (gZ G + a0)), (1, .int x1), (2, .int z11)] dX3_barredKinds_43 rfl rfl (by decide) rfl ?_
        refine aw_goto C 4 dX3_barredKinds_46 (by decide) ?_
        exact aw_sub [1, 2, 3, 0] rfl (ih _ _ _ h kx)
      replace h := hz11
      refine aw_icmp_ne C 43 dX3_barredKinds_19 (by decide) (fun c5 => ?_) (fun c5 => ?_)
      · rw [if_neg c5] at h
        have e9 := inj1 h
        subst e9
        exact aw_sub [0, 1, 2, 3] rfl kj19
      · rw [if_pos c5] at h
        refine aw_iload_n C 1 dX3_barredKinds_22 rfl rfl ?_
        refine aw_aload_n C 0 dX3_barredKinds_23 rfl rfl ?_
        obtain ⟨v6, hv6, h⟩ := bindE h
        refine aw_gR C fl_X3_18 rfl hv6 dX3_barredKinds_24 ?_
        refine aw_iload_n C 3 dX3_barredKinds_27 rfl rfl ?_
        obtain ⟨v7, hv7, h⟩ := bindE h
        refine aw_aI C hv7 dX3_barredKinds_28 ?_
        refine aw_icmp_le C 43 dX3_barredKinds_29 (by decide) (fun c8 => ?_) (fun c8 => ?_)
        · rw [if_pos c8] at h
          have e9 := inj1 h
          subst e9
          exact aw_sub [0, 1, 2, 3] rfl kj19
        · rw [if_neg c8] at h
          refine aw_iload_n C 2 dX3_barredKinds_32 rfl rfl ?_
          refine aw_iconst C 1 dX3_barredKinds_33 (by decide) ?_
          refine aw_aload_n C 0 dX3_barredKinds_34 rfl rfl ?_
          obtain ⟨v9, hv9, h⟩ := bindE h
          refine aw_gR C fl_X3_15 rfl hv9 dX3_barredKinds_35 ?_
          refine aw_iload_n C 3 dX3_barredKinds_38 rfl rfl ?_
          obtain ⟨v10, hv10, h⟩ := bindE h
          refine aw_aI C hv10 dX3_barredKinds_39 ?_
          refine aw_ishl C dX3_barredKinds_40 ?_
          refine aw_ior C dX3_barredKinds_41 ?_
          refine aw_istore_n C [(2, .int (x2 ||| (1 <<< (v10 &&& 31)))), (0, .ref (gZ G + a0)), (1, .int x1), (3, .int x3)] dX3_barredKinds_42 rfl (by decide) rfl ?_
          have e9 := inj1 h
          subst e9
          exact aw_sub [1, 2, 0, 3] rfl kj19
def X3_barredKinds (a0 : Nat) (x1 : Int32) (μ : Mem) : Option Int32 :=
  (X3_barredKinds_L4 a0 x1 μ FU 0 0).bind fun z1 =>
  some (z1.1)
set_option maxRecDepth 100000 in
set_option maxHeartbeats 4000000 in
theorem wk_X3_barredKinds {G : GL} {X : CX} {a0 : Nat} {x1 : Int32} {μ : Mem} {r : Int32} (C : Ctx G X cX3_barredKinds 4 RX3 rm_X3_barredKinds) (h : X3_barredKinds a0 x1 μ = some r) (hret : RtI G 4 X cX3_barredKinds 0 0 r μ) : AW G 4 X 0 0 0 [(0, .ref (gZ G + a0)), (1, .int x1)] [] μ := by
  unfold X3_barredKinds at h
  refine aw_iconst C 0 dX3_barredKinds_0 (by decide) ?_
  refine aw_istore_n C [(2, .int 0), (0, .ref (gZ G + a0)), (1, .int x1)] dX3_barredKinds_1 rfl (by decide) rfl ?_
  refine aw_iconst C 0 dX3_barredKinds_2 (by decide) ?_
  refine aw_istore_n C [(3, .int 0), (2, .int 0), (0, .ref (gZ G + a0)), (1, .int x1)] dX3_barredKinds_3 rfl (by decide) rfl ?_
  obtain ⟨z1, hz1, h⟩ := bindE h
  refine aw_sub [2, 3, 1, 0] rfl ?_
  refine X3_barredKinds_L4_ok C _ _ _ _ _ _ _ hz1 ?_
  refine aw_iload_n C 2 dX3_barredKinds_49 rfl rfl ?_
  have e9 := inj1 h
  subst e9
  exact hret _ _ dX3_barredKinds_50
set_option maxRecDepth 100000 in
set_option maxHeartbeats 4000000 in
theorem mt_X3_barredKinds {G : GL} {l : Launch} {a0 : Nat} {x1 : Int32} {μ : Mem} {r : Int32} (h : X3_barredKinds a0 x1 μ = some r) : MtI G l yX3_barredKinds cX3_barredKinds 4 (some .int) rm_X3_barredKinds false [.ref (gZ G + a0), .int x1] μ r μ := met_I (by decide) rfl rfl (Nat.le_of_ble_eq_true rfl) (fun X _ C _ _ hret => wk_X3_barredKinds C h hret)
def X3_isLikely (a0 : Nat) (x1 : Int32) (a2 : Nat) (μ : Mem) : Option Int32 :=
  (gR 3 3 a0 μ).bind fun v1 =>
  (aI v1 x1 μ).bind fun v2 =>
  ((if v2 < 0 then
  some 0
  else
  (aL a2 μ).bind fun v4 =>
  if v4 ≤ v2 then
  some 0
  else
  (aI a2 v2 μ).bind fun v6 =>
  (gR 3 4 a0 μ).bind fun v7 =>
  (aI v7 x1 μ).bind fun v8 =>
  if (lg_cmp (v6.toInt64 * 100) (v8.toInt64 * 1000000)) < 0 then
  some 0
  else
  some 1) : Option (Int32)).bind fun z10 =>
  (zz z10).bind fun v11 =>
  some v11
set_option maxRecDepth 100000 in
set_option maxHeartbeats 4000000 in
theorem wk_X3_isLikely {G : GL} {X : CX} {a0 : Nat} {x1 : Int32} {a2 : Nat} {μ : Mem} {r : Int32} (C : Ctx G X cX3_isLikely 4 RX3 rm_X3_isLikely) (h : X3_isLikely a0 x1 a2 μ = some r) (hret : RtZ G 4 X cX3_isLikely 0 0 r μ) : AW G 4 X 0 0 0 [(0, .ref (gZ G + a0)), (1, .int x1), (2, .ref (gZ G + a2))] [] μ := by
  unfold X3_isLikely at h
  refine aw_aload_n C 0 dX3_isLikely_0 rfl rfl ?_
  obtain ⟨v1, hv1, h⟩ := bindE h
  refine aw_gR C fl_X3_18 rfl hv1 dX3_isLikely_1 ?_
  refine aw_iload_n C 1 dX3_isLikely_4 rfl rfl ?_
  obtain ⟨v2, hv2, h⟩ := bindE h
  refine aw_aI C hv2 dX3_isLikely_5 ?_
  refine aw_istore_n C [(3, .int v2), (0, .ref (gZ G + a0)), (1, .int x1), (2, .ref (gZ G + a2))] dX3_isLikely_6 rfl (by decide) rfl ?_
  refine aw_iload_n C 0 dX3_isLikely_7 rfl rfl ?_
  obtain ⟨z10, hz10, h⟩ := bindE h
  have kj8 : AW G 4 X 0 0 45 [] [.int z10] μ := by
    obtain ⟨v11, hv11, h⟩ := bindE h
    obtain ⟨ev11, zv11⟩ := zzE hv11
    refine aw_topi ev11 ?_
    have e9 := inj1 h
    subst e9
    exact hret _ _ dX3_isLikely_45 zv11
  replace h := hz10
  refine aw_if_lt C 44 dX3_isLikely_8 (by decide) (fun c3 => ?_) (fun c3 => ?_)
  · rw [if_pos c3] at h
    refine aw_iconst C 0 dX3_isLikely_44 (by decide) ?_
    have e9 := inj1 h
    subst e9
    exact aw_sub [] rfl kj8
  · rw [if_neg c3] at h
    refine aw_iload_n C 0 dX3_isLikely_11 rfl rfl ?_
    refine aw_aload_n C 3 dX3_isLikely_12 rfl rfl ?_
    obtain ⟨v4, hv4, h⟩ := bindE h
    refine aw_aL C hv4 dX3_isLikely_13 ?_
    refine aw_icmp_ge C 44 dX3_isLikely_14 (by decide) (fun c5 => ?_) (fun c5 => ?_)
    · rw [if_pos c5] at h
      refine aw_iconst C 0 dX3_isLikely_44 (by decide) ?_
      have e9 := inj1 h
      subst e9
      exact aw_sub [] rfl kj8
    · rw [if_neg c5] at h
      refine aw_aload_n C 3 dX3_isLikely_17 rfl rfl ?_
      refine aw_iload_n C 0 dX3_isLikely_18 rfl rfl ?_
      obtain ⟨v6, hv6, h⟩ := bindE h
      refine aw_aI C hv6 dX3_isLikely_19 ?_
      refine aw_i2l C dX3_isLikely_20 ?_
      refine aw_ldc2 C kl_X3_32 dX3_isLikely_21 ?_
      refine aw_lmul C dX3_isLikely_24 ?_
      refine aw_aload_n C 1 dX3_isLikely_25 rfl rfl ?_
      obtain ⟨v7, hv7, h⟩ := bindE h
      refine aw_gR C fl_X3_21 rfl hv7 dX3_isLikely_26 ?_
      refine aw_iload_n C 2 dX3_isLikely_29 rfl rfl ?_
      obtain ⟨v8, hv8, h⟩ := bindE h
      refine aw_aI C hv8 dX3_isLikely_30 ?_
      refine aw_i2l C dX3_isLikely_31 ?_
      refine aw_ldc2 C kl_X3_34 dX3_isLikely_32 ?_
      refine aw_lmul C dX3_isLikely_35 ?_
      refine aw_lcmp C dX3_isLikely_36 ?_
      refine aw_if_lt C 44 dX3_isLikely_37 (by decide) (fun c9 => ?_) (fun c9 => ?_)
      · rw [if_pos c9] at h
        refine aw_iconst C 0 dX3_isLikely_44 (by decide) ?_
        have e9 := inj1 h
        subst e9
        exact aw_sub [] rfl kj8
      · rw [if_neg c9] at h
        refine aw_iconst C 1 dX3_isLikely_40 (by decide) ?_
        refine aw_goto C 45 dX3_isLikely_41 (by decide) ?_
        have e9 := inj1 h
        subst e9
        exact aw_sub [] rfl kj8
set_option maxRecDepth 100000 in
set_option maxHeartbeats 4000000 in
theorem mt_X3_isLikely {G : GL} {l : Launch} {a0 : Nat} {x1 : Int32} {a2 : Nat} {μ : Mem} {r : Int32} (h : X3_isLikely a0 x1 a2 μ = some r) : MtI G l yX3_isLikely cX3_isLikely 4 (some .boolean) rm_X3_isLikely false [.ref (gZ G + a0), .int x1, .ref (gZ G + a2)] μ r μ := met_Z (by decide) rfl (Nat.le_of_ble_eq_true rfl) (fun X _ C _ _ hret => wk_X3_isLikely C h hret)
def X3_barredWays_L4 (a0 : Nat) (a1 : Nat) (μ : Mem) : Nat → Int32 → Int32 → Option (Int32 × Int32)
  | 0, _, _ => none
  | n + 1, x2, x3 =>
      (gI 3 0 a0 μ).bind fun v1 =>
      if v1 ≤ x3 then
      some ((x2, x3))
      else
      (gR 3 1 a0 μ).bind fun v3 =>
      (aI v3 x3 μ).bind fun v4 =>
      ((if v4 = 0 then
      (gR 3 2 a0 μ).bind fun v6 =>
      (aI v6 x3 μ).bind fun v7 =>
      some (x2 ||| (1 <<< (v7 &&& 31)))
      else
      (gR 3 1 a0 μ).bind fun v8 =>
      (aI v8 x3 μ).bind fun v9 =>
      if v9 = 1 then
      (vO 3 a0 μ).bind fun g11 =>
      (X3_isLikely a0 x3 a1 μ).bind fun v12 =>
      if v12 = 0 then
      some x2
      else
      (gR 3 2 a0 μ).bind fun v14 =>
      (aI v14 x3 μ).bind fun v15 =>
      some (x2 ||| (1 <<< (v15 &&& 31)))
      else
      some x2) : Option (Int32)).bind fun z16 =>
      X3_barredWays_L4 a0 a1 μ n z16 (x3 + 1)
set_option maxRecDepth 100000 in
set_option maxHeartbeats 4000000 in
theorem X3_barredWays_L4_ok {G : GL} {X : CX} (C : Ctx G X cX3_barredWays 4 RX3 rm_X3_barredWays) (a0 : Nat) (a1 : Nat) (μ : Mem) : ∀ (n : Nat) (x2 : Int32) (x3 : Int32) (z : Int32 × Int32), X3_barredWays_L4 a0 a1 μ n x2 x3 = some z → AW G 4 X 0 0 57 [(0, .ref (gZ G + a0)), (1, .ref (gZ G + a1)), (2, .int z.1), (3, .int z.2)] [] μ → AW G 4 X 0 0 4 [(0, .ref (gZ G + a0)), (1, .ref (gZ G + a1)), (2, .int x2), (3, .int x3)] [] μ := by
  intro n
  induction n with
  | zero =>
    intro x2 x3 z h kx
    rw [X3_barredWays_L4] at h
    cases h
  | succ n ih =>
    intro x2 x3 z h kx
    rw [X3_barredWays_L4] at h
    refine aw_iload_n C 3 dX3_barredWays_4 rfl rfl ?_
    refine aw_aload_n C 0 dX3_barredWays_5 rfl rfl ?_
    obtain ⟨v1, hv1, h⟩ := bindE h
    refine aw_gI C fl_X3_24 rfl hv1 dX3_barredWays_6 ?_
    refine aw_icmp_ge C 57 dX3_barredWays_9 (by decide) (fun c2 => ?_) (fun c2 => ?_)
    · rw [if_pos c2] at h
      have e9 := inj1 h
      subst e9
      exact aw_sub [0, 1, 2, 3] rfl kx
    · rw [if_neg c2] at h
      refine aw_aload_n C 0 dX3_barredWays_12 rfl rfl ?_
      obtain ⟨v3, hv3, h⟩ := bindE h
      refine aw_gR C fl_X3_9 rfl hv3 dX3_barredWays_13 ?_
      refine aw_iload_n C 3 dX3_barredWays_16 rfl rfl ?_
      obtain ⟨v4, hv4, h⟩ := bindE h
      refine aw_aI C hv4 dX3_barredWays_17 ?_
      obtain ⟨z16, hz16, h⟩ := bindE h
      have kj18 : AW G 4 X 0 0 51 [(0, .ref (gZ G + a0)), (1, .ref (gZ G + a1)), (2, .int z16), (3, .int x3)] [] μ := by
        refine aw_iinc C (x3 + 1) 3 [(3, .int (x3 + 1)), (0, .ref (gZ G + a0)), (1, .ref (gZ G + a1)), (2, .int z16)] dX3_barredWays_51 rfl rfl (by decide) rfl ?_
        refine aw_goto C 4 dX3_barredWays_54 (by decide) ?_
        exact aw_sub [1, 2, 3, 0] rfl (ih _ _ _ h kx)
      replace h := hz16
      refine aw_if_eq C 40 dX3_barredWays_18 (by decide) (fun c5 => ?_) (fun c5 => ?_)
      · rw [if_pos c5] at h
        refine aw_iload_n C 2 dX3_barredWays_40 rfl rfl ?_
        refine aw_iconst C 1 dX3_barredWays_41 (by decide) ?_
        refine aw_aload_n C 0 dX3_barredWays_42 rfl rfl ?_
        obtain ⟨v6, hv6, h⟩ := bindE h
        refine aw_gR C fl_X3_15 rfl hv6 dX3_barredWays_43 ?_
        refine aw_iload_n C 3 dX3_barredWays_46 rfl rfl ?_
        obtain ⟨v7, hv7, h⟩ := bindE h
        refine aw_aI C hv7 dX3_barredWays_47 ?_
        refine aw_ishl C dX3_barredWays_48 ?_
        refine aw_ior C dX3_barredWays_49 ?_
        refine aw_istore_n C [(2, .int (x2 ||| (1 <<< (v7 &&& 31)))), (0, .ref (gZ G + a0)), (1, .ref (gZ G + a1)), (3, .int x3)] dX3_barredWays_50 rfl (by decide) rfl ?_
        have e9 := inj1 h
        subst e9
        exact aw_sub [1, 2, 0, 3] rfl kj18
      · rw [if_neg c5] at h
        refine aw_aload_n C 0 dX3_barredWays_21 rfl rfl ?_
        obtain ⟨v8, hv8, h⟩ := bindE h
        refine aw_gR C fl_X3_9 rfl hv8 dX3_barredWays_22 ?_
        refine aw_iload_n C 3 dX3_barredWays_25 rfl rfl ?_
        obtain ⟨v9, hv9, h⟩ := bindE h
        refine aw_aI C hv9 dX3_barredWays_26 ?_
        refine aw_iconst C 1 dX3_barredWays_27 (by decide) ?_
        refine aw_icmp_ne C 51 dX3_barredWays_28 (by decide) (fun c10 => ?_) (fun c10 => ?_)
        · rw [if_neg c10] at h
          have e9 := inj1 h
          subst e9
          exact aw_sub [0, 1, 2, 3] rfl kj18
        · rw [if_pos c10] at h
          refine aw_aload_n C 0 dX3_barredWays_31 rfl rfl ?_
          refine aw_iload_n C 3 dX3_barredWays_32 rfl rfl ?_
          refine aw_aload_n C 1 dX3_barredWays_33 rfl rfl ?_
          obtain ⟨g11, hg11, h⟩ := bindE h
          obtain ⟨v12, hv12, h⟩ := bindE h
          refine aw_cV_I C [.int x3, .ref (gZ G + a1)] _ (mt_X3_isLikely hv12) cs_X3_isLikely ml_X3_28 im_X3_isLikely se_X3_isLikely (ci := 3) rfl rfl hg11 ⟨by decide, by decide⟩ ⟨rfl, rfl⟩ ⟨Nat.zero_le _, Nat.zero_le _⟩ rfl rfl (Nat.le_of_ble_eq_true rfl) dX3_barredWays_34 ?_
          refine aw_if_eq C 51 dX3_barredWays_37 (by decide) (fun c13 => ?_) (fun c13 => ?_)
          · rw [if_pos c13] at h
            have e9 := inj1 h
            subst e9
            exact aw_sub [0, 1, 2, 3] rfl kj18
          · rw [if_neg c13] at h
            refine aw_iload_n C 2 dX3_barredWays_40 rfl rfl ?_
            refine aw_iconst C 1 dX3_barredWays_41 (by decide) ?_
            refine aw_aload_n C 0 dX3_barredWays_42 rfl rfl ?_
            obtain ⟨v14, hv14, h⟩ := bindE h
            refine aw_gR C fl_X3_15 rfl hv14 dX3_barredWays_43 ?_
            refine aw_iload_n C 3 dX3_barredWays_46 rfl rfl ?_
            obtain ⟨v15, hv15, h⟩ := bindE h
            refine aw_aI C hv15 dX3_barredWays_47 ?_
            refine aw_ishl C dX3_barredWays_48 ?_
            refine aw_ior C dX3_barredWays_49 ?_
            refine aw_istore_n C [(2, .int (x2 ||| (1 <<< (v15 &&& 31)))), (0, .ref (gZ G + a0)), (1, .ref (gZ G + a1)), (3, .int x3)] dX3_barredWays_50 rfl (by decide) rfl ?_
            have e9 := inj1 h
            subst e9
            exact aw_sub [1, 2, 0, 3] rfl kj18
def X3_barredWays (a0 : Nat) (a1 : Nat) (μ : Mem) : Option Int32 :=
  (X3_barredWays_L4 a0 a1 μ FU 0 0).bind fun z1 =>
  some (z1.1)
set_option maxRecDepth 100000 in
set_option maxHeartbeats 4000000 in
theorem wk_X3_barredWays {G : GL} {X : CX} {a0 : Nat} {a1 : Nat} {μ : Mem} {r : Int32} (C : Ctx G X cX3_barredWays 4 RX3 rm_X3_barredWays) (h : X3_barredWays a0 a1 μ = some r) (hret : RtI G 4 X cX3_barredWays 0 0 r μ) : AW G 4 X 0 0 0 [(0, .ref (gZ G + a0)), (1, .ref (gZ G + a1))] [] μ := by
  unfold X3_barredWays at h
  refine aw_iconst C 0 dX3_barredWays_0 (by decide) ?_
  refine aw_istore_n C [(2, .int 0), (0, .ref (gZ G + a0)), (1, .ref (gZ G + a1))] dX3_barredWays_1 rfl (by decide) rfl ?_
  refine aw_iconst C 0 dX3_barredWays_2 (by decide) ?_
  refine aw_istore_n C [(3, .int 0), (2, .int 0), (0, .ref (gZ G + a0)), (1, .ref (gZ G + a1))] dX3_barredWays_3 rfl (by decide) rfl ?_
  obtain ⟨z1, hz1, h⟩ := bindE h
  refine aw_sub [2, 3, 1, 0] rfl ?_
  refine X3_barredWays_L4_ok C _ _ _ _ _ _ _ hz1 ?_
  refine aw_iload_n C 2 dX3_barredWays_57 rfl rfl ?_
  have e9 := inj1 h
  subst e9
  exact hret _ _ dX3_barredWays_58
set_option maxRecDepth 100000 in
set_option maxHeartbeats 4000000 in
theorem mt_X3_barredWays {G : GL} {l : Launch} {a0 : Nat} {a1 : Nat} {μ : Mem} {r : Int32} (h : X3_barredWays a0 a1 μ = some r) : MtI G l yX3_barredWays cX3_barredWays 4 (some .int) rm_X3_barredWays false [.ref (gZ G + a0), .ref (gZ G + a1)] μ r μ := met_I (by decide) rfl rfl (Nat.le_of_ble_eq_true rfl) (fun X _ C _ _ hret => wk_X3_barredWays C h hret)
def X1_open_L36 (a0 : Nat) (a2 : Nat) (x5 : Int32) (x6 : Int32) : Nat → Int32 → Mem → Option (Int32 × Mem)
  | 0, _, _ => none
  | n + 1, x7, μ =>
      (gI 0 2 a2 μ).bind fun v1 =>
      if v1 ≤ x7 then
      some ((x7, μ))
      else
      (gR 0 0 a2 μ).bind fun v3 =>
      (aR 6 v3 x7 μ).bind fun v4 =>
      (gI 6 3 v4 μ).bind fun v5 =>
      ((if (X10_contains x5 v5) = 0 then
      (gR 0 0 a2 μ).bind fun v7 =>
      (aR 6 v7 x7 μ).bind fun v8 =>
      (gI 6 1 v8 μ).bind fun v9 =>
      if (X10_contains x6 v9) = 0 then
      some μ
      else
      (gI 1 1 a0 μ).bind fun v11 =>
      (pI 1 1 a0 (v11 ||| (1 <<< (x7 &&& 31))) μ).bind fun μ12 =>
      some μ12
      else
      (gI 1 0 a0 μ).bind fun v13 =>
      (pI 1 0 a0 (v13 ||| (1 <<< (x7 &&& 31))) μ).bind fun μ14 =>
      some μ14) : Option (Mem)).bind fun z15 =>
      X1_open_L36 a0 a2 x5 x6 n (x7 + 1) z15
set_option maxRecDepth 100000 in
set_option maxHeartbeats 4000000 in
theorem X1_open_L36_ok {G : GL} {X : CX} (C : Ctx G X cX1_open 8 RX1 rm_X1_open) (a0 : Nat) (a2 : Nat) (x5 : Int32) (x6 : Int32) : ∀ (n : Nat) (x7 : Int32) (μ : Mem) (z : Int32 × Mem), X1_open_L36 a0 a2 x5 x6 n x7 μ = some z → AW G 8 X 0 0 116 [(0, .ref (gZ G + a0)), (2, .ref (gZ G + a2)), (5, .int x5), (6, .int x6), (7, .int z.1)] [] z.2 → AW G 8 X 0 0 36 [(0, .ref (gZ G + a0)), (2, .ref (gZ G + a2)), (5, .int x5), (6, .int x6), (7, .int x7)] [] μ := by
  intro n
  induction n with
  | zero =>
    intro x7 μ z h kx
    rw [X1_open_L36] at h
    cases h
  | succ n ih =>
    intro x7 μ z h kx
    rw [X1_open_L36] at h
    refine aw_iload C 4 dX1_open_36 rfl ?_
    refine aw_aload_n C 1 dX1_open_38 rfl rfl ?_
    obtain ⟨v1, hv1, h⟩ := bindE h
    refine aw_gI C fl_X1_33 rfl hv1 dX1_open_39 ?_
    refine aw_icmp_ge C 116 dX1_open_42 (by decide) (fun c2 => ?_) (fun c2 => ?_)
    · rw [if_pos c2] at h
      have e9 := inj1 h
      subst e9
      exact aw_sub [0, 1, 2, 3, 4] rfl kx
    · rw [if_neg c2] at h
      refine aw_iload C 2 dX1_open_45 rfl ?_
      refine aw_aload_n C 1 dX1_open_47 rfl rfl ?_
      obtain ⟨v3, hv3, h⟩ := bindE h
      refine aw_gR C fl_X1_38 rfl hv3 dX1_open_48 ?_
      refine aw_iload C 4 dX1_open_51 rfl ?_
      obtain ⟨v4, hv4, h⟩ := bindE h
      refine aw_aR C (by decide) (ty := .object RX6) rfl rfl hv4 dX1_open_53 ?_
      obtain ⟨v5, hv5, h⟩ := bindE h
      refine aw_gI C fl_X1_42 rfl hv5 dX1_open_54 ?_
      refine aw_cSN_I C [.int x5, .int v5] _ (mt_X10_contains _ _) cs_X10_contains ml_X1_47 st_X10_contains ⟨by decide, by decide⟩ ⟨rfl, rfl⟩ ⟨Nat.zero_le _, Nat.zero_le _⟩ rfl rfl (Nat.le_of_ble_eq_true rfl) dX1_open_57 ?_
      obtain ⟨z15, hz15, h⟩ := bindE h
      have kj60 : AW G 8 X 0 0 110 [(0, .ref (gZ G + a0)), (2, .ref (gZ G + a2)), (5, .int x5), (6, .int x6), (7, .int x7)] [] z15 := by
        refine aw_iinc C (x7 + 1) 4 [(7, .int (x7 + 1)), (0, .ref (gZ G + a0)), (2, .ref (gZ G + a2)), (5, .int x5), (6, .int x6)] dX1_open_110 rfl rfl (by decide) rfl ?_
        refine aw_goto C 36 dX1_open_113 (by decide) ?_
        exact aw_sub [1, 2, 3, 4, 0] rfl (ih _ _ _ h kx)
      replace h := hz15
      refine aw_if_eq C 79 dX1_open_60 (by decide) (fun c6 => ?_) (fun c6 => ?_)
      · rw [if_pos c6] at h
        refine aw_iload C 3 dX1_open_79 rfl ?_
        refine aw_aload_n C 1 dX1_open_81 rfl rfl ?_
        obtain ⟨v7, hv7, h⟩ := bindE h
        refine aw_gR C fl_X1_38 rfl hv7 dX1_open_82 ?_
        refine aw_iload C 4 dX1_open_85 rfl ?_
        obtain ⟨v8, hv8, h⟩ := bindE h
        refine aw_aR C (by decide) (ty := .object RX6) rfl rfl hv8 dX1_open_87 ?_
        obtain ⟨v9, hv9, h⟩ := bindE h
        refine aw_gI C fl_X1_53 rfl hv9 dX1_open_88 ?_
        refine aw_cSN_I C [.int x6, .int v9] _ (mt_X10_contains _ _) cs_X10_contains ml_X1_47 st_X10_contains ⟨by decide, by decide⟩ ⟨rfl, rfl⟩ ⟨Nat.zero_le _, Nat.zero_le _⟩ rfl rfl (Nat.le_of_ble_eq_true rfl) dX1_open_91 ?_
        refine aw_if_eq C 110 dX1_open_94 (by decide) (fun c10 => ?_) (fun c10 => ?_)
        · rw [if_pos c10] at h
          have e9 := inj1 h
          subst e9
          exact aw_sub [0, 1, 2, 3, 4] rfl kj60
        · rw [if_neg c10] at h
          refine aw_aload_n C 0 dX1_open_97 rfl rfl ?_
          refine aw_dup C dX1_open_98 rfl ?_
          obtain ⟨v11, hv11, h⟩ := bindE h
          refine aw_gI C fl_X1_30 rfl hv11 dX1_open_99 ?_
          refine aw_iconst C 1 dX1_open_102 (by decide) ?_
          refine aw_iload C 4 dX1_open_103 rfl ?_
          refine aw_ishl C dX1_open_105 ?_
          refine aw_ior C dX1_open_106 ?_
          obtain ⟨μ12, hμ12, h⟩ := bindE h
          refine aw_pI C fl_X1_30 rfl hμ12 dX1_open_107 ?_
          have e9 := inj1 h
          subst e9
          exact aw_sub [0, 1, 2, 3, 4] rfl kj60
      · rw [if_neg c6] at h
        refine aw_aload_n C 0 dX1_open_63 rfl rfl ?_
        refine aw_dup C dX1_open_64 rfl ?_
        obtain ⟨v13, hv13, h⟩ := bindE h
        refine aw_gI C fl_X1_27 rfl hv13 dX1_open_65 ?_
        refine aw_iconst C 1 dX1_open_68 (by decide) ?_
        refine aw_iload C 4 dX1_open_69 rfl ?_
        refine aw_ishl C dX1_open_71 ?_
        refine aw_ior C dX1_open_72 ?_
        obtain ⟨μ14, hμ14, h⟩ := bindE h
        refine aw_pI C fl_X1_27 rfl hμ14 dX1_open_73 ?_
        refine aw_goto C 110 dX1_open_76 (by decide) ?_
        have e9 := inj1 h
        subst e9
        exact aw_sub [0, 1, 2, 3, 4] rfl kj60
def X1_open (a0 : Nat) (a1 : Nat) (a2 : Nat) (x3 : Int32) (a4 : Nat) (μ : Mem) : Option Mem :=
  (vO 3 a1 μ).bind fun g1 =>
  (X3_alwaysFrom a1 μ).bind fun v2 =>
  (vO 3 a1 μ).bind fun g3 =>
  (X3_barredKinds a1 x3 μ).bind fun v4 =>
  (vO 3 a1 μ).bind fun g5 =>
  (X3_barredWays a1 a4 μ).bind fun v6 =>
  (pI 1 2 a0 v6 μ).bind fun μ7 =>
  (pI 1 0 a0 0 μ7).bind fun μ8 =>
  (pI 1 1 a0 0 μ8).bind fun μ9 =>
  (X1_open_L36 a0 a2 v2 v4 FU 0 μ9).bind fun z10 =>
  some z10.2
set_option maxRecDepth 100000 in
set_option maxHeartbeats 4000000 in
theorem wk_X1_open {G : GL} {X : CX} {a0 : Nat} {a1 : Nat} {a2 : Nat} {x3 : Int32} {a4 : Nat} {μ : Mem} {μ' : Mem} (C : Ctx G X cX1_open 8 RX1 rm_X1_open) (h : X1_open a0 a1 a2 x3 a4 μ = some μ') (hret : RtV G 8 X cX1_open 0 0 μ') : AW G 8 X 0 0 0 [(0, .ref (gZ G + a0)), (1, .ref (gZ G + a1)), (2, .ref (gZ G + a2)), (3, .int x3), (4, .ref (gZ G + a4))] [] μ := by
  unfold X1_open at h
  refine aw_aload_n C 1 dX1_open_0 rfl rfl ?_
  obtain ⟨g1, hg1, h⟩ := bindE h
  obtain ⟨v2, hv2, h⟩ := bindE h
  refine aw_cV_I C [] _ (mt_X3_alwaysFrom hv2) cs_X3_alwaysFrom ml_X1_7 im_X3_alwaysFrom se_X3_alwaysFrom (ci := 3) rfl rfl hg1 ⟨by decide, by decide⟩ ⟨rfl, rfl⟩ ⟨Nat.zero_le _, Nat.zero_le _⟩ rfl rfl (Nat.le_of_ble_eq_true rfl) dX1_open_1 ?_
  refine aw_istore C [(5, .int v2), (0, .ref (gZ G + a0)), (1, .ref (gZ G + a1)), (2, .ref (gZ G + a2)), (3, .int x3), (4, .ref (gZ G + a4))] dX1_open_4 (by decide) rfl ?_
  refine aw_aload_n C 2 dX1_open_6 rfl rfl ?_
  refine aw_iload_n C 4 dX1_open_7 rfl rfl ?_
  obtain ⟨g3, hg3, h⟩ := bindE h
  obtain ⟨v4, hv4, h⟩ := bindE h
  refine aw_cV_I C [.int x3] _ (mt_X3_barredKinds hv4) cs_X3_barredKinds ml_X1_13 im_X3_barredKinds se_X3_barredKinds (ci := 3) rfl rfl hg3 ⟨by decide, by decide⟩ ⟨rfl, rfl⟩ ⟨Nat.zero_le _, Nat.zero_le _⟩ rfl rfl (Nat.le_of_ble_eq_true rfl) dX1_open_8 ?_
  refine aw_istore C [(6, .int v4), (5, .int v2), (0, .ref (gZ G + a0)), (1, .ref (gZ G + a1)), (2, .ref (gZ G + a2)), (3, .int x3), (4, .ref (gZ G + a4))] dX1_open_11 (by decide) rfl ?_
  refine aw_aload_n C 2 dX1_open_13 rfl rfl ?_
  refine aw_aload_n C 3 dX1_open_14 rfl rfl ?_
  refine aw_aload C 6 dX1_open_15 rfl ?_
  obtain ⟨g5, hg5, h⟩ := bindE h
  obtain ⟨v6, hv6, h⟩ := bindE h
  refine aw_cV_I C [.ref (gZ G + a4)] _ (mt_X3_barredWays hv6) cs_X3_barredWays ml_X1_17 im_X3_barredWays se_X3_barredWays (ci := 3) rfl rfl hg5 ⟨by decide, by decide⟩ ⟨rfl, rfl⟩ ⟨Nat.zero_le _, Nat.zero_le _⟩ rfl rfl (Nat.le_of_ble_eq_true rfl) dX1_open_17 ?_
  obtain ⟨μ7, hμ7, h⟩ := bindE h
  refine aw_pI C fl_X1_21 rfl hμ7 dX1_open_20 ?_
  refine aw_aload_n C 2 dX1_open_23 rfl rfl ?_
  refine aw_iconst C 0 dX1_open_24 (by decide) ?_
  obtain ⟨μ8, hμ8, h⟩ := bindE h
  refine aw_pI C fl_X1_27 rfl hμ8 dX1_open_25 ?_
  refine aw_aload_n C 2 dX1_open_28 rfl rfl ?_
  refine aw_iconst C 0 dX1_open_29 (by decide) ?_
  obtain ⟨μ9, hμ9, h⟩ := bindE h
  refine aw_pI C fl_X1_30 rfl hμ9 dX1_open_30 ?_
  refine aw_iconst C 0 dX1_open_33 (by decide) ?_
  refine aw_istore C [(7, .int 0), (6, .int v4), (5, .int v2), (0, .ref (gZ G + a0)), (1, .ref (gZ G + a1)), (2, .ref (gZ G + a2)), (3, .int x3), (4, .ref (gZ G + a4))] dX1_open_34 (by decide) rfl ?_
  obtain ⟨z10, hz10, h⟩ := bindE h
  refine aw_sub [3, 5, 2, 1, 0] rfl ?_
  refine X1_open_L36_ok C _ _ _ _ _ _ _ _ hz10 ?_
  have e9 := inj1 h
  subst e9
  exact hret _ _ dX1_open_116
set_option maxRecDepth 100000 in
set_option maxHeartbeats 4000000 in
theorem mt_X1_open {G : GL} {l : Launch} {a0 : Nat} {a1 : Nat} {a2 : Nat} {x3 : Int32} {a4 : Nat} {μ : Mem} {μ' : Mem} (h : X1_open a0 a1 a2 x3 a4 μ = some μ') : MtV G l yX1_open cX1_open 8 none rm_X1_open false [.ref (gZ G + a0), .ref (gZ G + a1), .ref (gZ G + a2), .int x3, .ref (gZ G + a4)] μ μ' := met_V (by decide) rfl (Nat.le_of_ble_eq_true rfl) (fun X _ C _ _ hret => wk_X1_open C h hret)
def X1_isAlways (a0 : Nat) (x1 : Int32) (μ : Mem) : Option Int32 :=
  (gI 1 0 a0 μ).bind fun v1 =>
  (some (if (x1 &&& (v1 ^^^ ((-1)))) = 0 then 1 else 0 : Int32)).bind fun v3 =>
  (zz v3).bind fun v4 =>
  some v4
set_option maxRecDepth 100000 in
set_option maxHeartbeats 4000000 in
theorem wk_X1_isAlways {G : GL} {X : CX} {a0 : Nat} {x1 : Int32} {μ : Mem} {r : Int32} (C : Ctx G X cX1_isAlways 2 RX1 rm_X1_isAlways) (h : X1_isAlways a0 x1 μ = some r) (hret : RtZ G 2 X cX1_isAlways 0 0 r μ) : AW G 2 X 0 0 0 [(0, .ref (gZ G + a0)), (1, .int x1)] [] μ := by
  unfold X1_isAlways at h
  refine aw_iload_n C 1 dX1_isAlways_0 rfl rfl ?_
  refine aw_aload_n C 0 dX1_isAlways_1 rfl rfl ?_
  obtain ⟨v1, hv1, h⟩ := bindE h
  refine aw_gI C fl_X1_27 rfl hv1 dX1_isAlways_2 ?_
  refine aw_iconst C ((-1)) dX1_isAlways_5 (by decide) ?_
  refine aw_ixor C dX1_isAlways_6 ?_
  refine aw_iand C dX1_isAlways_7 ?_
  obtain ⟨v3, ev3, h⟩ := bindS h
  have kj8 : AW G 2 X 0 0 16 [] [.int v3] μ := by
    obtain ⟨v4, hv4, h⟩ := bindE h
    obtain ⟨ev4, zv4⟩ := zzE hv4
    refine aw_topi ev4 ?_
    have e9 := inj1 h
    subst e9
    exact hret _ _ dX1_isAlways_16 zv4
  clear h
  refine aw_if_ne C 15 dX1_isAlways_8 (by decide) (fun c2 => ?_) (fun c2 => ?_)
  · refine aw_iconst C 0 dX1_isAlways_15 (by decide) ?_
    rw [if_neg c2] at ev3
    subst ev3
    exact aw_sub [] rfl kj8
  · refine aw_iconst C 1 dX1_isAlways_11 (by decide) ?_
    refine aw_goto C 16 dX1_isAlways_12 (by decide) ?_
    rw [if_pos c2] at ev3
    subst ev3
    exact aw_sub [] rfl kj8
set_option maxRecDepth 100000 in
set_option maxHeartbeats 4000000 in
theorem mt_X1_isAlways {G : GL} {l : Launch} {a0 : Nat} {x1 : Int32} {μ : Mem} {r : Int32} (h : X1_isAlways a0 x1 μ = some r) : MtI G l yX1_isAlways cX1_isAlways 2 (some .boolean) rm_X1_isAlways false [.ref (gZ G + a0), .int x1] μ r μ := met_Z (by decide) rfl (Nat.le_of_ble_eq_true rfl) (fun X _ C _ _ hret => wk_X1_isAlways C h hret)
def X1_bar (a0 : Nat) (x1 : Int32) (x2 : Int32) (x3 : Int32) (μ : Mem) : Option Int32 :=
  (vO 1 a0 μ).bind fun g1 =>
  (X1_isAlways a0 x1 μ).bind fun v2 =>
  if v2 = 0 then
  (gI 1 2 a0 μ).bind fun v9 =>
  if (X10_contains v9 x2) = 0 then
  (gI 1 1 a0 μ).bind fun v11 =>
  if (x1 &&& v11) = 0 then
  (some (if v2 = 0 then if x3 = 0 then 0 else 3 else 0 : Int32)).bind fun v14 =>
  some (v14)
  else
  some (2)
  else
  some (1)
  else
  (gI 1 1 a0 μ).bind fun v4 =>
  if (x1 &&& v4) = 0 then
  (some (if v2 = 0 then if x3 = 0 then 0 else 3 else 0 : Int32)).bind fun v7 =>
  some (v7)
  else
  some (2)
set_option maxRecDepth 100000 in
set_option maxHeartbeats 4000000 in
theorem wk_X1_bar {G : GL} {X : CX} {a0 : Nat} {x1 : Int32} {x2 : Int32} {x3 : Int32} {μ : Mem} {r : Int32} (C : Ctx G X cX1_bar 5 RX1 rm_X1_bar) (h : X1_bar a0 x1 x2 x3 μ = some r) (hret : RtI G 5 X cX1_bar 0 0 r μ) : AW G 5 X 0 0 0 [(0, .ref (gZ G + a0)), (1, .int x1), (2, .int x2), (3, .int x3)] [] μ := by
  unfold X1_bar at h
  refine aw_aload_n C 0 dX1_bar_0 rfl rfl ?_
  refine aw_iload_n C 1 dX1_bar_1 rfl rfl ?_
  obtain ⟨g1, hg1, h⟩ := bindE h
  obtain ⟨v2, hv2, h⟩ := bindE h
  refine aw_cV_I C [.int x1] _ (mt_X1_isAlways hv2) cs_X1_isAlways ml_X1_56 im_X1_isAlways se_X1_isAlways (ci := 1) rfl rfl hg1 ⟨by decide, by decide⟩ ⟨rfl, rfl⟩ ⟨Nat.zero_le _, Nat.zero_le _⟩ rfl rfl (Nat.le_of_ble_eq_true rfl) dX1_bar_2 ?_
  refine aw_istore C [(4, .int v2), (0, .ref (gZ G + a0)), (1, .int x1), (2, .int x2), (3, .int x3)] dX1_bar_5 (by decide) rfl ?_
  refine aw_iload C 0 dX1_bar_7 rfl ?_
  refine aw_if_ne C 25 dX1_bar_9 (by decide) (fun c3 => ?_) (fun c3 => ?_)
  · rw [if_neg c3] at h
    refine aw_iload_n C 2 dX1_bar_25 rfl rfl ?_
    refine aw_aload_n C 1 dX1_bar_26 rfl rfl ?_
    obtain ⟨v4, hv4, h⟩ := bindE h
    refine aw_gI C fl_X1_30 rfl hv4 dX1_bar_27 ?_
    refine aw_iand C dX1_bar_30 ?_
    refine aw_if_eq C 36 dX1_bar_31 (by decide) (fun c5 => ?_) (fun c5 => ?_)
    · rw [if_pos c5] at h
      refine aw_iload C 0 dX1_bar_36 rfl ?_
      obtain ⟨v7, ev7, h⟩ := bindS h
      have kj38 : AW G 5 X 0 0 50 [] [.int v7] μ := by
        have e9 := inj1 h
        subst e9
        exact hret _ _ dX1_bar_50
      clear h
      refine aw_if_ne C 49 dX1_bar_38 (by decide) (fun c6 => ?_) (fun c6 => ?_)
      · refine aw_iconst C 0 dX1_bar_49 (by decide) ?_
        rw [if_neg c6] at ev7
        subst ev7
        exact aw_sub [] rfl kj38
      · refine aw_iload_n C 4 dX1_bar_41 rfl rfl ?_
        refine aw_if_eq C 49 dX1_bar_42 (by decide) (fun c8 => ?_) (fun c8 => ?_)
        · refine aw_iconst C 0 dX1_bar_49 (by decide) ?_
          rw [if_pos c6, if_pos c8] at ev7
          subst ev7
          exact aw_sub [] rfl kj38
        · refine aw_iconst C 3 dX1_bar_45 (by decide) ?_
          refine aw_goto C 50 dX1_bar_46 (by decide) ?_
          rw [if_pos c6, if_neg c8] at ev7
          subst ev7
          exact aw_sub [] rfl kj38
    · rw [if_neg c5] at h
      refine aw_iconst C 2 dX1_bar_34 (by decide) ?_
      have e9 := inj1 h
      subst e9
      exact hret _ _ dX1_bar_35
  · rw [if_pos c3] at h
    refine aw_aload_n C 1 dX1_bar_12 rfl rfl ?_
    obtain ⟨v9, hv9, h⟩ := bindE h
    refine aw_gI C fl_X1_21 rfl hv9 dX1_bar_13 ?_
    refine aw_iload_n C 3 dX1_bar_16 rfl rfl ?_
    refine aw_cSN_I C [.int v9, .int x2] _ (mt_X10_contains _ _) cs_X10_contains ml_X1_47 st_X10_contains ⟨by decide, by decide⟩ ⟨rfl, rfl⟩ ⟨Nat.zero_le _, Nat.zero_le _⟩ rfl rfl (Nat.le_of_ble_eq_true rfl) dX1_bar_17 ?_
    refine aw_if_eq C 25 dX1_bar_20 (by decide) (fun c10 => ?_) (fun c10 => ?_)
    · rw [if_pos c10] at h
      refine aw_iload_n C 2 dX1_bar_25 rfl rfl ?_
      refine aw_aload_n C 1 dX1_bar_26 rfl rfl ?_
      obtain ⟨v11, hv11, h⟩ := bindE h
      refine aw_gI C fl_X1_30 rfl hv11 dX1_bar_27 ?_
      refine aw_iand C dX1_bar_30 ?_
      refine aw_if_eq C 36 dX1_bar_31 (by decide) (fun c12 => ?_) (fun c12 => ?_)
      · rw [if_pos c12] at h
        refine aw_iload C 0 dX1_bar_36 rfl ?_
        obtain ⟨v14, ev14, h⟩ := bindS h
        have kj38 : AW G 5 X 0 0 50 [] [.int v14] μ := by
          have e9 := inj1 h
          subst e9
          exact hret _ _ dX1_bar_50
        clear h
        refine aw_if_ne C 49 dX1_bar_38 (by decide) (fun c13 => ?_) (fun c13 => ?_)
        · refine aw_iconst C 0 dX1_bar_49 (by decide) ?_
          rw [if_neg c13] at ev14
          subst ev14
          exact aw_sub [] rfl kj38
        · refine aw_iload_n C 4 dX1_bar_41 rfl rfl ?_
          refine aw_if_eq C 49 dX1_bar_42 (by decide) (fun c15 => ?_) (fun c15 => ?_)
          · refine aw_iconst C 0 dX1_bar_49 (by decide) ?_
            rw [if_pos c13, if_pos c15] at ev14
            subst ev14
            exact aw_sub [] rfl kj38
          · refine aw_iconst C 3 dX1_bar_45 (by decide) ?_
            refine aw_goto C 50 dX1_bar_46 (by decide) ?_
            rw [if_pos c13, if_neg c15] at ev14
            subst ev14
            exact aw_sub [] rfl kj38
      · rw [if_neg c12] at h
        refine aw_iconst C 2 dX1_bar_34 (by decide) ?_
        have e9 := inj1 h
        subst e9
        exact hret _ _ dX1_bar_35
    · rw [if_neg c10] at h
      refine aw_iconst C 1 dX1_bar_23 (by decide) ?_
      have e9 := inj1 h
      subst e9
      exact hret _ _ dX1_bar_24
set_option maxRecDepth 100000 in
set_option maxHeartbeats 4000000 in
theorem mt_X1_bar {G : GL} {l : Launch} {a0 : Nat} {x1 : Int32} {x2 : Int32} {x3 : Int32} {μ : Mem} {r : Int32} (h : X1_bar a0 x1 x2 x3 μ = some r) : MtI G l yX1_bar cX1_bar 5 (some .int) rm_X1_bar false [.ref (gZ G + a0), .int x1, .int x2, .int x3] μ r μ := met_I (by decide) rfl rfl (Nat.le_of_ble_eq_true rfl) (fun X _ C _ _ hret => wk_X1_bar C h hret)
def X2_append (a0 : Nat) (x1 : Int32) (μ : Mem) : Option Mem :=
  (gI 2 0 a0 μ).bind fun v1 =>
  ((if (160 : Int32) ≤ v1 then
  some μ
  else
  (gR 2 3 a0 μ).bind fun v3 =>
  (gI 2 0 a0 μ).bind fun v4 =>
  (sI v3 v4 x1 μ).bind fun μ5 =>
  (gI 2 0 a0 μ5).bind fun v6 =>
  (pI 2 0 a0 (v6 + 1) μ5).bind fun μ7 =>
  some μ7) : Option (Mem)).bind fun z8 =>
  some z8
set_option maxRecDepth 100000 in
set_option maxHeartbeats 4000000 in
theorem wk_X2_append {G : GL} {X : CX} {a0 : Nat} {x1 : Int32} {μ : Mem} {μ' : Mem} (C : Ctx G X cX2_append 2 RX2 rm_X2_append) (h : X2_append a0 x1 μ = some μ') (hret : RtV G 2 X cX2_append 0 0 μ') : AW G 2 X 0 0 0 [(0, .ref (gZ G + a0)), (1, .int x1)] [] μ := by
  unfold X2_append at h
  refine aw_aload_n C 0 dX2_append_0 rfl rfl ?_
  obtain ⟨v1, hv1, h⟩ := bindE h
  refine aw_gI C fl_X2_19 rfl hv1 dX2_append_1 ?_
  refine aw_sipush C 160 dX2_append_4 (by decide) ?_
  obtain ⟨z8, hz8, h⟩ := bindE h
  have kj7 : AW G 2 X 0 0 30 [] [] z8 := by
    have e9 := inj1 h
    subst e9
    exact hret _ _ dX2_append_30
  replace h := hz8
  refine aw_icmp_ge C 30 dX2_append_7 (by decide) (fun c2 => ?_) (fun c2 => ?_)
  · rw [if_pos c2] at h
    have e9 := inj1 h
    subst e9
    exact aw_sub [] rfl kj7
  · rw [if_neg c2] at h
    refine aw_aload_n C 0 dX2_append_10 rfl rfl ?_
    obtain ⟨v3, hv3, h⟩ := bindE h
    refine aw_gR C fl_X2_15 rfl hv3 dX2_append_11 ?_
    refine aw_aload_n C 0 dX2_append_14 rfl rfl ?_
    obtain ⟨v4, hv4, h⟩ := bindE h
    refine aw_gI C fl_X2_19 rfl hv4 dX2_append_15 ?_
    refine aw_iload_n C 1 dX2_append_18 rfl rfl ?_
    obtain ⟨μ5, hμ5, h⟩ := bindE h
    refine aw_sI C hμ5 dX2_append_19 ?_
    refine aw_aload_n C 0 dX2_append_20 rfl rfl ?_
    refine aw_dup C dX2_append_21 rfl ?_
    obtain ⟨v6, hv6, h⟩ := bindE h
    refine aw_gI C fl_X2_19 rfl hv6 dX2_append_22 ?_
    refine aw_iconst C 1 dX2_append_25 (by decide) ?_
    refine aw_iadd C dX2_append_26 ?_
    obtain ⟨μ7, hμ7, h⟩ := bindE h
    refine aw_pI C fl_X2_19 rfl hμ7 dX2_append_27 ?_
    have e9 := inj1 h
    subst e9
    exact aw_sub [] rfl kj7
set_option maxRecDepth 100000 in
set_option maxHeartbeats 4000000 in
theorem mt_X2_append {G : GL} {l : Launch} {a0 : Nat} {x1 : Int32} {μ : Mem} {μ' : Mem} (h : X2_append a0 x1 μ = some μ') : MtV G l yX2_append cX2_append 2 none rm_X2_append false [.ref (gZ G + a0), .int x1] μ μ' := met_V (by decide) rfl (Nat.le_of_ble_eq_true rfl) (fun X _ C _ _ hret => wk_X2_append C h hret)
def X2_skipBlanks_L0 (a0 : Nat) : Nat → Mem → Option (Mem)
  | 0, _ => none
  | n + 1, μ =>
      (gI 2 4 a0 μ).bind fun v1 =>
      (gI 2 0 a0 μ).bind fun v2 =>
      if v2 ≤ v1 then
      some μ
      else
      (gR 2 3 a0 μ).bind fun v4 =>
      (gI 2 4 a0 μ).bind fun v5 =>
      (aI v4 v5 μ).bind fun v6 =>
      if v6 = 32 then
      (gI 2 4 a0 μ).bind fun v8 =>
      (pI 2 4 a0 (v8 + 1) μ).bind fun μ9 =>
      X2_skipBlanks_L0 a0 n μ9
      else
      some μ
set_option maxRecDepth 100000 in
set_option maxHeartbeats 4000000 in
theorem X2_skipBlanks_L0_ok {G : GL} {X : CX} (C : Ctx G X cX2_skipBlanks 1 RX2 rm_X2_skipBlanks) (a0 : Nat) : ∀ (n : Nat)  (μ : Mem) (z : Mem), X2_skipBlanks_L0 a0 n μ = some z → AW G 1 X 0 0 38 [(0, .ref (gZ G + a0))] [] z → AW G 1 X 0 0 0 [(0, .ref (gZ G + a0))] [] μ := by
  intro n
  induction n with
  | zero =>
    intro  μ z h kx
    rw [X2_skipBlanks_L0] at h
    cases h
  | succ n ih =>
    intro  μ z h kx
    rw [X2_skipBlanks_L0] at h
    refine aw_aload_n C 0 dX2_skipBlanks_0 rfl rfl ?_
    obtain ⟨v1, hv1, h⟩ := bindE h
    refine aw_gI C fl_X2_22 rfl hv1 dX2_skipBlanks_1 ?_
    refine aw_aload_n C 0 dX2_skipBlanks_4 rfl rfl ?_
    obtain ⟨v2, hv2, h⟩ := bindE h
    refine aw_gI C fl_X2_19 rfl hv2 dX2_skipBlanks_5 ?_
    refine aw_icmp_ge C 38 dX2_skipBlanks_8 (by decide) (fun c3 => ?_) (fun c3 => ?_)
    · rw [if_pos c3] at h
      have e9 := inj1 h
      subst e9
      exact aw_sub [0] rfl kx
    · rw [if_neg c3] at h
      refine aw_aload_n C 0 dX2_skipBlanks_11 rfl rfl ?_
      obtain ⟨v4, hv4, h⟩ := bindE h
      refine aw_gR C fl_X2_15 rfl hv4 dX2_skipBlanks_12 ?_
      refine aw_aload_n C 0 dX2_skipBlanks_15 rfl rfl ?_
      obtain ⟨v5, hv5, h⟩ := bindE h
      refine aw_gI C fl_X2_22 rfl hv5 dX2_skipBlanks_16 ?_
      obtain ⟨v6, hv6, h⟩ := bindE h
      refine aw_aI C hv6 dX2_skipBlanks_19 ?_
      refine aw_bipush C 32 dX2_skipBlanks_20 (by decide) ?_
      refine aw_icmp_ne C 38 dX2_skipBlanks_22 (by decide) (fun c7 => ?_) (fun c7 => ?_)
      · rw [if_neg c7] at h
        have e9 := inj1 h
        subst e9
        exact aw_sub [0] rfl kx
      · rw [if_pos c7] at h
        refine aw_aload_n C 0 dX2_skipBlanks_25 rfl rfl ?_
        refine aw_dup C dX2_skipBlanks_26 rfl ?_
        obtain ⟨v8, hv8, h⟩ := bindE h
        refine aw_gI C fl_X2_22 rfl hv8 dX2_skipBlanks_27 ?_
        refine aw_iconst C 1 dX2_skipBlanks_30 (by decide) ?_
        refine aw_iadd C dX2_skipBlanks_31 ?_
        obtain ⟨μ9, hμ9, h⟩ := bindE h
        refine aw_pI C fl_X2_22 rfl hμ9 dX2_skipBlanks_32 ?_
        refine aw_goto C 0 dX2_skipBlanks_35 (by decide) ?_
        exact aw_sub [0] rfl (ih _ _ h kx)
def X2_skipBlanks (a0 : Nat) (μ : Mem) : Option Mem :=
  (X2_skipBlanks_L0 a0 FU μ).bind fun z1 =>
  some z1
set_option maxRecDepth 100000 in
set_option maxHeartbeats 4000000 in
theorem wk_X2_skipBlanks {G : GL} {X : CX} {a0 : Nat} {μ : Mem} {μ' : Mem} (C : Ctx G X cX2_skipBlanks 1 RX2 rm_X2_skipBlanks) (h : X2_skipBlanks a0 μ = some μ') (hret : RtV G 1 X cX2_skipBlanks 0 0 μ') : AW G 1 X 0 0 0 [(0, .ref (gZ G + a0))] [] μ := by
  unfold X2_skipBlanks at h
  obtain ⟨z1, hz1, h⟩ := bindE h
  refine aw_sub [0] rfl ?_
  refine X2_skipBlanks_L0_ok C _ _ _ _ hz1 ?_
  have e9 := inj1 h
  subst e9
  exact hret _ _ dX2_skipBlanks_38
set_option maxRecDepth 100000 in
set_option maxHeartbeats 4000000 in
theorem mt_X2_skipBlanks {G : GL} {l : Launch} {a0 : Nat} {μ : Mem} {μ' : Mem} (h : X2_skipBlanks a0 μ = some μ') : MtV G l yX2_skipBlanks cX2_skipBlanks 1 none rm_X2_skipBlanks false [.ref (gZ G + a0)] μ μ' := met_V (by decide) rfl (Nat.le_of_ble_eq_true rfl) (fun X _ C _ _ hret => wk_X2_skipBlanks C h hret)
def X2_note (a0 : Nat) (x1 : Int32) (x2 : Int32) (μ : Mem) : Option Mem :=
  (gI 2 1 a0 μ).bind fun v1 =>
  ((if v1 = 0 then
  (pI 2 1 a0 x1 μ).bind fun μ3 =>
  (pI 2 2 a0 x2 μ3).bind fun μ4 =>
  some μ4
  else
  some μ) : Option (Mem)).bind fun z5 =>
  some z5
set_option maxRecDepth 100000 in
set_option maxHeartbeats 4000000 in
theorem wk_X2_note {G : GL} {X : CX} {a0 : Nat} {x1 : Int32} {x2 : Int32} {μ : Mem} {μ' : Mem} (C : Ctx G X cX2_note 3 RX2 rm_X2_note) (h : X2_note a0 x1 x2 μ = some μ') (hret : RtV G 3 X cX2_note 0 0 μ') : AW G 3 X 0 0 0 [(0, .ref (gZ G + a0)), (1, .int x1), (2, .int x2)] [] μ := by
  unfold X2_note at h
  refine aw_aload_n C 0 dX2_note_0 rfl rfl ?_
  obtain ⟨v1, hv1, h⟩ := bindE h
  refine aw_gI C fl_X2_25 rfl hv1 dX2_note_1 ?_
  obtain ⟨z5, hz5, h⟩ := bindE h
  have kj4 : AW G 3 X 0 0 17 [] [] z5 := by
    have e9 := inj1 h
    subst e9
    exact hret _ _ dX2_note_17
  replace h := hz5
  refine aw_if_ne C 17 dX2_note_4 (by decide) (fun c2 => ?_) (fun c2 => ?_)
  · rw [if_neg c2] at h
    have e9 := inj1 h
    subst e9
    exact aw_sub [] rfl kj4
  · rw [if_pos c2] at h
    refine aw_aload_n C 0 dX2_note_7 rfl rfl ?_
    refine aw_iload_n C 1 dX2_note_8 rfl rfl ?_
    obtain ⟨μ3, hμ3, h⟩ := bindE h
    refine aw_pI C fl_X2_25 rfl hμ3 dX2_note_9 ?_
    refine aw_aload_n C 0 dX2_note_12 rfl rfl ?_
    refine aw_iload_n C 2 dX2_note_13 rfl rfl ?_
    obtain ⟨μ4, hμ4, h⟩ := bindE h
    refine aw_pI C fl_X2_9 rfl hμ4 dX2_note_14 ?_
    have e9 := inj1 h
    subst e9
    exact aw_sub [] rfl kj4
set_option maxRecDepth 100000 in
set_option maxHeartbeats 4000000 in
theorem mt_X2_note {G : GL} {l : Launch} {a0 : Nat} {x1 : Int32} {x2 : Int32} {μ : Mem} {μ' : Mem} (h : X2_note a0 x1 x2 μ = some μ') : MtV G l yX2_note cX2_note 3 none rm_X2_note false [.ref (gZ G + a0), .int x1, .int x2] μ μ' := met_V (by decide) rfl (Nat.le_of_ble_eq_true rfl) (fun X _ C _ _ hret => wk_X2_note C h hret)
def X2_refuseNinth (a0 : Nat) (a1 : Nat) (x2 : Int32) (μ : Mem) : Option Mem :=
  (gI 3 0 a1 μ).bind fun v1 =>
  ((if v1 < 8 then
  some μ
  else
  (vO 2 a0 μ).bind fun g3 =>
  (X2_note a0 3 x2 μ).bind fun μ4 =>
  some μ4) : Option (Mem)).bind fun z5 =>
  some z5
set_option maxRecDepth 100000 in
set_option maxHeartbeats 4000000 in
theorem wk_X2_refuseNinth {G : GL} {X : CX} {a0 : Nat} {a1 : Nat} {x2 : Int32} {μ : Mem} {μ' : Mem} (C : Ctx G X cX2_refuseNinth 3 RX2 rm_X2_refuseNinth) (h : X2_refuseNinth a0 a1 x2 μ = some μ') (hret : RtV G 3 X cX2_refuseNinth 0 0 μ') : AW G 3 X 0 0 0 [(0, .ref (gZ G + a0)), (1, .ref (gZ G + a1)), (2, .int x2)] [] μ := by
  unfold X2_refuseNinth at h
  refine aw_aload_n C 1 dX2_refuseNinth_0 rfl rfl ?_
  obtain ⟨v1, hv1, h⟩ := bindE h
  refine aw_gI C fl_X2_28 rfl hv1 dX2_refuseNinth_1 ?_
  refine aw_bipush C 8 dX2_refuseNinth_4 (by decide) ?_
  obtain ⟨z5, hz5, h⟩ := bindE h
  have kj6 : AW G 3 X 0 0 15 [] [] z5 := by
    have e9 := inj1 h
    subst e9
    exact hret _ _ dX2_refuseNinth_15
  replace h := hz5
  refine aw_icmp_lt C 15 dX2_refuseNinth_6 (by decide) (fun c2 => ?_) (fun c2 => ?_)
  · rw [if_pos c2] at h
    have e9 := inj1 h
    subst e9
    exact aw_sub [] rfl kj6
  · rw [if_neg c2] at h
    refine aw_aload_n C 0 dX2_refuseNinth_9 rfl rfl ?_
    refine aw_iconst C 3 dX2_refuseNinth_10 (by decide) ?_
    refine aw_iload_n C 2 dX2_refuseNinth_11 rfl rfl ?_
    obtain ⟨g3, hg3, h⟩ := bindE h
    obtain ⟨μ4, hμ4, h⟩ := bindE h
    refine aw_cV_V C [.int 3, .int x2] _ (mt_X2_note hμ4) cs_X2_note ml_X2_73 im_X2_note se_X2_note (ci := 2) rfl rfl hg3 ⟨by decide, by decide⟩ ⟨rfl, rfl⟩ ⟨Nat.zero_le _, Nat.zero_le _⟩ rfl rfl (Nat.le_of_ble_eq_true rfl) dX2_refuseNinth_12 ?_
    have e9 := inj1 h
    subst e9
    exact aw_sub [] rfl kj6
set_option maxRecDepth 100000 in
set_option maxHeartbeats 4000000 in
theorem mt_X2_refuseNinth {G : GL} {l : Launch} {a0 : Nat} {a1 : Nat} {x2 : Int32} {μ : Mem} {μ' : Mem} (h : X2_refuseNinth a0 a1 x2 μ = some μ') : MtV G l yX2_refuseNinth cX2_refuseNinth 3 none rm_X2_refuseNinth false [.ref (gZ G + a0), .ref (gZ G + a1), .int x2] μ μ' := met_V (by decide) rfl (Nat.le_of_ble_eq_true rfl) (fun X _ C _ _ hret => wk_X2_refuseNinth C h hret)
def X10_within (x0 : Int32) (x1 : Int32) (x2 : Int32) : Int32 :=
  (if x0 < x1 then 0 else if x2 < x0 then 0 else 1)
set_option maxRecDepth 100000 in
set_option maxHeartbeats 4000000 in
theorem wk_X10_within {G : GL} {X : CX} {x0 : Int32} {x1 : Int32} {x2 : Int32} {μ : Mem} (C : Ctx G X cX10_within 3 RX10 rm_X10_within) (hret : RtZ G 3 X cX10_within 0 0 (X10_within x0 x1 x2) μ) : AW G 3 X 0 0 0 [(0, .int x0), (1, .int x1), (2, .int x2)] [] μ := by
  unfold X10_within at hret
  refine aw_iload_n C 0 dX10_within_0 rfl rfl ?_
  refine aw_iload_n C 1 dX10_within_1 rfl rfl ?_
  have kj2 : ∀ (q2_0 : Int32), q2_0 = (if x0 < x1 then 0 else if x2 < x0 then 0 else 1) → AW G 3 X 0 0 15 [] [.int q2_0] μ := by
    rintro _ rfl
    exact hret _ _ dX10_within_15 (by repeat (first | exact Or.inl rfl | exact Or.inr rfl | split))
  refine aw_icmp_lt C 14 dX10_within_2 (by decide) (fun c1 => ?_) (fun c1 => ?_)
  · refine aw_iconst C 0 dX10_within_14 (by decide) ?_
    exact aw_sub [] rfl (kj2 _ (by simp only [if_pos c1]))
  · refine aw_iload_n C 0 dX10_within_5 rfl rfl ?_
    refine aw_iload_n C 2 dX10_within_6 rfl rfl ?_
    refine aw_icmp_gt C 14 dX10_within_7 (by decide) (fun c2 => ?_) (fun c2 => ?_)
    · refine aw_iconst C 0 dX10_within_14 (by decide) ?_
      exact aw_sub [] rfl (kj2 _ (by simp only [if_neg c1, if_pos c2]))
    · refine aw_iconst C 1 dX10_within_10 (by decide) ?_
      refine aw_goto C 15 dX10_within_11 (by decide) ?_
      exact aw_sub [] rfl (kj2 _ (by simp only [if_neg c1, if_neg c2]))
set_option maxRecDepth 100000 in
set_option maxHeartbeats 4000000 in
theorem mt_X10_within {G : GL} {l : Launch} (x0 : Int32) (x1 : Int32) (x2 : Int32) {μ : Mem} : MtI G l yX10_within cX10_within 3 (some .boolean) rm_X10_within false [.int x0, .int x1, .int x2] μ (X10_within x0 x1 x2) μ := met_Z (by decide) rfl (Nat.le_of_ble_eq_true rfl) (fun X _ C _ _ hret => wk_X10_within C hret)
theorem z_X10_within (x0 : Int32) (x1 : Int32) (x2 : Int32) : X10_within x0 x1 x2 = 0 ∨ X10_within x0 x1 x2 = 1 := by
  unfold X10_within
  repeat (first | exact Or.inl rfl | exact Or.inr rfl | split)
def X2_takeNumber_L21 (a0 : Nat) (x1 : Int32) (x2 : Int32) (x3 : Int32) : Nat → Int32 → Mem → Option (Int32 × Mem)
  | 0, _, _ => none
  | n + 1, x4, μ =>
      (gI 2 4 a0 μ).bind fun v1 =>
      (gI 2 0 a0 μ).bind fun v2 =>
      if v2 ≤ v1 then
      some ((x4, μ))
      else
      (gR 2 3 a0 μ).bind fun v4 =>
      (gI 2 4 a0 μ).bind fun v5 =>
      (aI v4 v5 μ).bind fun v6 =>
      if v6 < 48 then
      some ((x4, μ))
      else
      (gR 2 3 a0 μ).bind fun v8 =>
      (gI 2 4 a0 μ).bind fun v9 =>
      (aI v8 v9 μ).bind fun v10 =>
      if (57 : Int32) < v10 then
      some ((x4, μ))
      else
      (gI 2 4 a0 μ).bind fun v12 =>
      ((if (3 : Int32) ≤ (v12 - x3) then
      some x4
      else
      (gR 2 3 a0 μ).bind fun v14 =>
      (gI 2 4 a0 μ).bind fun v15 =>
      (aI v14 v15 μ).bind fun v16 =>
      some (((x4 * 10) + v16) - 48)) : Option (Int32)).bind fun z17 =>
      (gI 2 4 a0 μ).bind fun v18 =>
      (pI 2 4 a0 (v18 + 1) μ).bind fun μ19 =>
      X2_takeNumber_L21 a0 x1 x2 x3 n z17 μ19
set_option maxRecDepth 100000 in
set_option maxHeartbeats 4000000 in
theorem X2_takeNumber_L21_ok {G : GL} {X : CX} (C : Ctx G X cX2_takeNumber 5 RX2 rm_X2_takeNumber) (a0 : Nat) (x1 : Int32) (x2 : Int32) (x3 : Int32) : ∀ (n : Nat) (x4 : Int32) (μ : Mem) (z : Int32 × Mem), X2_takeNumber_L21 a0 x1 x2 x3 n x4 μ = some z → AW G 5 X 0 0 103 [(0, .ref (gZ G + a0)), (1, .int x1), (2, .int x2), (3, .int x3), (4, .int z.1)] [] z.2 → AW G 5 X 0 0 21 [(0, .ref (gZ G + a0)), (1, .int x1), (2, .int x2), (3, .int x3), (4, .int x4)] [] μ := by
  intro n
  induction n with
  | zero =>
    intro x4 μ z h kx
    rw [X2_takeNumber_L21] at h
    cases h
  | succ n ih =>
    intro x4 μ z h kx
    rw [X2_takeNumber_L21] at h
    refine aw_aload_n C 0 dX2_takeNumber_21 rfl rfl ?_
    obtain ⟨v1, hv1, h⟩ := bindE h
    refine aw_gI C fl_X2_22 rfl hv1 dX2_takeNumber_22 ?_
    refine aw_aload_n C 0 dX2_takeNumber_25 rfl rfl ?_
    obtain ⟨v2, hv2, h⟩ := bindE h
    refine aw_gI C fl_X2_19 rfl hv2 dX2_takeNumber_26 ?_
    refine aw_icmp_ge C 103 dX2_takeNumber_29 (by decide) (fun c3 => ?_) (fun c3 => ?_)
    · rw [if_pos c3] at h
      have e9 := inj1 h
      subst e9
      exact aw_sub [0, 1, 2, 3, 4] rfl kx
    · rw [if_neg c3] at h
      refine aw_aload_n C 0 dX2_takeNumber_32 rfl rfl ?_
      obtain ⟨v4, hv4, h⟩ := bindE h
      refine aw_gR C fl_X2_15 rfl hv4 dX2_takeNumber_33 ?_
      refine aw_aload_n C 0 dX2_takeNumber_36 rfl rfl ?_
      obtain ⟨v5, hv5, h⟩ := bindE h
      refine aw_gI C fl_X2_22 rfl hv5 dX2_takeNumber_37 ?_
      obtain ⟨v6, hv6, h⟩ := bindE h
      refine aw_aI C hv6 dX2_takeNumber_40 ?_
      refine aw_bipush C 48 dX2_takeNumber_41 (by decide) ?_
      refine aw_icmp_lt C 103 dX2_takeNumber_43 (by decide) (fun c7 => ?_) (fun c7 => ?_)
      · rw [if_pos c7] at h
        have e9 := inj1 h
        subst e9
        exact aw_sub [0, 1, 2, 3, 4] rfl kx
      · rw [if_neg c7] at h
        refine aw_aload_n C 0 dX2_takeNumber_46 rfl rfl ?_
        obtain ⟨v8, hv8, h⟩ := bindE h
        refine aw_gR C fl_X2_15 rfl hv8 dX2_takeNumber_47 ?_
        refine aw_aload_n C 0 dX2_takeNumber_50 rfl rfl ?_
        obtain ⟨v9, hv9, h⟩ := bindE h
        refine aw_gI C fl_X2_22 rfl hv9 dX2_takeNumber_51 ?_
        obtain ⟨v10, hv10, h⟩ := bindE h
        refine aw_aI C hv10 dX2_takeNumber_54 ?_
        refine aw_bipush C 57 dX2_takeNumber_55 (by decide) ?_
        refine aw_icmp_gt C 103 dX2_takeNumber_57 (by decide) (fun c11 => ?_) (fun c11 => ?_)
        · rw [if_pos c11] at h
          have e9 := inj1 h
          subst e9
          exact aw_sub [0, 1, 2, 3, 4] rfl kx
        · rw [if_neg c11] at h
          refine aw_aload_n C 0 dX2_takeNumber_60 rfl rfl ?_
          obtain ⟨v12, hv12, h⟩ := bindE h
          refine aw_gI C fl_X2_22 rfl hv12 dX2_takeNumber_61 ?_
          refine aw_iload_n C 3 dX2_takeNumber_64 rfl rfl ?_
          refine aw_isub C dX2_takeNumber_65 ?_
          refine aw_iconst C 3 dX2_takeNumber_66 (by decide) ?_
          obtain ⟨z17, hz17, h⟩ := bindE h
          have kj67 : AW G 5 X 0 0 90 [(0, .ref (gZ G + a0)), (1, .int x1), (2, .int x2), (3, .int x3), (4, .int z17)] [] μ := by
            refine aw_aload_n C 0 dX2_takeNumber_90 rfl rfl ?_
            refine aw_dup C dX2_takeNumber_91 rfl ?_
            obtain ⟨v18, hv18, h⟩ := bindE h
            refine aw_gI C fl_X2_22 rfl hv18 dX2_takeNumber_92 ?_
            refine aw_iconst C 1 dX2_takeNumber_95 (by decide) ?_
            refine aw_iadd C dX2_takeNumber_96 ?_
            obtain ⟨μ19, hμ19, h⟩ := bindE h
            refine aw_pI C fl_X2_22 rfl hμ19 dX2_takeNumber_97 ?_
            refine aw_goto C 21 dX2_takeNumber_100 (by decide) ?_
            exact aw_sub [0, 1, 2, 3, 4] rfl (ih _ _ _ h kx)
          replace h := hz17
          refine aw_icmp_ge C 90 dX2_takeNumber_67 (by decide) (fun c13 => ?_) (fun c13 => ?_)
          · rw [if_pos c13] at h
            have e9 := inj1 h
            subst e9
            exact aw_sub [0, 1, 2, 3, 4] rfl kj67
          · rw [if_neg c13] at h
            refine aw_iload C 4 dX2_takeNumber_70 rfl ?_
            refine aw_bipush C 10 dX2_takeNumber_72 (by decide) ?_
            refine aw_imul C dX2_takeNumber_74 ?_
            refine aw_aload_n C 0 dX2_takeNumber_75 rfl rfl ?_
            obtain ⟨v14, hv14, h⟩ := bindE h
            refine aw_gR C fl_X2_15 rfl hv14 dX2_takeNumber_76 ?_
            refine aw_aload_n C 0 dX2_takeNumber_79 rfl rfl ?_
            obtain ⟨v15, hv15, h⟩ := bindE h
            refine aw_gI C fl_X2_22 rfl hv15 dX2_takeNumber_80 ?_
            obtain ⟨v16, hv16, h⟩ := bindE h
            refine aw_aI C hv16 dX2_takeNumber_83 ?_
            refine aw_iadd C dX2_takeNumber_84 ?_
            refine aw_bipush C 48 dX2_takeNumber_85 (by decide) ?_
            refine aw_isub C dX2_takeNumber_87 ?_
            refine aw_istore C [(4, .int (((x4 * 10) + v16) - 48)), (0, .ref (gZ G + a0)), (1, .int x1), (2, .int x2), (3, .int x3)] dX2_takeNumber_88 (by decide) rfl ?_
            have e9 := inj1 h
            subst e9
            exact aw_sub [1, 2, 3, 4, 0] rfl kj67
def X2_takeNumber (a0 : Nat) (x1 : Int32) (x2 : Int32) (μ : Mem) : Option (Int32 × Mem) :=
  (gI 2 1 a0 μ).bind fun v1 =>
  if v1 = 0 then
  (vO 2 a0 μ).bind fun g3 =>
  (X2_skipBlanks a0 μ).bind fun μ4 =>
  (gI 2 4 a0 μ4).bind fun v5 =>
  (X2_takeNumber_L21 a0 x1 x2 v5 FU 0 μ4).bind fun z6 =>
  (gI 2 4 a0 z6.2).bind fun v7 =>
  ((if v7 = v5 then
  (vO 2 a0 z6.2).bind fun g16 =>
  (X2_note a0 1 v5 z6.2).bind fun μ17 =>
  some μ17
  else
  (gI 2 4 a0 z6.2).bind fun v9 =>
  if (3 : Int32) < (v9 - v5) then
  (vO 2 a0 z6.2).bind fun g11 =>
  (X2_note a0 2 v5 z6.2).bind fun μ12 =>
  some μ12
  else
  if (X10_within z6.1 x1 x2) = 0 then
  (vO 2 a0 z6.2).bind fun g14 =>
  (X2_note a0 2 v5 z6.2).bind fun μ15 =>
  some μ15
  else
  some z6.2) : Option (Mem)).bind fun z18 =>
  some (z6.1, z18)
  else
  some (0, μ)
set_option maxRecDepth 100000 in
set_option maxHeartbeats 4000000 in
theorem wk_X2_takeNumber {G : GL} {X : CX} {a0 : Nat} {x1 : Int32} {x2 : Int32} {μ : Mem} {r : Int32} {μ' : Mem} (C : Ctx G X cX2_takeNumber 5 RX2 rm_X2_takeNumber) (h : X2_takeNumber a0 x1 x2 μ = some (r, μ')) (hret : RtI G 5 X cX2_takeNumber 0 0 r μ') : AW G 5 X 0 0 0 [(0, .ref (gZ G + a0)), (1, .int x1), (2, .int x2)] [] μ := by
  unfold X2_takeNumber at h
  refine aw_aload_n C 0 dX2_takeNumber_0 rfl rfl ?_
  obtain ⟨v1, hv1, h⟩ := bindE h
  refine aw_gI C fl_X2_25 rfl hv1 dX2_takeNumber_1 ?_
  refine aw_if_eq C 9 dX2_takeNumber_4 (by decide) (fun c2 => ?_) (fun c2 => ?_)
  · rw [if_pos c2] at h
    refine aw_aload_n C 0 dX2_takeNumber_9 rfl rfl ?_
    obtain ⟨g3, hg3, h⟩ := bindE h
    obtain ⟨μ4, hμ4, h⟩ := bindE h
    refine aw_cV_V C [] _ (mt_X2_skipBlanks hμ4) cs_X2_skipBlanks ml_X2_33 im_X2_skipBlanks se_X2_skipBlanks (ci := 2) rfl rfl hg3 ⟨by decide, by decide⟩ ⟨rfl, rfl⟩ ⟨Nat.zero_le _, Nat.zero_le _⟩ rfl rfl (Nat.le_of_ble_eq_true rfl) dX2_takeNumber_10 ?_
    refine aw_aload_n C 0 dX2_takeNumber_13 rfl rfl ?_
    obtain ⟨v5, hv5, h⟩ := bindE h
    refine aw_gI C fl_X2_22 rfl hv5 dX2_takeNumber_14 ?_
    refine aw_istore_n C [(3, .int v5), (0, .ref (gZ G + a0)), (1, .int x1), (2, .int x2)] dX2_takeNumber_17 rfl (by decide) rfl ?_
    refine aw_iconst C 0 dX2_takeNumber_18 (by decide) ?_
    refine aw_istore C [(4, .int 0), (3, .int v5), (0, .ref (gZ G + a0)), (1, .int x1), (2, .int x2)] dX2_takeNumber_19 (by decide) rfl ?_
    obtain ⟨z6, hz6, h⟩ := bindE h
    refine aw_sub [2, 3, 4, 1, 0] rfl ?_
    refine X2_takeNumber_L21_ok C _ _ _ _ _ _ _ _ hz6 ?_
    refine aw_aload_n C 0 dX2_takeNumber_103 rfl rfl ?_
    obtain ⟨v7, hv7, h⟩ := bindE h
    refine aw_gI C fl_X2_22 rfl hv7 dX2_takeNumber_104 ?_
    refine aw_iload_n C 3 dX2_takeNumber_107 rfl rfl ?_
    obtain ⟨z18, hz18, h⟩ := bindE h
    have kj108 : AW G 5 X 0 0 146 [(4, .int z6.1)] [] z18 := by
      refine aw_iload C 0 dX2_takeNumber_146 rfl ?_
      obtain ⟨e8, e9⟩ := inj2 h
      subst e8
      subst e9
      exact hret _ _ dX2_takeNumber_148
    replace h := hz18
    refine aw_icmp_ne C 120 dX2_takeNumber_108 (by decide) (fun c8 => ?_) (fun c8 => ?_)
    · rw [if_neg c8] at h
      refine aw_aload_n C 0 dX2_takeNumber_120 rfl rfl ?_
      obtain ⟨v9, hv9, h⟩ := bindE h
      refine aw_gI C fl_X2_22 rfl hv9 dX2_takeNumber_121 ?_
      refine aw_iload_n C 3 dX2_takeNumber_124 rfl rfl ?_
      refine aw_isub C dX2_takeNumber_125 ?_
      refine aw_iconst C 3 dX2_takeNumber_126 (by decide) ?_
      refine aw_icmp_gt C 140 dX2_takeNumber_127 (by decide) (fun c10 => ?_) (fun c10 => ?_)
      · rw [if_pos c10] at h
        refine aw_aload_n C 0 dX2_takeNumber_140 rfl rfl ?_
        refine aw_iconst C 2 dX2_takeNumber_141 (by decide) ?_
        refine aw_iload_n C 3 dX2_takeNumber_142 rfl rfl ?_
        obtain ⟨g11, hg11, h⟩ := bindE h
        obtain ⟨μ12, hμ12, h⟩ := bindE h
        refine aw_cV_V C [.int 2, .int v5] _ (mt_X2_note hμ12) cs_X2_note ml_X2_73 im_X2_note se_X2_note (ci := 2) rfl rfl hg11 ⟨by decide, by decide⟩ ⟨rfl, rfl⟩ ⟨Nat.zero_le _, Nat.zero_le _⟩ rfl rfl (Nat.le_of_ble_eq_true rfl) dX2_takeNumber_143 ?_
        have e9 := inj1 h
        subst e9
        exact aw_sub [4] rfl kj108
      · rw [if_neg c10] at h
        refine aw_iload C 4 dX2_takeNumber_130 rfl ?_
        refine aw_iload_n C 1 dX2_takeNumber_132 rfl rfl ?_
        refine aw_iload_n C 2 dX2_takeNumber_133 rfl rfl ?_
        refine aw_cSN_I C [.int z6.1, .int x1, .int x2] _ (mt_X10_within _ _ _) cs_X10_within ml_X2_98 st_X10_within ⟨by decide, by decide⟩ ⟨rfl, rfl⟩ ⟨Nat.zero_le _, Nat.zero_le _⟩ rfl rfl (Nat.le_of_ble_eq_true rfl) dX2_takeNumber_134 ?_
        refine aw_if_ne C 146 dX2_takeNumber_137 (by decide) (fun c13 => ?_) (fun c13 => ?_)
        · rw [if_neg c13] at h
          have e9 := inj1 h
          subst e9
          exact aw_sub [4] rfl kj108
        · rw [if_pos c13] at h
          refine aw_aload_n C 0 dX2_takeNumber_140 rfl rfl ?_
          refine aw_iconst C 2 dX2_takeNumber_141 (by decide) ?_
          refine aw_iload_n C 3 dX2_takeNumber_142 rfl rfl ?_
          obtain ⟨g14, hg14, h⟩ := bindE h
          obtain ⟨μ15, hμ15, h⟩ := bindE h
          refine aw_cV_V C [.int 2, .int v5] _ (mt_X2_note hμ15) cs_X2_note ml_X2_73 im_X2_note se_X2_note (ci := 2) rfl rfl hg14 ⟨by decide, by decide⟩ ⟨rfl, rfl⟩ ⟨Nat.zero_le _, Nat.zero_le _⟩ rfl rfl (Nat.le_of_ble_eq_true rfl) dX2_takeNumber_143 ?_
          have e9 := inj1 h
          subst e9
          exact aw_sub [4] rfl kj108
    · rw [if_pos c8] at h
      refine aw_aload_n C 0 dX2_takeNumber_111 rfl rfl ?_
      refine aw_iconst C 1 dX2_takeNumber_112 (by decide) ?_
      refine aw_iload_n C 3 dX2_takeNumber_113 rfl rfl ?_
      obtain ⟨g16, hg16, h⟩ := bindE h
      obtain ⟨μ17, hμ17, h⟩ := bindE h
      refine aw_cV_V C [.int 1, .int v5] _ (mt_X2_note hμ17) cs_X2_note ml_X2_73 im_X2_note se_X2_note (ci := 2) rfl rfl hg16 ⟨by decide, by decide⟩ ⟨rfl, rfl⟩ ⟨Nat.zero_le _, Nat.zero_le _⟩ rfl rfl (Nat.le_of_ble_eq_true rfl) dX2_takeNumber_114 ?_
      refine aw_goto C 146 dX2_takeNumber_117 (by decide) ?_
      have e9 := inj1 h
      subst e9
      exact aw_sub [4] rfl kj108
  · rw [if_neg c2] at h
    refine aw_iconst C 0 dX2_takeNumber_7 (by decide) ?_
    obtain ⟨e8, e9⟩ := inj2 h
    subst e8
    subst e9
    exact hret _ _ dX2_takeNumber_8
set_option maxRecDepth 100000 in
set_option maxHeartbeats 4000000 in
theorem mt_X2_takeNumber {G : GL} {l : Launch} {a0 : Nat} {x1 : Int32} {x2 : Int32} {μ : Mem} {r : Int32} {μ' : Mem} (h : X2_takeNumber a0 x1 x2 μ = some (r, μ')) : MtI G l yX2_takeNumber cX2_takeNumber 5 (some .int) rm_X2_takeNumber false [.ref (gZ G + a0), .int x1, .int x2] μ r μ' := met_I (by decide) rfl rfl (Nat.le_of_ble_eq_true rfl) (fun X _ C _ _ hret => wk_X2_takeNumber C h hret)
def X3_add (a0 : Nat) (x1 : Int32) (x2 : Int32) (x3 : Int32) (x4 : Int32) (μ : Mem) : Option Mem :=
  (gI 3 0 a0 μ).bind fun v1 =>
  ((if (8 : Int32) ≤ v1 then
  some μ
  else
  (gR 3 1 a0 μ).bind fun v3 =>
  (gI 3 0 a0 μ).bind fun v4 =>
  (sI v3 v4 x1 μ).bind fun μ5 =>
  (gR 3 2 a0 μ5).bind fun v6 =>
  (gI 3 0 a0 μ5).bind fun v7 =>
  (sI v6 v7 x2 μ5).bind fun μ8 =>
  (gR 3 3 a0 μ8).bind fun v9 =>
  (gI 3 0 a0 μ8).bind fun v10 =>
  (sI v9 v10 x3 μ8).bind fun μ11 =>
  (gR 3 4 a0 μ11).bind fun v12 =>
  (gI 3 0 a0 μ11).bind fun v13 =>
  (sI v12 v13 x4 μ11).bind fun μ14 =>
  (gI 3 0 a0 μ14).bind fun v15 =>
  (pI 3 0 a0 (v15 + 1) μ14).bind fun μ16 =>
  some μ16) : Option (Mem)).bind fun z17 =>
  some z17
set_option maxRecDepth 100000 in
set_option maxHeartbeats 4000000 in
theorem wk_X3_add {G : GL} {X : CX} {a0 : Nat} {x1 : Int32} {x2 : Int32} {x3 : Int32} {x4 : Int32} {μ : Mem} {μ' : Mem} (C : Ctx G X cX3_add 5 RX3 rm_X3_add) (h : X3_add a0 x1 x2 x3 x4 μ = some μ') (hret : RtV G 5 X cX3_add 0 0 μ') : AW G 5 X 0 0 0 [(0, .ref (gZ G + a0)), (1, .int x1), (2, .int x2), (3, .int x3), (4, .int x4)] [] μ := by
  unfold X3_add at h
  refine aw_aload_n C 0 dX3_add_0 rfl rfl ?_
  obtain ⟨v1, hv1, h⟩ := bindE h
  refine aw_gI C fl_X3_24 rfl hv1 dX3_add_1 ?_
  refine aw_bipush C 8 dX3_add_4 (by decide) ?_
  obtain ⟨z17, hz17, h⟩ := bindE h
  have kj6 : AW G 5 X 0 0 60 [] [] z17 := by
    have e9 := inj1 h
    subst e9
    exact hret _ _ dX3_add_60
  replace h := hz17
  refine aw_icmp_ge C 60 dX3_add_6 (by decide) (fun c2 => ?_) (fun c2 => ?_)
  · rw [if_pos c2] at h
    have e9 := inj1 h
    subst e9
    exact aw_sub [] rfl kj6
  · rw [if_neg c2] at h
    refine aw_aload_n C 0 dX3_add_9 rfl rfl ?_
    obtain ⟨v3, hv3, h⟩ := bindE h
    refine aw_gR C fl_X3_9 rfl hv3 dX3_add_10 ?_
    refine aw_aload_n C 0 dX3_add_13 rfl rfl ?_
    obtain ⟨v4, hv4, h⟩ := bindE h
    refine aw_gI C fl_X3_24 rfl hv4 dX3_add_14 ?_
    refine aw_iload_n C 1 dX3_add_17 rfl rfl ?_
    obtain ⟨μ5, hμ5, h⟩ := bindE h
    refine aw_sI C hμ5 dX3_add_18 ?_
    refine aw_aload_n C 0 dX3_add_19 rfl rfl ?_
    obtain ⟨v6, hv6, h⟩ := bindE h
    refine aw_gR C fl_X3_15 rfl hv6 dX3_add_20 ?_
    refine aw_aload_n C 0 dX3_add_23 rfl rfl ?_
    obtain ⟨v7, hv7, h⟩ := bindE h
    refine aw_gI C fl_X3_24 rfl hv7 dX3_add_24 ?_
    refine aw_iload_n C 2 dX3_add_27 rfl rfl ?_
    obtain ⟨μ8, hμ8, h⟩ := bindE h
    refine aw_sI C hμ8 dX3_add_28 ?_
    refine aw_aload_n C 0 dX3_add_29 rfl rfl ?_
    obtain ⟨v9, hv9, h⟩ := bindE h
    refine aw_gR C fl_X3_18 rfl hv9 dX3_add_30 ?_
    refine aw_aload_n C 0 dX3_add_33 rfl rfl ?_
    obtain ⟨v10, hv10, h⟩ := bindE h
    refine aw_gI C fl_X3_24 rfl hv10 dX3_add_34 ?_
    refine aw_iload_n C 3 dX3_add_37 rfl rfl ?_
    obtain ⟨μ11, hμ11, h⟩ := bindE h
    refine aw_sI C hμ11 dX3_add_38 ?_
    refine aw_aload_n C 0 dX3_add_39 rfl rfl ?_
    obtain ⟨v12, hv12, h⟩ := bindE h
    refine aw_gR C fl_X3_21 rfl hv12 dX3_add_40 ?_
    refine aw_aload_n C 0 dX3_add_43 rfl rfl ?_
    obtain ⟨v13, hv13, h⟩ := bindE h
    refine aw_gI C fl_X3_24 rfl hv13 dX3_add_44 ?_
    refine aw_iload C 4 dX3_add_47 rfl ?_
    obtain ⟨μ14, hμ14, h⟩ := bindE h
    refine aw_sI C hμ14 dX3_add_49 ?_
    refine aw_aload_n C 0 dX3_add_50 rfl rfl ?_
    refine aw_dup C dX3_add_51 rfl ?_
    obtain ⟨v15, hv15, h⟩ := bindE h
    refine aw_gI C fl_X3_24 rfl hv15 dX3_add_52 ?_
    refine aw_iconst C 1 dX3_add_55 (by decide) ?_
    refine aw_iadd C dX3_add_56 ?_
    obtain ⟨μ16, hμ16, h⟩ := bindE h
    refine aw_pI C fl_X3_24 rfl hμ16 dX3_add_57 ?_
    have e9 := inj1 h
    subst e9
    exact aw_sub [] rfl kj6
set_option maxRecDepth 100000 in
set_option maxHeartbeats 4000000 in
theorem mt_X3_add {G : GL} {l : Launch} {a0 : Nat} {x1 : Int32} {x2 : Int32} {x3 : Int32} {x4 : Int32} {μ : Mem} {μ' : Mem} (h : X3_add a0 x1 x2 x3 x4 μ = some μ') : MtV G l yX3_add cX3_add 5 none rm_X3_add false [.ref (gZ G + a0), .int x1, .int x2, .int x3, .int x4] μ μ' := met_V (by decide) rfl (Nat.le_of_ble_eq_true rfl) (fun X _ C _ _ hret => wk_X3_add C h hret)
