theorem dJ0_length_8abf5_0 : decode cJ0_length_8abf5 0 = .ok (.aload_n 0, 1) := by decide +kernel
theorem dJ0_length_8abf5_1 : decode cJ0_length_8abf5 1 = .ok (.getfield 9, 3) := by decide +kernel
theorem dJ0_length_8abf5_4 : decode cJ0_length_8abf5 4 = .ok (.arraylength, 1) := by decide +kernel
theorem dJ0_length_8abf5_5 : decode cJ0_length_8abf5 5 = .ok (.aload_n 0, 1) := by decide +kernel
theorem dJ0_length_8abf5_6 : decode cJ0_length_8abf5 6 = .ok (.invokevirtual 335, 3) := by decide +kernel
theorem dJ0_length_8abf5_9 : decode cJ0_length_8abf5 9 = .ok (.ishr, 1) := by decide +kernel
theorem dJ0_length_8abf5_10 : decode cJ0_length_8abf5 10 = .ok (.ireturn, 1) := by decide +kernel
theorem cs_J0_length_8abf5 : CS yJ0_length_8abf5 cJ0_length_8abf5 1 (some .int) 0 := ⟨mg 603 (by decide +kernel) rfl, mg 15 (by decide +kernel) rfl, by decide +kernel⟩
theorem im_J0_length_8abf5 : Cond.instanceMethod yJ0_length_8abf5 ∈ gw := mg 601 (by decide +kernel) rfl
theorem se_J0_length_8abf5 : Cond.selects "java/lang/String" yJ0_length_8abf5 yJ0_length_8abf5 ∈ gw := mg 602 (by decide +kernel) rfl
theorem dJ0_charAt_5068e_0 : decode cJ0_charAt_5068e 0 = .ok (.aload_n 0, 1) := by decide +kernel
theorem dJ0_charAt_5068e_1 : decode cJ0_charAt_5068e 1 = .ok (.invokevirtual 492, 3) := by decide +kernel
theorem dJ0_charAt_5068e_4 : decode cJ0_charAt_5068e 4 = .ok (.ifCond .eq 12, 3) := by decide +kernel
theorem dJ0_charAt_5068e_7 : decode cJ0_charAt_5068e 7 = .ok (.aload_n 0, 1) := by decide +kernel
theorem dJ0_charAt_5068e_8 : decode cJ0_charAt_5068e 8 = .ok (.getfield 9, 3) := by decide +kernel
theorem dJ0_charAt_5068e_11 : decode cJ0_charAt_5068e 11 = .ok (.iload_n 1, 1) := by decide +kernel
theorem dJ0_charAt_5068e_12 : decode cJ0_charAt_5068e 12 = .ok (.invokestatic 495, 3) := by decide +kernel
theorem dJ0_charAt_5068e_15 : decode cJ0_charAt_5068e 15 = .ok (.ireturn, 1) := by decide +kernel
theorem dJ0_charAt_5068e_16 : decode cJ0_charAt_5068e 16 = .ok (.aload_n 0, 1) := by decide +kernel
theorem dJ0_charAt_5068e_17 : decode cJ0_charAt_5068e 17 = .ok (.getfield 9, 3) := by decide +kernel
theorem dJ0_charAt_5068e_20 : decode cJ0_charAt_5068e 20 = .ok (.iload_n 1, 1) := by decide +kernel
theorem dJ0_charAt_5068e_21 : decode cJ0_charAt_5068e 21 = .ok (.invokestatic 498, 3) := by decide +kernel
theorem dJ0_charAt_5068e_24 : decode cJ0_charAt_5068e 24 = .ok (.ireturn, 1) := by decide +kernel
theorem cs_J0_charAt_5068e : CS yJ0_charAt_5068e cJ0_charAt_5068e 2 (some .char) 1 := ⟨mg 613 (by decide +kernel) rfl, mg 15 (by decide +kernel) rfl, by decide +kernel⟩
theorem im_J0_charAt_5068e : Cond.instanceMethod yJ0_charAt_5068e ∈ gw := mg 611 (by decide +kernel) rfl
theorem se_J0_charAt_5068e : Cond.selects "java/lang/String" yJ0_charAt_5068e yJ0_charAt_5068e ∈ gw := mg 612 (by decide +kernel) rfl
theorem dJ0_coder_7d493_0 : decode cJ0_coder_7d493 0 = .ok (.getstatic 38, 3) := by decide +kernel
theorem dJ0_coder_7d493_3 : decode cJ0_coder_7d493 3 = .ok (.ifCond .eq 10, 3) := by decide +kernel
theorem dJ0_coder_7d493_6 : decode cJ0_coder_7d493 6 = .ok (.aload_n 0, 1) := by decide +kernel
theorem dJ0_coder_7d493_7 : decode cJ0_coder_7d493 7 = .ok (.getfield 15, 3) := by decide +kernel
theorem dJ0_coder_7d493_10 : decode cJ0_coder_7d493 10 = .ok (.goto 4, 3) := by decide +kernel
theorem dJ0_coder_7d493_13 : decode cJ0_coder_7d493 13 = .ok (.iconst 1, 1) := by decide +kernel
theorem dJ0_coder_7d493_14 : decode cJ0_coder_7d493 14 = .ok (.ireturn, 1) := by decide +kernel
theorem cs_J0_coder_7d493 : CS yJ0_coder_7d493 cJ0_coder_7d493 1 (some .byte) 0 := ⟨mg 607 (by decide +kernel) rfl, mg 15 (by decide +kernel) rfl, by decide +kernel⟩
theorem im_J0_coder_7d493 : Cond.instanceMethod yJ0_coder_7d493 ∈ gw := mg 605 (by decide +kernel) rfl
theorem se_J0_coder_7d493 : Cond.selects "java/lang/String" yJ0_coder_7d493 yJ0_coder_7d493 ∈ gw := mg 606 (by decide +kernel) rfl
theorem dJ0_isLatin1_aae02_0 : decode cJ0_isLatin1_aae02 0 = .ok (.getstatic 38, 3) := by decide +kernel
theorem dJ0_isLatin1_aae02_3 : decode cJ0_isLatin1_aae02 3 = .ok (.ifCond .eq 14, 3) := by decide +kernel
theorem dJ0_isLatin1_aae02_6 : decode cJ0_isLatin1_aae02 6 = .ok (.aload_n 0, 1) := by decide +kernel
theorem dJ0_isLatin1_aae02_7 : decode cJ0_isLatin1_aae02 7 = .ok (.getfield 15, 3) := by decide +kernel
theorem dJ0_isLatin1_aae02_10 : decode cJ0_isLatin1_aae02 10 = .ok (.ifCond .ne 7, 3) := by decide +kernel
theorem dJ0_isLatin1_aae02_13 : decode cJ0_isLatin1_aae02 13 = .ok (.iconst 1, 1) := by decide +kernel
theorem dJ0_isLatin1_aae02_14 : decode cJ0_isLatin1_aae02 14 = .ok (.goto 4, 3) := by decide +kernel
theorem dJ0_isLatin1_aae02_17 : decode cJ0_isLatin1_aae02 17 = .ok (.iconst 0, 1) := by decide +kernel
theorem dJ0_isLatin1_aae02_18 : decode cJ0_isLatin1_aae02 18 = .ok (.ireturn, 1) := by decide +kernel
theorem cs_J0_isLatin1_aae02 : CS yJ0_isLatin1_aae02 cJ0_isLatin1_aae02 1 (some .boolean) 0 := ⟨mg 617 (by decide +kernel) rfl, mg 15 (by decide +kernel) rfl, by decide +kernel⟩
theorem im_J0_isLatin1_aae02 : Cond.instanceMethod yJ0_isLatin1_aae02 ∈ gw := mg 615 (by decide +kernel) rfl
theorem se_J0_isLatin1_aae02 : Cond.selects "java/lang/String" yJ0_isLatin1_aae02 yJ0_isLatin1_aae02 ∈ gw := mg 616 (by decide +kernel) rfl
theorem dJ0_checkIndex_df160_0 : decode cJ0_checkIndex_df160 0 = .ok (.iload_n 0, 1) := by decide +kernel
theorem dJ0_checkIndex_df160_1 : decode cJ0_checkIndex_df160 1 = .ok (.iload_n 1, 1) := by decide +kernel
theorem dJ0_checkIndex_df160_2 : decode cJ0_checkIndex_df160 2 = .ok (.getstatic 1053, 3) := by decide +kernel
theorem dJ0_checkIndex_df160_5 : decode cJ0_checkIndex_df160 5 = .ok (.invokestatic 1059, 3) := by decide +kernel
theorem dJ0_checkIndex_df160_8 : decode cJ0_checkIndex_df160 8 = .ok (.pop, 1) := by decide +kernel
theorem dJ0_checkIndex_df160_9 : decode cJ0_checkIndex_df160 9 = .ok (.return_, 1) := by decide +kernel
theorem cs_J0_checkIndex_df160 : CS yJ0_checkIndex_df160 cJ0_checkIndex_df160 2 none 2 := ⟨mg 623 (by decide +kernel) rfl, mg 15 (by decide +kernel) rfl, by decide +kernel⟩
theorem st_J0_checkIndex_df160 : Cond.static yJ0_checkIndex_df160 ∈ gw := mg 622 (by decide +kernel) rfl
theorem dJ1_charAt_3b067_0 : decode cJ1_charAt_3b067 0 = .ok (.iload_n 1, 1) := by decide +kernel
theorem dJ1_charAt_3b067_1 : decode cJ1_charAt_3b067 1 = .ok (.aload_n 0, 1) := by decide +kernel
theorem dJ1_charAt_3b067_2 : decode cJ1_charAt_3b067 2 = .ok (.arraylength, 1) := by decide +kernel
theorem dJ1_charAt_3b067_3 : decode cJ1_charAt_3b067 3 = .ok (.invokestatic 9, 3) := by decide +kernel
theorem dJ1_charAt_3b067_6 : decode cJ1_charAt_3b067 6 = .ok (.aload_n 0, 1) := by decide +kernel
theorem dJ1_charAt_3b067_7 : decode cJ1_charAt_3b067 7 = .ok (.iload_n 1, 1) := by decide +kernel
theorem dJ1_charAt_3b067_8 : decode cJ1_charAt_3b067 8 = .ok (.baload, 1) := by decide +kernel
theorem dJ1_charAt_3b067_9 : decode cJ1_charAt_3b067 9 = .ok (.sipush 255, 3) := by decide +kernel
theorem dJ1_charAt_3b067_12 : decode cJ1_charAt_3b067 12 = .ok (.iand, 1) := by decide +kernel
theorem dJ1_charAt_3b067_13 : decode cJ1_charAt_3b067 13 = .ok (.i2c, 1) := by decide +kernel
theorem dJ1_charAt_3b067_14 : decode cJ1_charAt_3b067 14 = .ok (.ireturn, 1) := by decide +kernel
theorem cs_J1_charAt_3b067 : CS yJ1_charAt_3b067 cJ1_charAt_3b067 2 (some .char) 2 := ⟨mg 620 (by decide +kernel) rfl, mg 16 (by decide +kernel) rfl, by decide +kernel⟩
theorem st_J1_charAt_3b067 : Cond.static yJ1_charAt_3b067 ∈ gw := mg 619 (by decide +kernel) rfl
theorem dJ3_checkIndex_8e157_0 : decode cJ3_checkIndex_8e157 0 = .ok (.iload_n 0, 1) := by decide +kernel
theorem dJ3_checkIndex_8e157_1 : decode cJ3_checkIndex_8e157 1 = .ok (.ifCond .lt 8, 3) := by decide +kernel
theorem dJ3_checkIndex_8e157_4 : decode cJ3_checkIndex_8e157 4 = .ok (.iload_n 0, 1) := by decide +kernel
theorem dJ3_checkIndex_8e157_5 : decode cJ3_checkIndex_8e157 5 = .ok (.iload_n 1, 1) := by decide +kernel
theorem dJ3_checkIndex_8e157_6 : decode cJ3_checkIndex_8e157 6 = .ok (.if_icmp .lt 10, 3) := by decide +kernel
theorem dJ3_checkIndex_8e157_9 : decode cJ3_checkIndex_8e157 9 = .ok (.aload_n 2, 1) := by decide +kernel
theorem dJ3_checkIndex_8e157_10 : decode cJ3_checkIndex_8e157 10 = .ok (.iload_n 0, 1) := by decide +kernel
theorem dJ3_checkIndex_8e157_11 : decode cJ3_checkIndex_8e157 11 = .ok (.iload_n 1, 1) := by decide +kernel
theorem dJ3_checkIndex_8e157_12 : decode cJ3_checkIndex_8e157 12 = .ok (.invokestatic 95, 3) := by decide +kernel
theorem dJ3_checkIndex_8e157_15 : decode cJ3_checkIndex_8e157 15 = .ok (.athrow, 1) := by decide +kernel
theorem dJ3_checkIndex_8e157_16 : decode cJ3_checkIndex_8e157 16 = .ok (.iload_n 0, 1) := by decide +kernel
theorem dJ3_checkIndex_8e157_17 : decode cJ3_checkIndex_8e157 17 = .ok (.ireturn, 1) := by decide +kernel
theorem cs_J3_checkIndex_8e157 : CS yJ3_checkIndex_8e157 cJ3_checkIndex_8e157 3 (some .int) 3 := ⟨mg 628 (by decide +kernel) rfl, mg 17 (by decide +kernel) rfl, by decide +kernel⟩
theorem st_J3_checkIndex_8e157 : Cond.static yJ3_checkIndex_8e157 ∈ gw := mg 627 (by decide +kernel) rfl
theorem ml_J0_335 : Cond.methodLink RJ0 335 yJ0_coder_7d493 ∈ gw := mg 604 (by decide +kernel) rfl
theorem ml_J0_492 : Cond.methodLink RJ0 492 yJ0_isLatin1_aae02 ∈ gw := mg 614 (by decide +kernel) rfl
theorem ml_J0_495 : Cond.methodLink RJ0 495 yJ1_charAt_3b067 ∈ gw := mg 618 (by decide +kernel) rfl
theorem ml_J0_1059 : Cond.methodLink RJ0 1059 yJ3_checkIndex_8e157 ∈ gw := mg 626 (by decide +kernel) rfl
theorem ml_J1_9 : Cond.methodLink RJ1 9 yJ0_checkIndex_df160 ∈ gw := mg 621 (by decide +kernel) rfl
theorem ml_X2_89 : Cond.methodLink RX2 89 yJ0_length_8abf5 ∈ gw := mg 600 (by decide +kernel) rfl
theorem ml_X2_94 : Cond.methodLink RX2 94 yJ0_charAt_5068e ∈ gw := mg 610 (by decide +kernel) rfl
theorem fk_J0_9 : Cond.fieldLink RJ0 9 "java/lang/String" "value" "[B" ∈ gw := mg 1366 (by decide +kernel) rfl
theorem fk_J0_15 : Cond.fieldLink RJ0 15 "java/lang/String" "coder" "B" ∈ gw := mg 1367 (by decide +kernel) rfl
theorem fk_J0_38 : Cond.fieldLink RJ0 38 "java/lang/String" "COMPACT_STRINGS" "Z" ∈ gw := mg 608 (by decide +kernel) rfl
theorem fk_J0_1053 : Cond.fieldLink RJ0 1053 "jdk/internal/util/Preconditions" "SIOOBE_FORMATTER" "Ljava/util/function/BiFunction;" ∈ gw := mg 624 (by decide +kernel) rfl
theorem b_ok : ∀ j, j < 9 → ∀ i, i < sLens.getD j 0 → ((((sByts.getD j []).getD i 0) &&& 255).toUInt32 % 65536).toInt32 = (sByts.getD j []).getD i 0 ∧ narrow .char (.int ((sByts.getD j []).getD i 0)) = .int ((sByts.getD j []).getD i 0) := by decide +kernel
theorem b_len : ∀ j, j < 9 → sLens.getD j 0 < 10 := by decide +kernel
section AWT
variable {G : GL} {X : CX} {cc : ByteArray} {nL : Nat} {own : String} {rm : Room} {cells slots pc : Nat} {L L' : List (Nat × Value)} {st : List Value} {μ μ' : Mem}
variable {y : MethodName} {cc' : ByteArray} {nL' n idx : Nat} {ret' : Option FieldType} {rm' : Room} {As : List Value}
theorem aw_ldcS (C : Ctx G X cc nL RX2 rm) {i j : Nat} (hj : (decide (j < 9) && sIx.getD j 0 == i) = true) (d : decode cc pc = .ok (.ldc i, 2)) (k : AW G nL X cells slots (pc + 2) L (.ref (gK G j) :: st) μ) : AW G nL X cells slots pc L st μ := by
  simp only [Bool.and_eq_true, decide_eq_true_eq, beq_iff_eq] at hj
  obtain ⟨h1, h2⟩ := hj
  subst h2
  exact fun H locs ls a b e => va_ldcS C.1 C.2.1 C.2.2.2.1 (C.2.2.2.2.2.1.2.2.2 j h1) d (k H locs ls a b e)
theorem aw_gets (C : Ctx G X cc nL own rm) {Cn nm ds : String} {v : Value} (hZ : va_Z Cn nm ds v (gAd G) (xS X) (xS X).heap) (hl : Cond.fieldLink own idx Cn nm ds ∈ gw) (d : decode cc pc = .ok (.getstatic idx, 3)) (k : AW G nL X cells slots (pc + 3) L (v :: st) μ) : AW G nL X cells slots pc L st μ := fun H locs ls a b e => va_gets C.1 C.2.1 hZ e C.2.2.2.1 (C.2.2.2.2.1 _ hl) (fun _ h => h) d (k H locs ls a b e)
theorem aw_sget (C : Ctx G X cc nL own rm) {Cn nm ds : String} {v : Value} {q : Nat} (hE : va_OF Cn nm ds v q (gAd G) (xS X) (xS X).heap) (hl : Cond.fieldLink own idx Cn nm ds ∈ gw) (d : decode cc pc = .ok (.getfield idx, 3)) (k : AW G nL X cells slots (pc + 3) L (v :: st) μ) : AW G nL X cells slots pc L (.ref q :: st) μ := fun H locs ls a b e => vk_getf C.1 C.2.1 hE e C.2.2.2.1 (C.2.2.2.2.1 _ hl) (fun _ h => h) d (k H locs ls a b e)
theorem aw_tlen (C : Ctx G X cc nL own rm) {ty : FieldType} {t N : Nat} {f : Nat → Value} (hT : va_T ty t N f (gAd G) (xS X) (xS X).heap) (d : decode cc pc = .ok (.arraylength, 1)) (k : AW G nL X cells slots (pc + 1) L (.int (Int32.ofNat N) :: st) μ) : AW G nL X cells slots pc L (.ref t :: st) μ := fun H locs ls a b e => va_tlen C.1 C.2.1 hT e rfl d (k H locs ls a b e)
theorem aw_tb (C : Ctx G X cc nL own rm) {t N : Nat} {f : Nat → Value} {i : Int32} (hT : va_T .byte t N f (gAd G) (xS X) (xS X).heap) (hin : ¬ (i < 0 ∨ N ≤ i.toNatClampNeg)) (d : decode cc pc = .ok (.baload, 1)) (k : AW G nL X cells slots (pc + 1) L (f i.toNatClampNeg :: st) μ) : AW G nL X cells slots pc L (.int i :: .ref t :: st) μ := fun H locs ls a b e => va_tb C.1 C.2.1 hT e hin rfl d (k H locs ls a b e)
theorem aw_i2c (C : Ctx G X cc nL own rm) {x : Int32} (d : decode cc pc = .ok (.i2c, 1)) (k : AW G nL X cells slots (pc + 1) L (.int (x.toUInt32 % 65536).toInt32 :: st) μ) : AW G nL X cells slots pc L (.int x :: st) μ := fun H locs ls a b e => lv_i2c C.1 C.2.1 d rfl (k H locs ls a b e)
/-- a call on a text constant -/
theorem aw_cT_I (C : Ctx G X cc nL own rm) {j : Nat} {r : Int32} (hj : j < 9) (As : List Value) (st0 : List Value) (hM : MtI G (xL X) y cc' nL' ret' rm' false (.ref (gK G j) :: As) μ r μ') (S : CS y cc' nL' ret' n) (hl : Cond.methodLink own idx y ∈ gw) (hi : Cond.instanceMethod y ∈ gw) (hse : Cond.selects "java/lang/String" y y ∈ gw) (hR : rm'.frames + 1 ≤ rm.frames ∧ 8 + (nL' + 11) + rm'.locals ≤ rm.locals) (h0 : rm'.cells = 0 ∧ rm'.slots = 0) (hf : cells ≤ rm.cells ∧ slots ≤ rm.slots) (hn : As.length = n) (hst : st0 = As.reverse ++ .ref (gK G j) :: st) (hW : (st.map fun v => v.category).sum ≤ 8) (d : decode cc pc = .ok (.invokevirtual idx, 3)) (k : AW G nL X cells slots (pc + 3) L (.int r :: st) μ') : AW G nL X cells slots pc L st0 μ := by
  intro H locs ls a1 b1 e
  refine va_calli (S := Unit) (va_runV (As := As) (rest := st) (cfix C) hM ⟨cbS C S hl hR, C.2.2.2.2.1 _ hi, C.2.2.2.2.1 _ hse⟩ ⟨blindW, vk_recv C.2.2.2.2.2.2.2.2.1 hj e, fun U hU hW => ⟨rfl, preW (b := false) C b1 e (fun q => by cases q) U hU hW⟩⟩ rfl hn a1.1 hst (lv_room hW) d (cfR C (by rw [h0.1, h0.2]; exact hf))) e (fun q _ h => h) (fun q h => h) (fun r0 u t H1 locs1 ht hvm hp hB hz hk hS => ?_)
  cases hp
  rw [h0.1, h0.2]
  exact k H1 locs1 ls a1 (by rw [ht] at hB; exact hB) hS
end AWT
def rm_J0_coder_7d493 : Room := { frames := 0, cells := 0, slots := 0, locals := 0 }
def rm_J0_isLatin1_aae02 : Room := { frames := 0, cells := 0, slots := 0, locals := 0 }
def rm_J3_checkIndex_8e157 : Room := { frames := 0, cells := 0, slots := 0, locals := 0 }
def rm_J0_length_8abf5 : Room := { frames := 1, cells := 0, slots := 0, locals := 20 }
def rm_J0_checkIndex_df160 : Room := { frames := 1, cells := 0, slots := 0, locals := 22 }
def rm_J1_charAt_3b067 : Room := { frames := 2, cells := 0, slots := 0, locals := 43 }
def rm_J0_charAt_5068e : Room := { frames := 3, cells := 0, slots := 0, locals := 64 }
set_option maxRecDepth 100000 in
set_option maxHeartbeats 4000000 in
theorem mt_J0_coder_7d493 {G : GL} {l : Launch} {j : Nat} {μ : Mem} (hj : j < 9) : MtI G l yJ0_coder_7d493 cJ0_coder_7d493 1 (some .byte) rm_J0_coder_7d493 false [.ref (gK G j)] μ 0 μ := met_I (by decide) rfl rfl (Nat.le_of_ble_eq_true rfl) (fun X _ C _ _ hret => by
  show AW G 1 X 0 0 0 [(0, .ref (gK G j))] [] μ
  refine aw_gets C C.2.2.2.2.2.2.2.2.2.1 fk_J0_38 dJ0_coder_7d493_0 ?_
  refine aw_if_eq C 13 dJ0_coder_7d493_3 (by decide) (fun c1 => absurd c1 (by decide)) (fun c1 => ?_)
  refine aw_aload_n C 0 dJ0_coder_7d493_6 rfl rfl ?_
  refine aw_sget C (C.2.2.2.2.2.2.2.2.1.1 j hj).2.1 fk_J0_15 dJ0_coder_7d493_7 ?_
  refine aw_goto C 14 dJ0_coder_7d493_10 (by decide) ?_
  exact hret _ _ dJ0_coder_7d493_14)
set_option maxRecDepth 100000 in
set_option maxHeartbeats 4000000 in
theorem mt_J0_isLatin1_aae02 {G : GL} {l : Launch} {j : Nat} {μ : Mem} (hj : j < 9) : MtI G l yJ0_isLatin1_aae02 cJ0_isLatin1_aae02 1 (some .boolean) rm_J0_isLatin1_aae02 false [.ref (gK G j)] μ 1 μ := met_Z (by decide) rfl (Nat.le_of_ble_eq_true rfl) (fun X _ C _ _ hret => by
  show AW G 1 X 0 0 0 [(0, .ref (gK G j))] [] μ
  refine aw_gets C C.2.2.2.2.2.2.2.2.2.1 fk_J0_38 dJ0_isLatin1_aae02_0 ?_
  refine aw_if_eq C 17 dJ0_isLatin1_aae02_3 (by decide) (fun c1 => absurd c1 (by decide)) (fun c1 => ?_)
  refine aw_aload_n C 0 dJ0_isLatin1_aae02_6 rfl rfl ?_
  refine aw_sget C (C.2.2.2.2.2.2.2.2.1.1 j hj).2.1 fk_J0_15 dJ0_isLatin1_aae02_7 ?_
  refine aw_if_ne C 17 dJ0_isLatin1_aae02_10 (by decide) (fun c2 => absurd rfl c2) (fun c2 => ?_)
  refine aw_iconst C 1 dJ0_isLatin1_aae02_13 (by decide) ?_
  refine aw_goto C 18 dJ0_isLatin1_aae02_14 (by decide) ?_
  exact hret _ _ dJ0_isLatin1_aae02_18 (Or.inr rfl))
set_option maxRecDepth 100000 in
set_option maxHeartbeats 4000000 in
theorem mt_J0_length_8abf5 {G : GL} {l : Launch} {j : Nat} {μ : Mem} (hj : j < 9) : MtI G l yJ0_length_8abf5 cJ0_length_8abf5 1 (some .int) rm_J0_length_8abf5 false [.ref (gK G j)] μ (sLen j) μ := met_I (by decide) rfl rfl (Nat.le_of_ble_eq_true rfl) (fun X _ C _ _ hret => by
  show AW G 1 X 0 0 0 [(0, .ref (gK G j))] [] μ
  refine aw_aload_n C 0 dJ0_length_8abf5_0 rfl rfl ?_
  refine aw_sget C (C.2.2.2.2.2.2.2.2.1.1 j hj).2.2.1 fk_J0_9 dJ0_length_8abf5_1 ?_
  refine aw_tlen C (C.2.2.2.2.2.2.2.2.1.1 j hj).2.2.2 dJ0_length_8abf5_4 ?_
  refine aw_aload_n C 0 dJ0_length_8abf5_5 rfl rfl ?_
  refine aw_cT_I C hj [] _ (mt_J0_coder_7d493 hj) cs_J0_coder_7d493 ml_J0_335 im_J0_coder_7d493 se_J0_coder_7d493 ⟨by decide, by decide⟩ ⟨rfl, rfl⟩ ⟨Nat.zero_le _, Nat.zero_le _⟩ rfl rfl (Nat.le_of_ble_eq_true rfl) dJ0_length_8abf5_6 ?_
  refine aw_ishr C dJ0_length_8abf5_9 ?_
  refine aw_topi (sb_shr0 _) ?_
  exact hret _ _ dJ0_length_8abf5_10)
set_option maxRecDepth 100000 in
set_option maxHeartbeats 4000000 in
theorem mt_J3_checkIndex_8e157 {G : GL} {l : Launch} {i k : Int32} {v : Value} {μ : Mem} (hv : v.category = 1) (h0 : ¬ i < 0) (h1 : i < k) : MtI G l yJ3_checkIndex_8e157 cJ3_checkIndex_8e157 3 (some .int) rm_J3_checkIndex_8e157 false [.int i, .int k, v] μ i μ := met_I (by decide) rfl rfl (by rw [show lg_sl [.int i, .int k, v] = [.val (.int i), .val (.int k), .val v] by unfold lg_sl; simp only [List.flatMap_cons, List.flatMap_nil, hv]; rfl]; exact Nat.le_refl _) (fun X _ C _ _ hret => by
  show AW G 3 X 0 0 0 [(0, .int i), (1, .int k), (2, v)] [] μ
  refine aw_iload_n C 0 dJ3_checkIndex_8e157_0 rfl rfl ?_
  refine aw_if_lt C 9 dJ3_checkIndex_8e157_1 (by decide) (fun c1 => absurd c1 h0) (fun c1 => ?_)
  refine aw_iload_n C 0 dJ3_checkIndex_8e157_4 rfl rfl ?_
  refine aw_iload_n C 1 dJ3_checkIndex_8e157_5 rfl rfl ?_
  refine aw_icmp_lt C 16 dJ3_checkIndex_8e157_6 (by decide) (fun c2 => ?_) (fun c2 => absurd h1 c2)
  refine aw_iload_n C 0 dJ3_checkIndex_8e157_16 rfl rfl ?_
  exact hret _ _ dJ3_checkIndex_8e157_17)
set_option maxRecDepth 100000 in
set_option maxHeartbeats 4000000 in
theorem mt_J0_checkIndex_df160 {G : GL} {l : Launch} {i k : Int32} {μ : Mem} (h0 : ¬ i < 0) (h1 : i < k) : MtV G l yJ0_checkIndex_df160 cJ0_checkIndex_df160 2 none rm_J0_checkIndex_df160 false [.int i, .int k] μ μ := met_V (by decide) rfl (Nat.le_of_ble_eq_true rfl) (fun X _ C _ _ hret => by
  show AW G 2 X 0 0 0 [(0, .int i), (1, .int k)] [] μ
  obtain ⟨v, hv, hZ⟩ := C.2.2.2.2.2.2.2.2.2.2
  refine aw_iload_n C 0 dJ0_checkIndex_df160_0 rfl rfl ?_
  refine aw_iload_n C 1 dJ0_checkIndex_df160_1 rfl rfl ?_
  refine aw_gets C hZ fk_J0_1053 dJ0_checkIndex_df160_2 ?_
  refine aw_cS_I C [.int i, .int k, v] _ (mt_J3_checkIndex_8e157 hv h0 h1) cs_J3_checkIndex_8e157 ml_J0_1059 st_J3_checkIndex_8e157 ⟨by decide, by decide⟩ ⟨rfl, rfl⟩ ⟨Nat.zero_le _, Nat.zero_le _⟩ rfl rfl (Nat.le_of_ble_eq_true rfl) dJ0_checkIndex_df160_5 ?_
  refine aw_pop C dJ0_checkIndex_df160_8 rfl ?_
  exact hret _ _ dJ0_checkIndex_df160_9)
theorem ix_lt {i : Int32} {j : Nat} (hj : j < 9) (h : ¬ (i < 0 ∨ sLens.getD j 0 ≤ i.toNatClampNeg)) : ¬ i < 0 ∧ i < Int32.ofNat (sLens.getD j 0) := by
  have h0 : ¬ i < 0 := fun q => h (Or.inl q)
  obtain ⟨k, hk, rfl⟩ := nI_of h0
  refine ⟨h0, ?_⟩
  have h1 : k < sLens.getD j 0 := by
    rw [nI_clamp hk] at h
    omega
  exact nI_lt h1 (by have := b_len j hj; omega)
set_option maxRecDepth 100000 in
set_option maxHeartbeats 4000000 in
theorem mt_J1_charAt_3b067 {G : GL} {l : Launch} {i : Int32} {j : Nat} {μ : Mem} (hj : j < 9) (h : ¬ (i < 0 ∨ sLens.getD j 0 ≤ i.toNatClampNeg)) : MtI G l yJ1_charAt_3b067 cJ1_charAt_3b067 2 (some .char) rm_J1_charAt_3b067 false [.ref (gVc G j), .int i] μ ((sByts.getD j []).getD i.toNatClampNeg 0) μ := met_I (by decide) rfl (b_ok j hj _ (by omega)).2 (Nat.le_of_ble_eq_true rfl) (fun X _ C _ _ hret => by
  show AW G 2 X 0 0 0 [(0, .ref (gVc G j)), (1, .int i)] [] μ
  have hx := ix_lt hj h
  refine aw_iload_n C 1 dJ1_charAt_3b067_0 rfl rfl ?_
  refine aw_aload_n C 0 dJ1_charAt_3b067_1 rfl rfl ?_
  refine aw_tlen C (C.2.2.2.2.2.2.2.2.1.1 j hj).2.2.2 dJ1_charAt_3b067_2 ?_
  refine aw_cS_V C [.int i, .int (Int32.ofNat (sLens.getD j 0))] _ (mt_J0_checkIndex_df160 hx.1 hx.2) cs_J0_checkIndex_df160 ml_J1_9 st_J0_checkIndex_df160 ⟨by decide, by decide⟩ ⟨rfl, rfl⟩ ⟨Nat.zero_le _, Nat.zero_le _⟩ rfl rfl (Nat.le_of_ble_eq_true rfl) dJ1_charAt_3b067_3 ?_
  refine aw_aload_n C 0 dJ1_charAt_3b067_6 rfl rfl ?_
  refine aw_iload_n C 1 dJ1_charAt_3b067_7 rfl rfl ?_
  refine aw_tb C (C.2.2.2.2.2.2.2.2.1.1 j hj).2.2.2 h dJ1_charAt_3b067_8 ?_
  refine aw_sipush C 255 dJ1_charAt_3b067_9 (by decide) ?_
  refine aw_iand C dJ1_charAt_3b067_12 ?_
  refine aw_i2c C dJ1_charAt_3b067_13 ?_
  refine aw_topi (b_ok j hj _ (by omega)).1 ?_
  exact hret _ _ dJ1_charAt_3b067_14)
set_option maxRecDepth 100000 in
set_option maxHeartbeats 4000000 in
theorem mt_J0_charAt_5068e {G : GL} {l : Launch} {i : Int32} {j : Nat} {μ : Mem} (hj : j < 9) (h : ¬ (i < 0 ∨ sLens.getD j 0 ≤ i.toNatClampNeg)) : MtI G l yJ0_charAt_5068e cJ0_charAt_5068e 2 (some .char) rm_J0_charAt_5068e false [.ref (gK G j), .int i] μ ((sByts.getD j []).getD i.toNatClampNeg 0) μ := met_I (by decide) rfl (b_ok j hj _ (by omega)).2 (Nat.le_of_ble_eq_true rfl) (fun X _ C _ _ hret => by
  show AW G 2 X 0 0 0 [(0, .ref (gK G j)), (1, .int i)] [] μ
  refine aw_aload_n C 0 dJ0_charAt_5068e_0 rfl rfl ?_
  refine aw_cT_I C hj [] _ (mt_J0_isLatin1_aae02 hj) cs_J0_isLatin1_aae02 ml_J0_492 im_J0_isLatin1_aae02 se_J0_isLatin1_aae02 ⟨by decide, by decide⟩ ⟨rfl, rfl⟩ ⟨Nat.zero_le _, Nat.zero_le _⟩ rfl rfl (Nat.le_of_ble_eq_true rfl) dJ0_charAt_5068e_1 ?_
  refine aw_if_eq C 16 dJ0_charAt_5068e_4 (by decide) (fun c1 => absurd c1 (by decide)) (fun c1 => ?_)
  refine aw_aload_n C 0 dJ0_charAt_5068e_7 rfl rfl ?_
  refine aw_sget C (C.2.2.2.2.2.2.2.2.1.1 j hj).2.2.1 fk_J0_9 dJ0_charAt_5068e_8 ?_
  refine aw_iload_n C 1 dJ0_charAt_5068e_11 rfl rfl ?_
  refine aw_cS_I C [.ref (gVc G j), .int i] _ (mt_J1_charAt_3b067 hj h) cs_J1_charAt_3b067 ml_J0_495 st_J1_charAt_3b067 ⟨by decide, by decide⟩ ⟨rfl, rfl⟩ ⟨Nat.zero_le _, Nat.zero_le _⟩ rfl rfl (Nat.le_of_ble_eq_true rfl) dJ0_charAt_5068e_12 ?_
  exact hret _ _ dJ0_charAt_5068e_15)
section AWU
variable {G : GL} {X : CX} {cc : ByteArray} {nL : Nat} {own : String} {rm : Room} {cells slots pc idx : Nat} {L L' : List (Nat × Value)} {st : List Value} {μ μ' : Mem}
theorem aw_slen (C : Ctx G X cc nL own rm) {j : Nat} {v : Int32} (hl : Cond.methodLink own idx yJ0_length_8abf5 ∈ gw) (hf : rm_J0_length_8abf5.frames + 1 ≤ rm.frames) (ho : 8 + (1 + 11) + rm_J0_length_8abf5.locals ≤ rm.locals) (hc : cells ≤ rm.cells ∧ slots ≤ rm.slots) (hW : (st.map fun v => v.category).sum ≤ 8) (h : sLe j = some v) (d : decode cc pc = .ok (.invokevirtual idx, 3)) (k : AW G nL X cells slots (pc + 3) L (.int v :: st) μ) : AW G nL X cells slots pc L (.ref (gK G j) :: st) μ := by
  unfold sLe at h
  split at h
  · rename_i hj
    cases h
    exact aw_cT_I C hj [] _ (mt_J0_length_8abf5 hj) cs_J0_length_8abf5 hl im_J0_length_8abf5 se_J0_length_8abf5 ⟨hf, ho⟩ ⟨rfl, rfl⟩ hc rfl rfl hW d k
  · cases h
theorem aw_schr (C : Ctx G X cc nL own rm) {j : Nat} {i v : Int32} (hl : Cond.methodLink own idx yJ0_charAt_5068e ∈ gw) (hf : rm_J0_charAt_5068e.frames + 1 ≤ rm.frames) (ho : 8 + (2 + 11) + rm_J0_charAt_5068e.locals ≤ rm.locals) (hc : cells ≤ rm.cells ∧ slots ≤ rm.slots) (hW : (st.map fun v => v.category).sum ≤ 8) (h : sChr j i = some v) (d : decode cc pc = .ok (.invokevirtual idx, 3)) (k : AW G nL X cells slots (pc + 3) L (.int v :: st) μ) : AW G nL X cells slots pc L (.int i :: .ref (gK G j) :: st) μ := by
  unfold sChr at h
  split at h
  · rename_i hj
    cases h
    exact aw_cT_I C hj.1 [.int i] _ (mt_J0_charAt_5068e hj.1 hj.2) cs_J0_charAt_5068e hl im_J0_charAt_5068e se_J0_charAt_5068e ⟨hf, ho⟩ ⟨rfl, rfl⟩ hc rfl rfl hW d k
  · cases h
end AWU
