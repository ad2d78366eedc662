/-! ===== words of the tables that the walks use ===== -/
theorem ingX0 : ∀ w ∈ wsX00, w ∈ gw := by decide +kernel
theorem ingX1 : ∀ w ∈ wsX10, w ∈ gw := by decide +kernel
theorem ingX2 : ∀ w ∈ wsX20, w ∈ gw := by decide +kernel
theorem ingX3 : ∀ w ∈ wsX30, w ∈ gw := by decide +kernel
theorem ingX4 : ∀ w ∈ wsX40, w ∈ gw := by decide +kernel
theorem ingX5 : ∀ w ∈ wsX50, w ∈ gw := by decide +kernel
theorem ingX6 : ∀ w ∈ wsX60, w ∈ gw := by decide +kernel
theorem ingX7 : ∀ w ∈ wsX70, w ∈ gw := by decide +kernel
theorem ingX8 : ∀ w ∈ wsX80, w ∈ gw := by decide +kernel
theorem ingX9 : ∀ w ∈ wsX90, w ∈ gw := by decide +kernel
theorem ingX10 : ∀ w ∈ wsX100, w ∈ gw := by decide +kernel
theorem ingX11 : ∀ w ∈ wsX110, w ∈ gw := by decide +kernel
theorem fl_X10_12 : FL RX10 12 10 0 (.object "WhenToSpeak$Work") true := ⟨RX10, TX10, 11, tyX10, rfl, ingX10, tyX10_ok, nmX10, rfl, by decide, mg 367 (by decide +kernel) rfl, by decide +kernel, rfl, rfl⟩
theorem fl_X10_19 : FL RX10 19 10 1 (.object "WhenToSpeak$Ways") true := ⟨RX10, TX10, 11, tyX10, rfl, ingX10, tyX10_ok, nmX10, rfl, by decide, mg 368 (by decide +kernel) rfl, by decide +kernel, rfl, rfl⟩
theorem fl_X10_26 : FL RX10 26 10 2 (.object "WhenToSpeak$Book") true := ⟨RX10, TX10, 11, tyX10, rfl, ingX10, tyX10_ok, nmX10, rfl, by decide, mg 369 (by decide +kernel) rfl, by decide +kernel, rfl, rfl⟩
theorem fl_X10_33 : FL RX10 33 10 3 (.object "WhenToSpeak$LawText") true := ⟨RX10, TX10, 11, tyX10, rfl, ingX10, tyX10_ok, nmX10, rfl, by decide, mg 370 (by decide +kernel) rfl, by decide +kernel, rfl, rfl⟩
theorem fl_X10_39 : FL RX10 39 10 4 (.array (.object "WhenToSpeak$Laws")) true := ⟨RX10, TX10, 11, tyX10, rfl, ingX10, tyX10_ok, nmX10, rfl, by decide, mg 371 (by decide +kernel) rfl, by decide +kernel, rfl, rfl⟩
theorem fl_X10_46 : FL RX10 46 10 5 (.object "WhenToSpeak$Gate") true := ⟨RX10, TX10, 11, tyX10, rfl, ingX10, tyX10_ok, nmX10, rfl, by decide, mg 372 (by decide +kernel) rfl, by decide +kernel, rfl, rfl⟩
theorem fl_X10_55 : FL RX10 55 10 6 (.object "WhenToSpeak$Planner") true := ⟨RX10, TX10, 11, tyX10, rfl, ingX10, tyX10_ok, nmX10, rfl, by decide, mg 373 (by decide +kernel) rfl, by decide +kernel, rfl, rfl⟩
theorem fl_X10_62 : FL RX10 62 10 7 (.object "WhenToSpeak$Trial") true := ⟨RX10, TX10, 11, tyX10, rfl, ingX10, tyX10_ok, nmX10, rfl, by decide, mg 374 (by decide +kernel) rfl, by decide +kernel, rfl, rfl⟩
theorem fl_X10_66 : FL RX10 66 10 8 (.array .int) true := ⟨RX10, TX10, 11, tyX10, rfl, ingX10, tyX10_ok, nmX10, rfl, by decide, mg 375 (by decide +kernel) rfl, by decide +kernel, rfl, rfl⟩
theorem fl_X10_71 : FL RX10 71 10 9 (.object "WhenToSpeak$Laws") false := ⟨RX10, TX10, 11, tyX10, rfl, ingX10, tyX10_ok, nmX10, rfl, by decide, mg 376 (by decide +kernel) rfl, by decide +kernel, rfl, rfl⟩
theorem fl_X10_82 : FL RX10 82 9 0 (.array (.array .int)) true := ⟨RX9, TX9, 8, tyX9, rfl, ingX9, tyX9_ok, nmX9, rfl, by decide, mg 36 (by decide +kernel) rfl, by decide +kernel, rfl, rfl⟩
theorem fl_X10_94 : FL RX10 94 9 1 (.array (.array .int)) true := ⟨RX9, TX9, 8, tyX9, rfl, ingX9, tyX9_ok, nmX9, rfl, by decide, mg 38 (by decide +kernel) rfl, by decide +kernel, rfl, rfl⟩
theorem fl_X10_97 : FL RX10 97 9 2 (.array .int) true := ⟨RX9, TX9, 8, tyX9, rfl, ingX9, tyX9_ok, nmX9, rfl, by decide, mg 40 (by decide +kernel) rfl, by decide +kernel, rfl, rfl⟩
theorem fl_X10_100 : FL RX10 100 9 5 (.int) false := ⟨RX9, TX9, 8, tyX9, rfl, ingX9, tyX9_ok, nmX9, rfl, by decide, mg 48 (by decide +kernel) rfl, by decide +kernel, rfl, rfl⟩
theorem fl_X10_107 : FL RX10 107 9 3 (.array (.array .int)) true := ⟨RX9, TX9, 8, tyX9, rfl, ingX9, tyX9_ok, nmX9, rfl, by decide, mg 42 (by decide +kernel) rfl, by decide +kernel, rfl, rfl⟩
theorem fl_X10_110 : FL RX10 110 10 10 (.int) false := ⟨RX10, TX10, 11, tyX10, rfl, ingX10, tyX10_ok, nmX10, rfl, by decide, mg 377 (by decide +kernel) rfl, by decide +kernel, rfl, rfl⟩
theorem fl_X10_124 : FL RX10 124 9 4 (.array (.array .int)) true := ⟨RX9, TX9, 8, tyX9, rfl, ingX9, tyX9_ok, nmX9, rfl, by decide, mg 46 (by decide +kernel) rfl, by decide +kernel, rfl, rfl⟩
theorem fl_X10_132 : FL RX10 132 0 2 (.int) false := ⟨RX0, TX0, 4, tyX0, rfl, ingX0, tyX0_ok, nmX0, rfl, by decide, mg 185 (by decide +kernel) rfl, by decide +kernel, rfl, rfl⟩
theorem fl_X10_135 : FL RX10 135 0 0 (.array (.object "WhenToSpeak$Thing")) true := ⟨RX0, TX0, 4, tyX0, rfl, ingX0, tyX0_ok, nmX0, rfl, by decide, mg 178 (by decide +kernel) rfl, by decide +kernel, rfl, rfl⟩
theorem fl_X10_139 : FL RX10 139 6 0 (.int) false := ⟨RX6, TX6, 9, tyX6, rfl, ingX6, tyX6_ok, nmX6, rfl, by decide, mg 105 (by decide +kernel) rfl, by decide +kernel, rfl, rfl⟩
theorem fl_X10_144 : FL RX10 144 6 1 (.int) false := ⟨RX6, TX6, 9, tyX6, rfl, ingX6, tyX6_ok, nmX6, rfl, by decide, mg 109 (by decide +kernel) rfl, by decide +kernel, rfl, rfl⟩
theorem fl_X10_147 : FL RX10 147 6 2 (.int) false := ⟨RX6, TX6, 9, tyX6, rfl, ingX6, tyX6_ok, nmX6, rfl, by decide, mg 112 (by decide +kernel) rfl, by decide +kernel, rfl, rfl⟩
theorem fl_X10_150 : FL RX10 150 6 3 (.int) false := ⟨RX6, TX6, 9, tyX6, rfl, ingX6, tyX6_ok, nmX6, rfl, by decide, mg 114 (by decide +kernel) rfl, by decide +kernel, rfl, rfl⟩
theorem fl_X10_153 : FL RX10 153 6 4 (.int) false := ⟨RX6, TX6, 9, tyX6, rfl, ingX6, tyX6_ok, nmX6, rfl, by decide, mg 116 (by decide +kernel) rfl, by decide +kernel, rfl, rfl⟩
theorem fl_X10_156 : FL RX10 156 6 5 (.int) false := ⟨RX6, TX6, 9, tyX6, rfl, ingX6, tyX6_ok, nmX6, rfl, by decide, mg 118 (by decide +kernel) rfl, by decide +kernel, rfl, rfl⟩
theorem fl_X10_159 : FL RX10 159 6 6 (.int) false := ⟨RX6, TX6, 9, tyX6, rfl, ingX6, tyX6_ok, nmX6, rfl, by decide, mg 122 (by decide +kernel) rfl, by decide +kernel, rfl, rfl⟩
theorem fl_X10_162 : FL RX10 162 6 7 (.int) false := ⟨RX6, TX6, 9, tyX6, rfl, ingX6, tyX6_ok, nmX6, rfl, by decide, mg 125 (by decide +kernel) rfl, by decide +kernel, rfl, rfl⟩
theorem fl_X10_168 : FL RX10 168 6 8 (.boolean) false := ⟨RX6, TX6, 9, tyX6, rfl, ingX6, tyX6_ok, nmX6, rfl, by decide, mg 128 (by decide +kernel) rfl, by decide +kernel, rfl, rfl⟩
theorem fl_X10_184 : FL RX10 184 8 0 (.array (.array .int)) true := ⟨RX8, TX8, 2, tyX8, rfl, ingX8, tyX8_ok, nmX8, rfl, by decide, mg 78 (by decide +kernel) rfl, by decide +kernel, rfl, rfl⟩
theorem fl_X10_187 : FL RX10 187 8 1 (.array .int) true := ⟨RX8, TX8, 2, tyX8, rfl, ingX8, tyX8_ok, nmX8, rfl, by decide, mg 81 (by decide +kernel) rfl, by decide +kernel, rfl, rfl⟩
theorem fl_X10_197 : FL RX10 197 0 3 (.int) false := ⟨RX0, TX0, 4, tyX0, rfl, ingX0, tyX0_ok, nmX0, rfl, by decide, mg 187 (by decide +kernel) rfl, by decide +kernel, rfl, rfl⟩
theorem fl_X10_200 : FL RX10 200 2 0 (.int) false := ⟨RX2, TX2, 5, tyX2, rfl, ingX2, tyX2_ok, nmX2, rfl, by decide, mg 204 (by decide +kernel) rfl, by decide +kernel, rfl, rfl⟩
theorem fl_X10_211 : FL RX10 211 2 1 (.int) false := ⟨RX2, TX2, 5, tyX2, rfl, ingX2, tyX2_ok, nmX2, rfl, by decide, mg 206 (by decide +kernel) rfl, by decide +kernel, rfl, rfl⟩
theorem fl_X10_214 : FL RX10 214 3 0 (.int) false := ⟨RX3, TX3, 5, tyX3, rfl, ingX3, tyX3_ok, nmX3, rfl, by decide, mg 351 (by decide +kernel) rfl, by decide +kernel, rfl, rfl⟩
theorem fl_X10_217 : FL RX10 217 2 2 (.int) false := ⟨RX2, TX2, 5, tyX2, rfl, ingX2, tyX2_ok, nmX2, rfl, by decide, mg 208 (by decide +kernel) rfl, by decide +kernel, rfl, rfl⟩
theorem fl_X10_247 : FL RX10 247 4 0 (.int) false := ⟨RX4, TX4, 19, tyX4, rfl, ingX4, tyX4_ok, nmX4, rfl, by decide, mg 249 (by decide +kernel) rfl, by decide +kernel, rfl, rfl⟩
theorem fl_X10_250 : FL RX10 250 4 1 (.array .int) true := ⟨RX4, TX4, 19, tyX4, rfl, ingX4, tyX4_ok, nmX4, rfl, by decide, mg 251 (by decide +kernel) rfl, by decide +kernel, rfl, rfl⟩
theorem fl_X10_253 : FL RX10 253 4 2 (.array .int) true := ⟨RX4, TX4, 19, tyX4, rfl, ingX4, tyX4_ok, nmX4, rfl, by decide, mg 253 (by decide +kernel) rfl, by decide +kernel, rfl, rfl⟩
theorem fl_X10_260 : FL RX10 260 0 1 (.array (.object "WhenToSpeak$Saying")) true := ⟨RX0, TX0, 4, tyX0, rfl, ingX0, tyX0_ok, nmX0, rfl, by decide, mg 180 (by decide +kernel) rfl, by decide +kernel, rfl, rfl⟩
theorem fl_X10_264 : FL RX10 264 5 0 (.int) false := ⟨RX5, TX5, 5, tyX5, rfl, ingX5, tyX5_ok, nmX5, rfl, by decide, mg 154 (by decide +kernel) rfl, by decide +kernel, rfl, rfl⟩
theorem fl_X10_269 : FL RX10 269 5 1 (.int) false := ⟨RX5, TX5, 5, tyX5, rfl, ingX5, tyX5_ok, nmX5, rfl, by decide, mg 156 (by decide +kernel) rfl, by decide +kernel, rfl, rfl⟩
theorem fl_X10_272 : FL RX10 272 5 2 (.int) false := ⟨RX5, TX5, 5, tyX5, rfl, ingX5, tyX5_ok, nmX5, rfl, by decide, mg 158 (by decide +kernel) rfl, by decide +kernel, rfl, rfl⟩
theorem fl_X10_275 : FL RX10 275 5 3 (.int) false := ⟨RX5, TX5, 5, tyX5, rfl, ingX5, tyX5_ok, nmX5, rfl, by decide, mg 160 (by decide +kernel) rfl, by decide +kernel, rfl, rfl⟩
theorem fl_X10_279 : FL RX10 279 5 4 (.int) false := ⟨RX5, TX5, 5, tyX5, rfl, ingX5, tyX5_ok, nmX5, rfl, by decide, mg 162 (by decide +kernel) rfl, by decide +kernel, rfl, rfl⟩
theorem fl_X10_314 : FL RX10 314 7 0 (.int) false := ⟨RX7, TX7, 8, tyX7, rfl, ingX7, tyX7_ok, nmX7, rfl, by decide, mg 316 (by decide +kernel) rfl, by decide +kernel, rfl, rfl⟩
theorem fl_X10_317 : FL RX10 317 7 1 (.int) false := ⟨RX7, TX7, 8, tyX7, rfl, ingX7, tyX7_ok, nmX7, rfl, by decide, mg 318 (by decide +kernel) rfl, by decide +kernel, rfl, rfl⟩
theorem fl_X10_320 : FL RX10 320 7 2 (.int) false := ⟨RX7, TX7, 8, tyX7, rfl, ingX7, tyX7_ok, nmX7, rfl, by decide, mg 320 (by decide +kernel) rfl, by decide +kernel, rfl, rfl⟩
theorem fl_X10_323 : FL RX10 323 7 3 (.int) false := ⟨RX7, TX7, 8, tyX7, rfl, ingX7, tyX7_ok, nmX7, rfl, by decide, mg 322 (by decide +kernel) rfl, by decide +kernel, rfl, rfl⟩
theorem fl_X0_11 : FL RX0 11 0 0 (.array (.object "WhenToSpeak$Thing")) true := ⟨RX0, TX0, 4, tyX0, rfl, ingX0, tyX0_ok, nmX0, rfl, by decide, mg 174 (by decide +kernel) rfl, by decide +kernel, rfl, rfl⟩
theorem fl_X0_19 : FL RX0 19 0 1 (.array (.object "WhenToSpeak$Saying")) true := ⟨RX0, TX0, 4, tyX0, rfl, ingX0, tyX0_ok, nmX0, rfl, by decide, mg 179 (by decide +kernel) rfl, by decide +kernel, rfl, rfl⟩
theorem fl_X0_25 : FL RX0 25 0 2 (.int) false := ⟨RX0, TX0, 4, tyX0, rfl, ingX0, tyX0_ok, nmX0, rfl, by decide, mg 181 (by decide +kernel) rfl, by decide +kernel, rfl, rfl⟩
theorem fl_X0_29 : FL RX0 29 0 3 (.int) false := ⟨RX0, TX0, 4, tyX0, rfl, ingX0, tyX0_ok, nmX0, rfl, by decide, mg 186 (by decide +kernel) rfl, by decide +kernel, rfl, rfl⟩
theorem fl_X0_32 : FL RX0 32 6 8 (.boolean) false := ⟨RX6, TX6, 9, tyX6, rfl, ingX6, tyX6_ok, nmX6, rfl, by decide, mg 127 (by decide +kernel) rfl, by decide +kernel, rfl, rfl⟩
theorem fl_X0_40 : FL RX0 40 6 6 (.int) false := ⟨RX6, TX6, 9, tyX6, rfl, ingX6, tyX6_ok, nmX6, rfl, by decide, mg 121 (by decide +kernel) rfl, by decide +kernel, rfl, rfl⟩
theorem fl_X0_47 : FL RX0 47 5 1 (.int) false := ⟨RX5, TX5, 5, tyX5, rfl, ingX5, tyX5_ok, nmX5, rfl, by decide, mg 155 (by decide +kernel) rfl, by decide +kernel, rfl, rfl⟩
theorem fl_X0_54 : FL RX0 54 5 4 (.int) false := ⟨RX5, TX5, 5, tyX5, rfl, ingX5, tyX5_ok, nmX5, rfl, by decide, mg 161 (by decide +kernel) rfl, by decide +kernel, rfl, rfl⟩
theorem fl_X0_57 : FL RX0 57 5 0 (.int) false := ⟨RX5, TX5, 5, tyX5, rfl, ingX5, tyX5_ok, nmX5, rfl, by decide, mg 153 (by decide +kernel) rfl, by decide +kernel, rfl, rfl⟩
theorem fl_X0_60 : FL RX0 60 6 1 (.int) false := ⟨RX6, TX6, 9, tyX6, rfl, ingX6, tyX6_ok, nmX6, rfl, by decide, mg 108 (by decide +kernel) rfl, by decide +kernel, rfl, rfl⟩
theorem fl_X0_69 : FL RX0 69 6 0 (.int) false := ⟨RX6, TX6, 9, tyX6, rfl, ingX6, tyX6_ok, nmX6, rfl, by decide, mg 104 (by decide +kernel) rfl, by decide +kernel, rfl, rfl⟩
theorem fl_X0_72 : FL RX0 72 6 2 (.int) false := ⟨RX6, TX6, 9, tyX6, rfl, ingX6, tyX6_ok, nmX6, rfl, by decide, mg 111 (by decide +kernel) rfl, by decide +kernel, rfl, rfl⟩
theorem fl_X0_75 : FL RX0 75 5 3 (.int) false := ⟨RX5, TX5, 5, tyX5, rfl, ingX5, tyX5_ok, nmX5, rfl, by decide, mg 159 (by decide +kernel) rfl, by decide +kernel, rfl, rfl⟩
theorem fl_X0_78 : FL RX0 78 5 2 (.int) false := ⟨RX5, TX5, 5, tyX5, rfl, ingX5, tyX5_ok, nmX5, rfl, by decide, mg 157 (by decide +kernel) rfl, by decide +kernel, rfl, rfl⟩
theorem fl_X1_21 : FL RX1 21 1 2 (.int) false := ⟨RX1, TX1, 3, tyX1, rfl, ingX1, tyX1_ok, nmX1, rfl, by decide, mg 232 (by decide +kernel) rfl, by decide +kernel, rfl, rfl⟩
theorem fl_X1_27 : FL RX1 27 1 0 (.int) false := ⟨RX1, TX1, 3, tyX1, rfl, ingX1, tyX1_ok, nmX1, rfl, by decide, mg 230 (by decide +kernel) rfl, by decide +kernel, rfl, rfl⟩
theorem fl_X1_30 : FL RX1 30 1 1 (.int) false := ⟨RX1, TX1, 3, tyX1, rfl, ingX1, tyX1_ok, nmX1, rfl, by decide, mg 231 (by decide +kernel) rfl, by decide +kernel, rfl, rfl⟩
theorem fl_X1_33 : FL RX1 33 0 2 (.int) false := ⟨RX0, TX0, 4, tyX0, rfl, ingX0, tyX0_ok, nmX0, rfl, by decide, mg 182 (by decide +kernel) rfl, by decide +kernel, rfl, rfl⟩
theorem fl_X1_38 : FL RX1 38 0 0 (.array (.object "WhenToSpeak$Thing")) true := ⟨RX0, TX0, 4, tyX0, rfl, ingX0, tyX0_ok, nmX0, rfl, by decide, mg 175 (by decide +kernel) rfl, by decide +kernel, rfl, rfl⟩
theorem fl_X1_42 : FL RX1 42 6 3 (.int) false := ⟨RX6, TX6, 9, tyX6, rfl, ingX6, tyX6_ok, nmX6, rfl, by decide, mg 113 (by decide +kernel) rfl, by decide +kernel, rfl, rfl⟩
theorem fl_X1_53 : FL RX1 53 6 1 (.int) false := ⟨RX6, TX6, 9, tyX6, rfl, ingX6, tyX6_ok, nmX6, rfl, by decide, mg 107 (by decide +kernel) rfl, by decide +kernel, rfl, rfl⟩
theorem fl_X2_9 : FL RX2 9 2 2 (.int) false := ⟨RX2, TX2, 5, tyX2, rfl, ingX2, tyX2_ok, nmX2, rfl, by decide, mg 207 (by decide +kernel) rfl, by decide +kernel, rfl, rfl⟩
theorem fl_X2_15 : FL RX2 15 2 3 (.array .int) true := ⟨RX2, TX2, 5, tyX2, rfl, ingX2, tyX2_ok, nmX2, rfl, by decide, mg 209 (by decide +kernel) rfl, by decide +kernel, rfl, rfl⟩
theorem fl_X2_19 : FL RX2 19 2 0 (.int) false := ⟨RX2, TX2, 5, tyX2, rfl, ingX2, tyX2_ok, nmX2, rfl, by decide, mg 203 (by decide +kernel) rfl, by decide +kernel, rfl, rfl⟩
theorem fl_X2_22 : FL RX2 22 2 4 (.int) false := ⟨RX2, TX2, 5, tyX2, rfl, ingX2, tyX2_ok, nmX2, rfl, by decide, mg 210 (by decide +kernel) rfl, by decide +kernel, rfl, rfl⟩
theorem fl_X2_25 : FL RX2 25 2 1 (.int) false := ⟨RX2, TX2, 5, tyX2, rfl, ingX2, tyX2_ok, nmX2, rfl, by decide, mg 205 (by decide +kernel) rfl, by decide +kernel, rfl, rfl⟩
theorem fl_X2_28 : FL RX2 28 3 0 (.int) false := ⟨RX3, TX3, 5, tyX3, rfl, ingX3, tyX3_ok, nmX3, rfl, by decide, mg 350 (by decide +kernel) rfl, by decide +kernel, rfl, rfl⟩
theorem fl_X3_9 : FL RX3 9 3 1 (.array .int) true := ⟨RX3, TX3, 5, tyX3, rfl, ingX3, tyX3_ok, nmX3, rfl, by decide, mg 352 (by decide +kernel) rfl, by decide +kernel, rfl, rfl⟩
theorem fl_X3_15 : FL RX3 15 3 2 (.array .int) true := ⟨RX3, TX3, 5, tyX3, rfl, ingX3, tyX3_ok, nmX3, rfl, by decide, mg 353 (by decide +kernel) rfl, by decide +kernel, rfl, rfl⟩
theorem fl_X3_18 : FL RX3 18 3 3 (.array .int) true := ⟨RX3, TX3, 5, tyX3, rfl, ingX3, tyX3_ok, nmX3, rfl, by decide, mg 354 (by decide +kernel) rfl, by decide +kernel, rfl, rfl⟩
theorem fl_X3_21 : FL RX3 21 3 4 (.array .int) true := ⟨RX3, TX3, 5, tyX3, rfl, ingX3, tyX3_ok, nmX3, rfl, by decide, mg 355 (by decide +kernel) rfl, by decide +kernel, rfl, rfl⟩
theorem fl_X3_24 : FL RX3 24 3 0 (.int) false := ⟨RX3, TX3, 5, tyX3, rfl, ingX3, tyX3_ok, nmX3, rfl, by decide, mg 349 (by decide +kernel) rfl, by decide +kernel, rfl, rfl⟩
theorem fl_X4_9 : FL RX4 9 4 1 (.array .int) true := ⟨RX4, TX4, 19, tyX4, rfl, ingX4, tyX4_ok, nmX4, rfl, by decide, mg 250 (by decide +kernel) rfl, by decide +kernel, rfl, rfl⟩
theorem fl_X4_15 : FL RX4 15 4 2 (.array .int) true := ⟨RX4, TX4, 19, tyX4, rfl, ingX4, tyX4_ok, nmX4, rfl, by decide, mg 252 (by decide +kernel) rfl, by decide +kernel, rfl, rfl⟩
theorem fl_X4_21 : FL RX4 21 4 6 (.object "WhenToSpeak$Gate") true := ⟨RX4, TX4, 19, tyX4, rfl, ingX4, tyX4_ok, nmX4, rfl, by decide, mg 257 (by decide +kernel) rfl, by decide +kernel, rfl, rfl⟩
theorem fl_X4_25 : FL RX4 25 4 7 (.array .int) true := ⟨RX4, TX4, 19, tyX4, rfl, ingX4, tyX4_ok, nmX4, rfl, by decide, mg 258 (by decide +kernel) rfl, by decide +kernel, rfl, rfl⟩
theorem fl_X4_28 : FL RX4 28 4 8 (.array .int) true := ⟨RX4, TX4, 19, tyX4, rfl, ingX4, tyX4_ok, nmX4, rfl, by decide, mg 259 (by decide +kernel) rfl, by decide +kernel, rfl, rfl⟩
theorem fl_X4_31 : FL RX4 31 4 9 (.array .int) true := ⟨RX4, TX4, 19, tyX4, rfl, ingX4, tyX4_ok, nmX4, rfl, by decide, mg 260 (by decide +kernel) rfl, by decide +kernel, rfl, rfl⟩
theorem fl_X4_34 : FL RX4 34 4 10 (.array .int) true := ⟨RX4, TX4, 19, tyX4, rfl, ingX4, tyX4_ok, nmX4, rfl, by decide, mg 261 (by decide +kernel) rfl, by decide +kernel, rfl, rfl⟩
theorem fl_X4_37 : FL RX4 37 4 11 (.array .int) true := ⟨RX4, TX4, 19, tyX4, rfl, ingX4, tyX4_ok, nmX4, rfl, by decide, mg 262 (by decide +kernel) rfl, by decide +kernel, rfl, rfl⟩
theorem fl_X4_40 : FL RX4 40 4 12 (.array .int) true := ⟨RX4, TX4, 19, tyX4, rfl, ingX4, tyX4_ok, nmX4, rfl, by decide, mg 263 (by decide +kernel) rfl, by decide +kernel, rfl, rfl⟩
theorem fl_X4_43 : FL RX4 43 4 13 (.array .int) true := ⟨RX4, TX4, 19, tyX4, rfl, ingX4, tyX4_ok, nmX4, rfl, by decide, mg 264 (by decide +kernel) rfl, by decide +kernel, rfl, rfl⟩
theorem fl_X4_46 : FL RX4 46 4 14 (.array .int) true := ⟨RX4, TX4, 19, tyX4, rfl, ingX4, tyX4_ok, nmX4, rfl, by decide, mg 265 (by decide +kernel) rfl, by decide +kernel, rfl, rfl⟩
theorem fl_X4_49 : FL RX4 49 4 15 (.array .int) true := ⟨RX4, TX4, 19, tyX4, rfl, ingX4, tyX4_ok, nmX4, rfl, by decide, mg 266 (by decide +kernel) rfl, by decide +kernel, rfl, rfl⟩
theorem fl_X4_52 : FL RX4 52 4 3 (.object "WhenToSpeak$Work") true := ⟨RX4, TX4, 19, tyX4, rfl, ingX4, tyX4_ok, nmX4, rfl, by decide, mg 254 (by decide +kernel) rfl, by decide +kernel, rfl, rfl⟩
theorem fl_X4_56 : FL RX4 56 4 4 (.object "WhenToSpeak$Ways") true := ⟨RX4, TX4, 19, tyX4, rfl, ingX4, tyX4_ok, nmX4, rfl, by decide, mg 255 (by decide +kernel) rfl, by decide +kernel, rfl, rfl⟩
theorem fl_X4_60 : FL RX4 60 4 5 (.object "WhenToSpeak$Book") true := ⟨RX4, TX4, 19, tyX4, rfl, ingX4, tyX4_ok, nmX4, rfl, by decide, mg 256 (by decide +kernel) rfl, by decide +kernel, rfl, rfl⟩
theorem fl_X4_70 : FL RX4 70 4 17 (.int) false := ⟨RX4, TX4, 19, tyX4, rfl, ingX4, tyX4_ok, nmX4, rfl, by decide, mg 268 (by decide +kernel) rfl, by decide +kernel, rfl, rfl⟩
theorem fl_X4_80 : FL RX4 80 4 18 (.boolean) false := ⟨RX4, TX4, 19, tyX4, rfl, ingX4, tyX4_ok, nmX4, rfl, by decide, mg 269 (by decide +kernel) rfl, by decide +kernel, rfl, rfl⟩
theorem fl_X4_108 : FL RX4 108 4 16 (.int) false := ⟨RX4, TX4, 19, tyX4, rfl, ingX4, tyX4_ok, nmX4, rfl, by decide, mg 267 (by decide +kernel) rfl, by decide +kernel, rfl, rfl⟩
theorem fl_X4_115 : FL RX4 115 4 0 (.int) false := ⟨RX4, TX4, 19, tyX4, rfl, ingX4, tyX4_ok, nmX4, rfl, by decide, mg 248 (by decide +kernel) rfl, by decide +kernel, rfl, rfl⟩
theorem fl_X4_121 : FL RX4 121 0 2 (.int) false := ⟨RX0, TX0, 4, tyX0, rfl, ingX0, tyX0_ok, nmX0, rfl, by decide, mg 184 (by decide +kernel) rfl, by decide +kernel, rfl, rfl⟩
theorem fl_X4_124 : FL RX4 124 0 0 (.array (.object "WhenToSpeak$Thing")) true := ⟨RX0, TX0, 4, tyX0, rfl, ingX0, tyX0_ok, nmX0, rfl, by decide, mg 177 (by decide +kernel) rfl, by decide +kernel, rfl, rfl⟩
theorem fl_X4_128 : FL RX4 128 6 0 (.int) false := ⟨RX6, TX6, 9, tyX6, rfl, ingX6, tyX6_ok, nmX6, rfl, by decide, mg 102 (by decide +kernel) rfl, by decide +kernel, rfl, rfl⟩
theorem fl_X4_140 : FL RX4 140 6 2 (.int) false := ⟨RX6, TX6, 9, tyX6, rfl, ingX6, tyX6_ok, nmX6, rfl, by decide, mg 110 (by decide +kernel) rfl, by decide +kernel, rfl, rfl⟩
theorem fl_X4_143 : FL RX4 143 9 4 (.array (.array .int)) true := ⟨RX9, TX9, 8, tyX9, rfl, ingX9, tyX9_ok, nmX9, rfl, by decide, mg 45 (by decide +kernel) rfl, by decide +kernel, rfl, rfl⟩
theorem fl_X4_167 : FL RX4 167 8 1 (.array .int) true := ⟨RX8, TX8, 2, tyX8, rfl, ingX8, tyX8_ok, nmX8, rfl, by decide, mg 80 (by decide +kernel) rfl, by decide +kernel, rfl, rfl⟩
theorem fl_X6_9 : FL RX6 9 6 8 (.boolean) false := ⟨RX6, TX6, 9, tyX6, rfl, ingX6, tyX6_ok, nmX6, rfl, by decide, mg 126 (by decide +kernel) rfl, by decide +kernel, rfl, rfl⟩
theorem fl_X6_15 : FL RX6 15 6 6 (.int) false := ⟨RX6, TX6, 9, tyX6, rfl, ingX6, tyX6_ok, nmX6, rfl, by decide, mg 119 (by decide +kernel) rfl, by decide +kernel, rfl, rfl⟩
theorem fl_X6_19 : FL RX6 19 6 4 (.int) false := ⟨RX6, TX6, 9, tyX6, rfl, ingX6, tyX6_ok, nmX6, rfl, by decide, mg 115 (by decide +kernel) rfl, by decide +kernel, rfl, rfl⟩
theorem fl_X6_22 : FL RX6 22 6 5 (.int) false := ⟨RX6, TX6, 9, tyX6, rfl, ingX6, tyX6_ok, nmX6, rfl, by decide, mg 117 (by decide +kernel) rfl, by decide +kernel, rfl, rfl⟩
theorem fl_X6_25 : FL RX6 25 6 7 (.int) false := ⟨RX6, TX6, 9, tyX6, rfl, ingX6, tyX6_ok, nmX6, rfl, by decide, mg 123 (by decide +kernel) rfl, by decide +kernel, rfl, rfl⟩
theorem fl_X6_34 : FL RX6 34 6 1 (.int) false := ⟨RX6, TX6, 9, tyX6, rfl, ingX6, tyX6_ok, nmX6, rfl, by decide, mg 106 (by decide +kernel) rfl, by decide +kernel, rfl, rfl⟩
theorem fl_X7_7 : FL RX7 7 7 4 (.object "WhenToSpeak$Work") true := ⟨RX7, TX7, 8, tyX7, rfl, ingX7, tyX7_ok, nmX7, rfl, by decide, mg 323 (by decide +kernel) rfl, by decide +kernel, rfl, rfl⟩
theorem fl_X7_13 : FL RX7 13 7 5 (.object "WhenToSpeak$Ways") true := ⟨RX7, TX7, 8, tyX7, rfl, ingX7, tyX7_ok, nmX7, rfl, by decide, mg 324 (by decide +kernel) rfl, by decide +kernel, rfl, rfl⟩
theorem fl_X7_17 : FL RX7 17 7 6 (.object "WhenToSpeak$Book") true := ⟨RX7, TX7, 8, tyX7, rfl, ingX7, tyX7_ok, nmX7, rfl, by decide, mg 325 (by decide +kernel) rfl, by decide +kernel, rfl, rfl⟩
theorem fl_X7_21 : FL RX7 21 7 0 (.int) false := ⟨RX7, TX7, 8, tyX7, rfl, ingX7, tyX7_ok, nmX7, rfl, by decide, mg 315 (by decide +kernel) rfl, by decide +kernel, rfl, rfl⟩
theorem fl_X7_25 : FL RX7 25 7 1 (.int) false := ⟨RX7, TX7, 8, tyX7, rfl, ingX7, tyX7_ok, nmX7, rfl, by decide, mg 317 (by decide +kernel) rfl, by decide +kernel, rfl, rfl⟩
theorem fl_X7_28 : FL RX7 28 7 2 (.int) false := ⟨RX7, TX7, 8, tyX7, rfl, ingX7, tyX7_ok, nmX7, rfl, by decide, mg 319 (by decide +kernel) rfl, by decide +kernel, rfl, rfl⟩
theorem fl_X7_31 : FL RX7 31 7 3 (.int) false := ⟨RX7, TX7, 8, tyX7, rfl, ingX7, tyX7_ok, nmX7, rfl, by decide, mg 321 (by decide +kernel) rfl, by decide +kernel, rfl, rfl⟩
theorem fl_X7_34 : FL RX7 34 7 7 (.int) false := ⟨RX7, TX7, 8, tyX7, rfl, ingX7, tyX7_ok, nmX7, rfl, by decide, mg 326 (by decide +kernel) rfl, by decide +kernel, rfl, rfl⟩
theorem fl_X7_51 : FL RX7 51 9 4 (.array (.array .int)) true := ⟨RX9, TX9, 8, tyX9, rfl, ingX9, tyX9_ok, nmX9, rfl, by decide, mg 44 (by decide +kernel) rfl, by decide +kernel, rfl, rfl⟩
theorem fl_X7_61 : FL RX7 61 0 2 (.int) false := ⟨RX0, TX0, 4, tyX0, rfl, ingX0, tyX0_ok, nmX0, rfl, by decide, mg 183 (by decide +kernel) rfl, by decide +kernel, rfl, rfl⟩
theorem fl_X7_70 : FL RX7 70 0 0 (.array (.object "WhenToSpeak$Thing")) true := ⟨RX0, TX0, 4, tyX0, rfl, ingX0, tyX0_ok, nmX0, rfl, by decide, mg 176 (by decide +kernel) rfl, by decide +kernel, rfl, rfl⟩
theorem fl_X7_74 : FL RX7 74 6 6 (.int) false := ⟨RX6, TX6, 9, tyX6, rfl, ingX6, tyX6_ok, nmX6, rfl, by decide, mg 120 (by decide +kernel) rfl, by decide +kernel, rfl, rfl⟩
theorem fl_X7_83 : FL RX7 83 6 7 (.int) false := ⟨RX6, TX6, 9, tyX6, rfl, ingX6, tyX6_ok, nmX6, rfl, by decide, mg 124 (by decide +kernel) rfl, by decide +kernel, rfl, rfl⟩
theorem fl_X7_86 : FL RX7 86 6 0 (.int) false := ⟨RX6, TX6, 9, tyX6, rfl, ingX6, tyX6_ok, nmX6, rfl, by decide, mg 103 (by decide +kernel) rfl, by decide +kernel, rfl, rfl⟩
theorem fl_X8_11 : FL RX8 11 8 0 (.array (.array .int)) true := ⟨RX8, TX8, 2, tyX8, rfl, ingX8, tyX8_ok, nmX8, rfl, by decide, mg 77 (by decide +kernel) rfl, by decide +kernel, rfl, rfl⟩
theorem fl_X8_16 : FL RX8 16 8 1 (.array .int) true := ⟨RX8, TX8, 2, tyX8, rfl, ingX8, tyX8_ok, nmX8, rfl, by decide, mg 79 (by decide +kernel) rfl, by decide +kernel, rfl, rfl⟩
theorem fl_X9_11 : FL RX9 11 9 0 (.array (.array .int)) true := ⟨RX9, TX9, 8, tyX9, rfl, ingX9, tyX9_ok, nmX9, rfl, by decide, mg 35 (by decide +kernel) rfl, by decide +kernel, rfl, rfl⟩
theorem fl_X9_16 : FL RX9 16 9 1 (.array (.array .int)) true := ⟨RX9, TX9, 8, tyX9, rfl, ingX9, tyX9_ok, nmX9, rfl, by decide, mg 37 (by decide +kernel) rfl, by decide +kernel, rfl, rfl⟩
theorem fl_X9_19 : FL RX9 19 9 2 (.array .int) true := ⟨RX9, TX9, 8, tyX9, rfl, ingX9, tyX9_ok, nmX9, rfl, by decide, mg 39 (by decide +kernel) rfl, by decide +kernel, rfl, rfl⟩
theorem fl_X9_23 : FL RX9 23 9 3 (.array (.array .int)) true := ⟨RX9, TX9, 8, tyX9, rfl, ingX9, tyX9_ok, nmX9, rfl, by decide, mg 41 (by decide +kernel) rfl, by decide +kernel, rfl, rfl⟩
theorem fl_X9_26 : FL RX9 26 9 4 (.array (.array .int)) true := ⟨RX9, TX9, 8, tyX9, rfl, ingX9, tyX9_ok, nmX9, rfl, by decide, mg 43 (by decide +kernel) rfl, by decide +kernel, rfl, rfl⟩
theorem fl_X9_29 : FL RX9 29 9 6 (.array .long) false := ⟨RX9, TX9, 8, tyX9, rfl, ingX9, tyX9_ok, nmX9, rfl, by decide, mg 49 (by decide +kernel) rfl, by decide +kernel, rfl, rfl⟩
theorem fl_X9_33 : FL RX9 33 9 7 (.array .long) false := ⟨RX9, TX9, 8, tyX9, rfl, ingX9, tyX9_ok, nmX9, rfl, by decide, mg 50 (by decide +kernel) rfl, by decide +kernel, rfl, rfl⟩
theorem fl_X9_50 : FL RX9 50 9 5 (.int) false := ⟨RX9, TX9, 8, tyX9, rfl, ingX9, tyX9_ok, nmX9, rfl, by decide, mg 47 (by decide +kernel) rfl, by decide +kernel, rfl, rfl⟩
theorem fl_X11_7 : FL RX11 7 11 0 (.array .int) true := ⟨RX11, TX11, 51, tyX11, rfl, ingX11, tyX11_ok, nmX11, rfl, by decide, mg 893 (by decide +kernel) rfl, by decide +kernel, rfl, rfl⟩
theorem fl_X11_13 : FL RX11 13 11 1 (.array .int) true := ⟨RX11, TX11, 51, tyX11, rfl, ingX11, tyX11_ok, nmX11, rfl, by decide, mg 894 (by decide +kernel) rfl, by decide +kernel, rfl, rfl⟩
theorem fl_X11_16 : FL RX11 16 11 2 (.array .int) true := ⟨RX11, TX11, 51, tyX11, rfl, ingX11, tyX11_ok, nmX11, rfl, by decide, mg 895 (by decide +kernel) rfl, by decide +kernel, rfl, rfl⟩
theorem fl_X11_19 : FL RX11 19 11 4 (.array .int) true := ⟨RX11, TX11, 51, tyX11, rfl, ingX11, tyX11_ok, nmX11, rfl, by decide, mg 897 (by decide +kernel) rfl, by decide +kernel, rfl, rfl⟩
theorem fl_X11_22 : FL RX11 22 11 6 (.array .long) true := ⟨RX11, TX11, 51, tyX11, rfl, ingX11, tyX11_ok, nmX11, rfl, by decide, mg 899 (by decide +kernel) rfl, by decide +kernel, rfl, rfl⟩
theorem fl_X11_26 : FL RX11 26 11 7 (.array .long) true := ⟨RX11, TX11, 51, tyX11, rfl, ingX11, tyX11_ok, nmX11, rfl, by decide, mg 900 (by decide +kernel) rfl, by decide +kernel, rfl, rfl⟩
theorem fl_X11_29 : FL RX11 29 11 8 (.array .int) true := ⟨RX11, TX11, 51, tyX11, rfl, ingX11, tyX11_ok, nmX11, rfl, by decide, mg 901 (by decide +kernel) rfl, by decide +kernel, rfl, rfl⟩
theorem fl_X11_32 : FL RX11 32 11 9 (.array .int) true := ⟨RX11, TX11, 51, tyX11, rfl, ingX11, tyX11_ok, nmX11, rfl, by decide, mg 902 (by decide +kernel) rfl, by decide +kernel, rfl, rfl⟩
theorem fl_X11_35 : FL RX11 35 11 10 (.array .int) true := ⟨RX11, TX11, 51, tyX11, rfl, ingX11, tyX11_ok, nmX11, rfl, by decide, mg 903 (by decide +kernel) rfl, by decide +kernel, rfl, rfl⟩
theorem fl_X11_38 : FL RX11 38 11 11 (.array .int) true := ⟨RX11, TX11, 51, tyX11, rfl, ingX11, tyX11_ok, nmX11, rfl, by decide, mg 904 (by decide +kernel) rfl, by decide +kernel, rfl, rfl⟩
theorem fl_X11_41 : FL RX11 41 11 13 (.array .int) true := ⟨RX11, TX11, 51, tyX11, rfl, ingX11, tyX11_ok, nmX11, rfl, by decide, mg 906 (by decide +kernel) rfl, by decide +kernel, rfl, rfl⟩
theorem fl_X11_44 : FL RX11 44 11 14 (.array .int) true := ⟨RX11, TX11, 51, tyX11, rfl, ingX11, tyX11_ok, nmX11, rfl, by decide, mg 907 (by decide +kernel) rfl, by decide +kernel, rfl, rfl⟩
theorem fl_X11_47 : FL RX11 47 11 15 (.array .int) true := ⟨RX11, TX11, 51, tyX11, rfl, ingX11, tyX11_ok, nmX11, rfl, by decide, mg 908 (by decide +kernel) rfl, by decide +kernel, rfl, rfl⟩
theorem fl_X11_50 : FL RX11 50 11 16 (.array .int) true := ⟨RX11, TX11, 51, tyX11, rfl, ingX11, tyX11_ok, nmX11, rfl, by decide, mg 909 (by decide +kernel) rfl, by decide +kernel, rfl, rfl⟩
theorem fl_X11_53 : FL RX11 53 11 17 (.array .int) true := ⟨RX11, TX11, 51, tyX11, rfl, ingX11, tyX11_ok, nmX11, rfl, by decide, mg 910 (by decide +kernel) rfl, by decide +kernel, rfl, rfl⟩
theorem fl_X11_56 : FL RX11 56 11 18 (.array .int) true := ⟨RX11, TX11, 51, tyX11, rfl, ingX11, tyX11_ok, nmX11, rfl, by decide, mg 911 (by decide +kernel) rfl, by decide +kernel, rfl, rfl⟩
theorem fl_X11_59 : FL RX11 59 11 19 (.array .int) true := ⟨RX11, TX11, 51, tyX11, rfl, ingX11, tyX11_ok, nmX11, rfl, by decide, mg 912 (by decide +kernel) rfl, by decide +kernel, rfl, rfl⟩
theorem fl_X11_62 : FL RX11 62 11 20 (.array .int) true := ⟨RX11, TX11, 51, tyX11, rfl, ingX11, tyX11_ok, nmX11, rfl, by decide, mg 913 (by decide +kernel) rfl, by decide +kernel, rfl, rfl⟩
theorem fl_X11_65 : FL RX11 65 11 21 (.array .boolean) true := ⟨RX11, TX11, 51, tyX11, rfl, ingX11, tyX11_ok, nmX11, rfl, by decide, mg 914 (by decide +kernel) rfl, by decide +kernel, rfl, rfl⟩
theorem fl_X11_69 : FL RX11 69 11 22 (.array .int) true := ⟨RX11, TX11, 51, tyX11, rfl, ingX11, tyX11_ok, nmX11, rfl, by decide, mg 915 (by decide +kernel) rfl, by decide +kernel, rfl, rfl⟩
theorem fl_X11_72 : FL RX11 72 11 23 (.array .int) true := ⟨RX11, TX11, 51, tyX11, rfl, ingX11, tyX11_ok, nmX11, rfl, by decide, mg 916 (by decide +kernel) rfl, by decide +kernel, rfl, rfl⟩
theorem fl_X11_75 : FL RX11 75 11 24 (.array .int) true := ⟨RX11, TX11, 51, tyX11, rfl, ingX11, tyX11_ok, nmX11, rfl, by decide, mg 917 (by decide +kernel) rfl, by decide +kernel, rfl, rfl⟩
theorem fl_X11_78 : FL RX11 78 11 25 (.array .int) true := ⟨RX11, TX11, 51, tyX11, rfl, ingX11, tyX11_ok, nmX11, rfl, by decide, mg 918 (by decide +kernel) rfl, by decide +kernel, rfl, rfl⟩
theorem fl_X11_81 : FL RX11 81 11 26 (.array .int) true := ⟨RX11, TX11, 51, tyX11, rfl, ingX11, tyX11_ok, nmX11, rfl, by decide, mg 919 (by decide +kernel) rfl, by decide +kernel, rfl, rfl⟩
theorem fl_X11_84 : FL RX11 84 11 27 (.array .int) true := ⟨RX11, TX11, 51, tyX11, rfl, ingX11, tyX11_ok, nmX11, rfl, by decide, mg 920 (by decide +kernel) rfl, by decide +kernel, rfl, rfl⟩
theorem fl_X11_87 : FL RX11 87 11 28 (.array .int) true := ⟨RX11, TX11, 51, tyX11, rfl, ingX11, tyX11_ok, nmX11, rfl, by decide, mg 921 (by decide +kernel) rfl, by decide +kernel, rfl, rfl⟩
theorem fl_X11_90 : FL RX11 90 11 29 (.array .int) true := ⟨RX11, TX11, 51, tyX11, rfl, ingX11, tyX11_ok, nmX11, rfl, by decide, mg 922 (by decide +kernel) rfl, by decide +kernel, rfl, rfl⟩
theorem fl_X11_93 : FL RX11 93 11 30 (.array .int) true := ⟨RX11, TX11, 51, tyX11, rfl, ingX11, tyX11_ok, nmX11, rfl, by decide, mg 923 (by decide +kernel) rfl, by decide +kernel, rfl, rfl⟩
theorem fl_X11_96 : FL RX11 96 11 31 (.array .int) true := ⟨RX11, TX11, 51, tyX11, rfl, ingX11, tyX11_ok, nmX11, rfl, by decide, mg 924 (by decide +kernel) rfl, by decide +kernel, rfl, rfl⟩
theorem fl_X11_99 : FL RX11 99 11 32 (.array .int) true := ⟨RX11, TX11, 51, tyX11, rfl, ingX11, tyX11_ok, nmX11, rfl, by decide, mg 925 (by decide +kernel) rfl, by decide +kernel, rfl, rfl⟩
theorem fl_X11_102 : FL RX11 102 11 33 (.array .int) true := ⟨RX11, TX11, 51, tyX11, rfl, ingX11, tyX11_ok, nmX11, rfl, by decide, mg 926 (by decide +kernel) rfl, by decide +kernel, rfl, rfl⟩
theorem fl_X11_105 : FL RX11 105 11 35 (.int) false := ⟨RX11, TX11, 51, tyX11, rfl, ingX11, tyX11_ok, nmX11, rfl, by decide, mg 928 (by decide +kernel) rfl, by decide +kernel, rfl, rfl⟩
theorem fl_X11_109 : FL RX11 109 11 40 (.array .int) true := ⟨RX11, TX11, 51, tyX11, rfl, ingX11, tyX11_ok, nmX11, rfl, by decide, mg 933 (by decide +kernel) rfl, by decide +kernel, rfl, rfl⟩
theorem fl_X11_112 : FL RX11 112 11 42 (.array .int) true := ⟨RX11, TX11, 51, tyX11, rfl, ingX11, tyX11_ok, nmX11, rfl, by decide, mg 935 (by decide +kernel) rfl, by decide +kernel, rfl, rfl⟩
theorem fl_X11_115 : FL RX11 115 11 43 (.array .int) true := ⟨RX11, TX11, 51, tyX11, rfl, ingX11, tyX11_ok, nmX11, rfl, by decide, mg 936 (by decide +kernel) rfl, by decide +kernel, rfl, rfl⟩
theorem fl_X11_118 : FL RX11 118 11 44 (.array .int) true := ⟨RX11, TX11, 51, tyX11, rfl, ingX11, tyX11_ok, nmX11, rfl, by decide, mg 937 (by decide +kernel) rfl, by decide +kernel, rfl, rfl⟩
theorem fl_X11_121 : FL RX11 121 11 46 (.array .int) true := ⟨RX11, TX11, 51, tyX11, rfl, ingX11, tyX11_ok, nmX11, rfl, by decide, mg 939 (by decide +kernel) rfl, by decide +kernel, rfl, rfl⟩
theorem fl_X11_124 : FL RX11 124 11 47 (.array .int) true := ⟨RX11, TX11, 51, tyX11, rfl, ingX11, tyX11_ok, nmX11, rfl, by decide, mg 940 (by decide +kernel) rfl, by decide +kernel, rfl, rfl⟩
theorem fl_X11_127 : FL RX11 127 11 48 (.array .int) true := ⟨RX11, TX11, 51, tyX11, rfl, ingX11, tyX11_ok, nmX11, rfl, by decide, mg 941 (by decide +kernel) rfl, by decide +kernel, rfl, rfl⟩
theorem fl_X11_130 : FL RX11 130 11 49 (.array .int) true := ⟨RX11, TX11, 51, tyX11, rfl, ingX11, tyX11_ok, nmX11, rfl, by decide, mg 942 (by decide +kernel) rfl, by decide +kernel, rfl, rfl⟩
theorem fl_X11_133 : FL RX11 133 11 50 (.array .int) true := ⟨RX11, TX11, 51, tyX11, rfl, ingX11, tyX11_ok, nmX11, rfl, by decide, mg 943 (by decide +kernel) rfl, by decide +kernel, rfl, rfl⟩
theorem fl_X11_150 : FL RX11 150 11 3 (.int) false := ⟨RX11, TX11, 51, tyX11, rfl, ingX11, tyX11_ok, nmX11, rfl, by decide, mg 896 (by decide +kernel) rfl, by decide +kernel, rfl, rfl⟩
theorem fl_X11_158 : FL RX11 158 11 5 (.int) false := ⟨RX11, TX11, 51, tyX11, rfl, ingX11, tyX11_ok, nmX11, rfl, by decide, mg 898 (by decide +kernel) rfl, by decide +kernel, rfl, rfl⟩
theorem fl_X11_182 : FL RX11 182 11 12 (.int) false := ⟨RX11, TX11, 51, tyX11, rfl, ingX11, tyX11_ok, nmX11, rfl, by decide, mg 905 (by decide +kernel) rfl, by decide +kernel, rfl, rfl⟩
theorem fl_X11_195 : FL RX11 195 11 45 (.int) false := ⟨RX11, TX11, 51, tyX11, rfl, ingX11, tyX11_ok, nmX11, rfl, by decide, mg 938 (by decide +kernel) rfl, by decide +kernel, rfl, rfl⟩
theorem fl_X11_227 : FL RX11 227 11 34 (.int) false := ⟨RX11, TX11, 51, tyX11, rfl, ingX11, tyX11_ok, nmX11, rfl, by decide, mg 927 (by decide +kernel) rfl, by decide +kernel, rfl, rfl⟩
theorem fl_X11_232 : FL RX11 232 11 36 (.int) false := ⟨RX11, TX11, 51, tyX11, rfl, ingX11, tyX11_ok, nmX11, rfl, by decide, mg 929 (by decide +kernel) rfl, by decide +kernel, rfl, rfl⟩
theorem fl_X11_239 : FL RX11 239 11 37 (.long) false := ⟨RX11, TX11, 51, tyX11, rfl, ingX11, tyX11_ok, nmX11, rfl, by decide, mg 930 (by decide +kernel) rfl, by decide +kernel, rfl, rfl⟩
theorem fl_X11_243 : FL RX11 243 11 38 (.int) false := ⟨RX11, TX11, 51, tyX11, rfl, ingX11, tyX11_ok, nmX11, rfl, by decide, mg 931 (by decide +kernel) rfl, by decide +kernel, rfl, rfl⟩
theorem fl_X11_269 : FL RX11 269 11 39 (.int) false := ⟨RX11, TX11, 51, tyX11, rfl, ingX11, tyX11_ok, nmX11, rfl, by decide, mg 932 (by decide +kernel) rfl, by decide +kernel, rfl, rfl⟩
theorem fl_X11_322 : FL RX11 322 11 41 (.int) false := ⟨RX11, TX11, 51, tyX11, rfl, ingX11, tyX11_ok, nmX11, rfl, by decide, mg 934 (by decide +kernel) rfl, by decide +kernel, rfl, rfl⟩
theorem ml_X10_11 : Cond.methodLink RX10 11 yX9_init ∈ gw := mg 29 (by decide +kernel) rfl
theorem ml_X10_18 : Cond.methodLink RX10 18 yX8_init ∈ gw := mg 72 (by decide +kernel) rfl
theorem ml_X10_25 : Cond.methodLink RX10 25 yX0_init ∈ gw := mg 89 (by decide +kernel) rfl
theorem ml_X10_32 : Cond.methodLinkNest RX10 32 yX2_init "WhenToSpeak" ∈ nestW := mn 199 (by decide +kernel) rfl
theorem ml_X10_45 : Cond.methodLinkNest RX10 45 yX1_init "WhenToSpeak" ∈ nestW := mn 226 (by decide +kernel) rfl
theorem ml_X10_52 : Cond.methodLink RX10 52 yX4_init ∈ gw := mg 242 (by decide +kernel) rfl
theorem ml_X10_61 : Cond.methodLink RX10 61 yX7_init ∈ gw := mg 311 (by decide +kernel) rfl
theorem ml_X10_70 : Cond.methodLinkNest RX10 70 yX3_init "WhenToSpeak" ∈ nestW := mn 345 (by decide +kernel) rfl
theorem ml_X10_75 : Cond.methodLink RX10 75 yX10_isState ∈ gw := mg 405 (by decide +kernel) rfl
theorem ml_X10_79 : Cond.methodLink RX10 79 yX10_isOften ∈ gw := mg 411 (by decide +kernel) rfl
theorem ml_X10_86 : Cond.methodLink RX10 86 yX10_exchange ∈ gw := mg 414 (by decide +kernel) rfl
theorem ml_X10_90 : Cond.methodLink RX10 90 yX10_within ∈ gw := mg 408 (by decide +kernel) rfl
theorem ml_X10_104 : Cond.methodLink RX10 104 yX10_isPerson ∈ gw := mg 433 (by decide +kernel) rfl
theorem ml_X10_113 : Cond.methodLink RX10 113 yX9_fittingRows ∈ gw := mg 444 (by decide +kernel) rfl
theorem ml_X10_117 : Cond.methodLink RX10 117 yX10_isAhead ∈ gw := mg 467 (by decide +kernel) rfl
theorem ml_X10_120 : Cond.methodLink RX10 120 yX9_lookAhead ∈ gw := mg 470 (by decide +kernel) rfl
theorem ml_X10_127 : Cond.methodLink RX10 127 yX9_seamOdds ∈ gw := mg 483 (by decide +kernel) rfl
theorem ml_X10_165 : Cond.methodLink RX10 165 yX0_hasThing ∈ gw := mg 503 (by decide +kernel) rfl
theorem ml_X10_172 : Cond.methodLink RX10 172 yX0_sayingsWith ∈ gw := mg 507 (by decide +kernel) rfl
theorem ml_X10_175 : Cond.methodLink RX10 175 yX0_standing ∈ gw := mg 516 (by decide +kernel) rfl
theorem ml_X10_178 : Cond.methodLink RX10 178 yX6_valueIn ∈ gw := mg 534 (by decide +kernel) rfl
theorem ml_X10_181 : Cond.methodLink RX10 181 yX10_isWay ∈ gw := mg 546 (by decide +kernel) rfl
theorem ml_X10_190 : Cond.methodLink RX10 190 yX8_lossBy ∈ gw := mg 557 (by decide +kernel) rfl
theorem ml_X10_194 : Cond.methodLink RX10 194 yX0_thingsThatAre ∈ gw := mg 566 (by decide +kernel) rfl
theorem ml_X10_203 : Cond.methodLink RX10 203 yX2_append ∈ gw := mg 575 (by decide +kernel) rfl
theorem ml_X10_207 : Cond.methodLink RX10 207 yX2_parse ∈ gw := mg 583 (by decide +kernel) rfl
theorem ml_X10_220 : Cond.methodLink RX10 220 yX0_hasThings ∈ gw := mg 694 (by decide +kernel) rfl
theorem ml_X10_223 : Cond.methodLink RX10 223 yX10_barNow ∈ gw := mg 698 (by decide +kernel) rfl
theorem ml_X10_227 : Cond.methodLink RX10 227 yX1_open ∈ gw := mg 702 (by decide +kernel) rfl
theorem ml_X10_231 : Cond.methodLink RX10 231 yX0_countSaid ∈ gw := mg 725 (by decide +kernel) rfl
theorem ml_X10_235 : Cond.methodLink RX10 235 yX3_mostBars ∈ gw := mg 729 (by decide +kernel) rfl
theorem ml_X10_239 : Cond.methodLink RX10 239 yX1_bar ∈ gw := mg 737 (by decide +kernel) rfl
theorem ml_X10_243 : Cond.methodLink RX10 243 yX4_make ∈ gw := mg 749 (by decide +kernel) rfl
theorem ml_X10_256 : Cond.methodLink RX10 256 yX0_canBeSaid ∈ gw := mg 816 (by decide +kernel) rfl
theorem ml_X10_276 : Cond.methodLink RX10 276 yX0_hasSaying ∈ gw := mg 824 (by decide +kernel) rfl
theorem ml_X10_282 : Cond.methodLink RX10 282 yX0_deadThings ∈ gw := mg 832 (by decide +kernel) rfl
theorem ml_X10_286 : Cond.methodLink RX10 286 yX0_lookedAtBy ∈ gw := mg 840 (by decide +kernel) rfl
theorem ml_X10_289 : Cond.methodLink RX10 289 yX0_outcomesBy ∈ gw := mg 844 (by decide +kernel) rfl
theorem ml_X10_292 : Cond.methodLink RX10 292 yX10_chance ∈ gw := mg 848 (by decide +kernel) rfl
theorem ml_X10_296 : Cond.methodLink RX10 296 yX10_choose ∈ gw := mg 851 (by decide +kernel) rfl
theorem ml_X10_300 : Cond.methodLink RX10 300 yX10_commonPart ∈ gw := mg 854 (by decide +kernel) rfl
theorem ml_X10_304 : Cond.methodLink RX10 304 yX0_personsWith ∈ gw := mg 861 (by decide +kernel) rfl
theorem ml_X10_307 : Cond.methodLink RX10 307 yX10_contains ∈ gw := mg 865 (by decide +kernel) rfl
theorem ml_X10_310 : Cond.methodLink RX10 310 yX7_run ∈ gw := mg 870 (by decide +kernel) rfl
theorem ml_X0_23 : Cond.methodLinkNest RX0 23 yX6_init "WhenToSpeak" ∈ nestW := mn 98 (by decide +kernel) rfl
theorem ml_X0_24 : Cond.methodLinkNest RX0 24 yX5_init "WhenToSpeak" ∈ nestW := mn 149 (by decide +kernel) rfl
theorem ml_X0_36 : Cond.methodLink RX0 36 yX0_isTold ∈ gw := mg 520 (by decide +kernel) rfl
theorem ml_X0_43 : Cond.methodLink RX0 43 yX0_standing ∈ gw := mg 570 (by decide +kernel) rfl
theorem ml_X0_50 : Cond.methodLinkNest RX0 50 yX10_contains "WhenToSpeak" ∈ nestW := mn 511 (by decide +kernel) rfl
theorem ml_X0_63 : Cond.methodLink RX0 63 yJ6_bitCount_0f7a4 ∈ gw := mg 524 (by decide +kernel) rfl
theorem ml_X1_7 : Cond.methodLink RX1 7 yX3_alwaysFrom ∈ gw := mg 706 (by decide +kernel) rfl
theorem ml_X1_13 : Cond.methodLink RX1 13 yX3_barredKinds ∈ gw := mg 710 (by decide +kernel) rfl
theorem ml_X1_17 : Cond.methodLink RX1 17 yX3_barredWays ∈ gw := mg 714 (by decide +kernel) rfl
theorem ml_X1_47 : Cond.methodLinkNest RX1 47 yX10_contains "WhenToSpeak" ∈ nestW := mn 724 (by decide +kernel) rfl
theorem ml_X1_56 : Cond.methodLink RX1 56 yX1_isAlways ∈ gw := mg 741 (by decide +kernel) rfl
theorem ml_X2_33 : Cond.methodLink RX2 33 yX2_skipBlanks ∈ gw := mg 587 (by decide +kernel) rfl
theorem ml_X2_36 : Cond.methodLink RX2 36 yX2_readClause ∈ gw := mg 591 (by decide +kernel) rfl
theorem ml_X2_42 : Cond.methodLink RX2 42 yX2_takeWord ∈ gw := mg 596 (by decide +kernel) rfl
theorem ml_X2_46 : Cond.methodLink RX2 46 yX2_refuseNinth ∈ gw := mg 648 (by decide +kernel) rfl
theorem ml_X2_50 : Cond.methodLink RX2 50 yX2_readNever ∈ gw := mg 656 (by decide +kernel) rfl
theorem ml_X2_55 : Cond.methodLink RX2 55 yX2_takeNumber ∈ gw := mg 661 (by decide +kernel) rfl
theorem ml_X2_61 : Cond.methodLink RX2 61 yX2_needWord ∈ gw := mg 676 (by decide +kernel) rfl
theorem ml_X2_65 : Cond.methodLink RX2 65 yX2_finish ∈ gw := mg 667 (by decide +kernel) rfl
theorem ml_X2_73 : Cond.methodLink RX2 73 yX2_note ∈ gw := mg 652 (by decide +kernel) rfl
theorem ml_X2_85 : Cond.methodLink RX2 85 yX3_add ∈ gw := mg 671 (by decide +kernel) rfl
theorem ml_X2_98 : Cond.methodLinkNest RX2 98 yX10_within "WhenToSpeak" ∈ nestW := mn 665 (by decide +kernel) rfl
theorem ml_X3_28 : Cond.methodLink RX3 28 yX3_isLikely ∈ gw := mg 718 (by decide +kernel) rfl
theorem ml_X3_36 : Cond.methodLink RX3 36 yX3_saidWithin ∈ gw := mg 733 (by decide +kernel) rfl
theorem ml_X3_40 : Cond.methodLink RX3 40 Lib.Math.max.name ∈ gw := mg 736 (by decide +kernel) rfl
theorem ml_X4_20 : Cond.methodLinkNest RX4 20 yX1_init "WhenToSpeak" ∈ nestW := mn 247 (by decide +kernel) rfl
theorem ml_X4_64 : Cond.methodLink RX4 64 Lib.Math.min.name ∈ gw := mg 753 (by decide +kernel) rfl
theorem ml_X4_74 : Cond.methodLink RX4 74 yX3_countsSayings ∈ gw := mg 756 (by decide +kernel) rfl
theorem ml_X4_84 : Cond.methodLink RX4 84 yX4_pick ∈ gw := mg 760 (by decide +kernel) rfl
theorem ml_X4_88 : Cond.methodLink RX4 88 yX9_lookAhead ∈ gw := mg 766 (by decide +kernel) rfl
theorem ml_X4_94 : Cond.methodLink RX4 94 yX4_price ∈ gw := mg 767 (by decide +kernel) rfl
theorem ml_X4_98 : Cond.methodLink RX4 98 yX0_countSaid ∈ gw := mg 788 (by decide +kernel) rfl
theorem ml_X4_104 : Cond.methodLink RX4 104 yX4_mostBarsAt ∈ gw := mg 789 (by decide +kernel) rfl
theorem ml_X4_111 : Cond.methodLink RX4 111 yX4_decide ∈ gw := mg 794 (by decide +kernel) rfl
theorem ml_X4_118 : Cond.methodLink RX4 118 yX4_tell ∈ gw := mg 808 (by decide +kernel) rfl
theorem ml_X4_133 : Cond.methodLinkNest RX4 133 yX10_contains "WhenToSpeak" ∈ nestW := mn 764 (by decide +kernel) rfl
theorem ml_X4_137 : Cond.methodLink RX4 137 yX0_standing ∈ gw := mg 765 (by decide +kernel) rfl
theorem ml_X4_147 : Cond.methodLink RX4 147 yX1_open ∈ gw := mg 771 (by decide +kernel) rfl
theorem ml_X4_151 : Cond.methodLink RX4 151 yX8_lossBy ∈ gw := mg 772 (by decide +kernel) rfl
theorem ml_X4_157 : Cond.methodLink RX4 157 yX9_seamOdds ∈ gw := mg 773 (by decide +kernel) rfl
theorem ml_X4_161 : Cond.methodLink RX4 161 yX6_planValueIn ∈ gw := mg 774 (by decide +kernel) rfl
theorem ml_X4_164 : Cond.methodLink RX4 164 yX4_priceSet ∈ gw := mg 783 (by decide +kernel) rfl
theorem ml_X4_170 : Cond.methodLink RX4 170 yX1_bar ∈ gw := mg 787 (by decide +kernel) rfl
theorem ml_X4_174 : Cond.methodLink RX4 174 yX3_mostBars ∈ gw := mg 793 (by decide +kernel) rfl
theorem ml_X4_178 : Cond.methodLink RX4 178 yX4_nodeBehind ∈ gw := mg 798 (by decide +kernel) rfl
theorem ml_X4_182 : Cond.methodLink RX4 182 yX4_total ∈ gw := mg 802 (by decide +kernel) rfl
theorem ml_X4_185 : Cond.methodLink RX4 185 yJ6_bitCount_0f7a4 ∈ gw := mg 806 (by decide +kernel) rfl
theorem ml_X4_190 : Cond.methodLink RX4 190 yX1_isAlways ∈ gw := mg 807 (by decide +kernel) rfl
theorem ml_X6_28 : Cond.methodLink RX6 28 Lib.Math.max.name ∈ gw := mg 538 (by decide +kernel) rfl
theorem ml_X6_39 : Cond.methodLink RX6 39 yX6_isMust ∈ gw := mg 778 (by decide +kernel) rfl
theorem ml_X6_43 : Cond.methodLink RX6 43 yX6_valueIn ∈ gw := mg 782 (by decide +kernel) rfl
theorem ml_X7_37 : Cond.methodLink RX7 37 yX9_lookAhead ∈ gw := mg 874 (by decide +kernel) rfl
theorem ml_X7_43 : Cond.methodLink RX7 43 yX9_seamOdds ∈ gw := mg 875 (by decide +kernel) rfl
theorem ml_X7_47 : Cond.methodLink RX7 47 yX7_sayIn ∈ gw := mg 876 (by decide +kernel) rfl
theorem ml_X7_55 : Cond.methodLink RX7 55 yX8_lossBy ∈ gw := mg 886 (by decide +kernel) rfl
theorem ml_X7_66 : Cond.methodLink RX7 66 yX7_isLeft ∈ gw := mg 881 (by decide +kernel) rfl
theorem ml_X7_79 : Cond.methodLink RX7 79 yX6_isMust ∈ gw := mg 880 (by decide +kernel) rfl
theorem ml_X7_89 : Cond.methodLinkNest RX7 89 yX10_contains "WhenToSpeak" ∈ nestW := mn 885 (by decide +kernel) rfl
theorem ml_X9_36 : Cond.methodLink RX9 36 yX9_weigh ∈ gw := mg 448 (by decide +kernel) rfl
theorem ml_X9_40 : Cond.methodLink RX9 40 yX9_allWeights ∈ gw := mg 459 (by decide +kernel) rfl
theorem ml_X9_46 : Cond.methodLink RX9 46 yX9_moveOn ∈ gw := mg 475 (by decide +kernel) rfl
theorem ml_X9_54 : Cond.methodLinkNest RX9 54 yX10_contains "WhenToSpeak" ∈ nestW := mn 487 (by decide +kernel) rfl
theorem ml_X9_58 : Cond.methodLink RX9 58 yX9_factor ∈ gw := mg 452 (by decide +kernel) rfl
theorem ml_X9_62 : Cond.methodLink RX9 62 yX9_signFactor ∈ gw := mg 455 (by decide +kernel) rfl
theorem ml_L_9 : Cond.methodLink RLw 9 yX10_init ∈ gw := mg 21 (by decide +kernel) rfl
theorem ml_L_12 : Cond.methodLink RLw 12 yX11_init ∈ gw := mg 889 (by decide +kernel) rfl
theorem ml_L_13 : Cond.methodLink RLw 13 yX10_move ∈ gw := mg 401 (by decide +kernel) rfl
theorem ml_L_17 : Cond.methodLink RLw 17 yX11_move ∈ gw := mg 1048 (by decide +kernel) rfl
theorem ml_L_18 : Cond.methodLink RLw 18 yX10_shows ∈ gw := mg 417 (by decide +kernel) rfl
theorem ml_L_21 : Cond.methodLink RLw 21 yX11_shows ∈ gw := mg 1060 (by decide +kernel) rfl
theorem ml_L_22 : Cond.methodLink RLw 22 yX10_begins ∈ gw := mg 421 (by decide +kernel) rfl
theorem ml_L_26 : Cond.methodLink RLw 26 yX11_begins ∈ gw := mg 1064 (by decide +kernel) rfl
theorem ml_L_27 : Cond.methodLink RLw 27 yX10_seams ∈ gw := mg 425 (by decide +kernel) rfl
theorem ml_L_31 : Cond.methodLink RLw 31 yX11_seams ∈ gw := mg 1068 (by decide +kernel) rfl
theorem ml_L_32 : Cond.methodLink RLw 32 yX10_sign ∈ gw := mg 429 (by decide +kernel) rfl
theorem ml_L_35 : Cond.methodLink RLw 35 yX11_sign ∈ gw := mg 1073 (by decide +kernel) rfl
theorem ml_L_36 : Cond.methodLink RLw 36 yX10_go ∈ gw := mg 436 (by decide +kernel) rfl
theorem ml_L_39 : Cond.methodLink RLw 39 yX11_go ∈ gw := mg 1081 (by decide +kernel) rfl
theorem ml_L_40 : Cond.methodLink RLw 40 yX10_fits ∈ gw := mg 440 (by decide +kernel) rfl
theorem ml_L_43 : Cond.methodLink RLw 43 yX11_fits ∈ gw := mg 1086 (by decide +kernel) rfl
theorem ml_L_44 : Cond.methodLink RLw 44 yX10_odds ∈ gw := mg 463 (by decide +kernel) rfl
theorem ml_L_47 : Cond.methodLink RLw 47 yX11_odds ∈ gw := mg 1098 (by decide +kernel) rfl
theorem ml_L_48 : Cond.methodLink RLw 48 yX10_seam ∈ gw := mg 479 (by decide +kernel) rfl
theorem ml_L_51 : Cond.methodLink RLw 51 yX11_seam ∈ gw := mg 1108 (by decide +kernel) rfl
theorem ml_L_52 : Cond.methodLink RLw 52 yX10_until ∈ gw := mg 490 (by decide +kernel) rfl
theorem ml_L_55 : Cond.methodLink RLw 55 yX11_until ∈ gw := mg 1116 (by decide +kernel) rfl
theorem ml_L_56 : Cond.methodLink RLw 56 yX10_thing ∈ gw := mg 495 (by decide +kernel) rfl
theorem ml_L_60 : Cond.methodLink RLw 60 yX11_thing ∈ gw := mg 1120 (by decide +kernel) rfl
theorem ml_L_61 : Cond.methodLink RLw 61 yX10_dead ∈ gw := mg 499 (by decide +kernel) rfl
theorem ml_L_64 : Cond.methodLink RLw 64 yX11_dead ∈ gw := mg 1129 (by decide +kernel) rfl
theorem ml_L_65 : Cond.methodLink RLw 65 yX10_told ∈ gw := mg 512 (by decide +kernel) rfl
theorem ml_L_68 : Cond.methodLink RLw 68 yX11_told ∈ gw := mg 1141 (by decide +kernel) rfl
theorem ml_L_69 : Cond.methodLink RLw 69 yX10_value ∈ gw := mg 530 (by decide +kernel) rfl
theorem ml_L_72 : Cond.methodLink RLw 72 yX11_value ∈ gw := mg 1153 (by decide +kernel) rfl
theorem ml_L_73 : Cond.methodLink RLw 73 yX10_cost ∈ gw := mg 542 (by decide +kernel) rfl
theorem ml_L_76 : Cond.methodLink RLw 76 yX11_cost ∈ gw := mg 1161 (by decide +kernel) rfl
theorem ml_L_77 : Cond.methodLink RLw 77 yX10_seen ∈ gw := mg 549 (by decide +kernel) rfl
theorem ml_L_80 : Cond.methodLink RLw 80 yX11_seen ∈ gw := mg 1168 (by decide +kernel) rfl
theorem ml_L_81 : Cond.methodLink RLw 81 yX10_loss ∈ gw := mg 553 (by decide +kernel) rfl
theorem ml_L_84 : Cond.methodLink RLw 84 yX11_loss ∈ gw := mg 1173 (by decide +kernel) rfl
theorem ml_L_85 : Cond.methodLink RLw 85 yX10_count ∈ gw := mg 562 (by decide +kernel) rfl
theorem ml_L_88 : Cond.methodLink RLw 88 yX11_count ∈ gw := mg 1182 (by decide +kernel) rfl
theorem ml_L_91 : Cond.methodLink RLw 91 yX10_feed ∈ gw := mg 571 (by decide +kernel) rfl
theorem ml_L_95 : Cond.methodLink RLw 95 yX11_feed ∈ gw := mg 1190 (by decide +kernel) rfl
theorem ml_L_96 : Cond.methodLink RLw 96 yX10_read ∈ gw := mg 579 (by decide +kernel) rfl
theorem ml_L_99 : Cond.methodLink RLw 99 yX11_read ∈ gw := mg 1195 (by decide +kernel) rfl
theorem ml_L_100 : Cond.methodLink RLw 100 yX10_fault ∈ gw := mg 686 (by decide +kernel) rfl
theorem ml_L_104 : Cond.methodLink RLw 104 yX11_fault ∈ gw := mg 1250 (by decide +kernel) rfl
theorem ml_L_105 : Cond.methodLink RLw 105 yX10_barred ∈ gw := mg 690 (by decide +kernel) rfl
theorem ml_L_108 : Cond.methodLink RLw 108 yX11_barred ∈ gw := mg 1254 (by decide +kernel) rfl
theorem ml_L_109 : Cond.methodLink RLw 109 yX10_plan ∈ gw := mg 745 (by decide +kernel) rfl
theorem ml_L_113 : Cond.methodLink RLw 113 yX11_plan ∈ gw := mg 1286 (by decide +kernel) rfl
theorem ml_L_114 : Cond.methodLink RLw 114 yX10_say ∈ gw := mg 812 (by decide +kernel) rfl
theorem ml_L_117 : Cond.methodLink RLw 117 yX11_say ∈ gw := mg 1319 (by decide +kernel) rfl
theorem ml_L_118 : Cond.methodLink RLw 118 yX10_came ∈ gw := mg 820 (by decide +kernel) rfl
theorem ml_L_121 : Cond.methodLink RLw 121 yX11_came ∈ gw := mg 1331 (by decide +kernel) rfl
theorem ml_L_122 : Cond.methodLink RLw 122 yX10_saying ∈ gw := mg 828 (by decide +kernel) rfl
theorem ml_L_125 : Cond.methodLink RLw 125 yX11_saying ∈ gw := mg 1339 (by decide +kernel) rfl
theorem ml_L_126 : Cond.methodLink RLw 126 yX10_learnt ∈ gw := mg 836 (by decide +kernel) rfl
theorem ml_L_129 : Cond.methodLink RLw 129 yX11_learnt ∈ gw := mg 1343 (by decide +kernel) rfl
theorem ml_L_130 : Cond.methodLink RLw 130 yX10_who ∈ gw := mg 857 (by decide +kernel) rfl
theorem ml_L_133 : Cond.methodLink RLw 133 yX11_who ∈ gw := mg 1357 (by decide +kernel) rfl
theorem ml_L_134 : Cond.methodLink RLw 134 yX10_tried ∈ gw := mg 866 (by decide +kernel) rfl
theorem ml_L_137 : Cond.methodLink RLw 137 yX11_tried ∈ gw := mg 1361 (by decide +kernel) rfl
theorem ml_X11_138 : Cond.methodLink RX11 138 yX11_in ∈ gw := mg 1056 (by decide +kernel) rfl
theorem ml_X11_142 : Cond.methodLink RX11 142 yX11_isState ∈ gw := mg 1052 (by decide +kernel) rfl
theorem ml_X11_153 : Cond.methodLink RX11 153 yX11_isPerson ∈ gw := mg 1077 (by decide +kernel) rfl
theorem ml_X11_163 : Cond.methodLink RX11 163 yX11_showsAt ∈ gw := mg 1094 (by decide +kernel) rfl
theorem ml_X11_167 : Cond.methodLink RX11 167 yX11_findRows ∈ gw := mg 1090 (by decide +kernel) rfl
theorem ml_X11_173 : Cond.methodLink RX11 173 yX11_findOdds ∈ gw := mg 1103 (by decide +kernel) rfl
theorem ml_X11_179 : Cond.methodLink RX11 179 yX11_seamOdds ∈ gw := mg 1112 (by decide +kernel) rfl
theorem ml_X11_198 : Cond.methodLink RX11 198 yX11_isThing ∈ gw := mg 1133 (by decide +kernel) rfl
theorem ml_X11_201 : Cond.methodLink RX11 201 yX11_sayingsOf ∈ gw := mg 1137 (by decide +kernel) rfl
theorem ml_X11_205 : Cond.methodLink RX11 205 yX11_isTold ∈ gw := mg 1149 (by decide +kernel) rfl
theorem ml_X11_208 : Cond.methodLink RX11 208 yX11_stateOf ∈ gw := mg 1145 (by decide +kernel) rfl
theorem ml_X11_211 : Cond.methodLink RX11 211 yX11_valueOf ∈ gw := mg 1157 (by decide +kernel) rfl
theorem ml_X11_214 : Cond.methodLink RX11 214 yX11_isWay ∈ gw := mg 1165 (by decide +kernel) rfl
theorem ml_X11_220 : Cond.methodLink RX11 220 yX11_lossOf ∈ gw := mg 1177 (by decide +kernel) rfl
theorem ml_X11_224 : Cond.methodLink RX11 224 yX11_thingsThat ∈ gw := mg 1186 (by decide +kernel) rfl
theorem ml_X11_235 : Cond.methodLink RX11 235 yX11_here ∈ gw := mg 1199 (by decide +kernel) rfl
theorem ml_X11_258 : Cond.methodLink RX11 258 yX11_readWord ∈ gw := mg 1207 (by decide +kernel) rfl
theorem ml_X11_261 : Cond.methodLink RX11 261 yX11_fails ∈ gw := mg 1220 (by decide +kernel) rfl
theorem ml_X11_272 : Cond.methodLink RX11 272 yX11_readNumber ∈ gw := mg 1232 (by decide +kernel) rfl
theorem ml_X11_275 : Cond.methodLink RX11 275 yX11_code ∈ gw := mg 1217 (by decide +kernel) rfl
theorem ml_X11_279 : Cond.methodLink RX11 279 yX11_needs ∈ gw := mg 1238 (by decide +kernel) rfl
theorem ml_X11_283 : Cond.methodLink RX11 283 yX11_readWay ∈ gw := mg 1228 (by decide +kernel) rfl
theorem ml_X11_286 : Cond.methodLink RX11 286 yX11_readNever ∈ gw := mg 1224 (by decide +kernel) rfl
theorem ml_X11_289 : Cond.methodLink RX11 289 yX11_readMost ∈ gw := mg 1242 (by decide +kernel) rfl
theorem ml_X11_292 : Cond.methodLink RX11 292 yX11_readAlways ∈ gw := mg 1246 (by decide +kernel) rfl
theorem ml_X11_295 : Cond.methodLink RX11 295 yX11_readClause ∈ gw := mg 1203 (by decide +kernel) rfl
theorem ml_X11_298 : Cond.methodLink RX11 298 yX11_isAlways ∈ gw := mg 1270 (by decide +kernel) rfl
theorem ml_X11_302 : Cond.methodLink RX11 302 yX11_areAlways ∈ gw := mg 1266 (by decide +kernel) rfl
theorem ml_X11_305 : Cond.methodLink RX11 305 yX11_isWayBarred ∈ gw := mg 1274 (by decide +kernel) rfl
theorem ml_X11_309 : Cond.methodLink RX11 309 yX11_isKindBarred ∈ gw := mg 1278 (by decide +kernel) rfl
theorem ml_X11_312 : Cond.methodLink RX11 312 yX11_areMost ∈ gw := mg 1282 (by decide +kernel) rfl
theorem ml_X11_315 : Cond.methodLink RX11 315 yX11_areThings ∈ gw := mg 1258 (by decide +kernel) rfl
theorem ml_X11_318 : Cond.methodLink RX11 318 yX11_barring ∈ gw := mg 1262 (by decide +kernel) rfl
theorem ml_X11_325 : Cond.methodLink RX11 325 yX11_setOf ∈ gw := mg 1299 (by decide +kernel) rfl
theorem ml_X11_329 : Cond.methodLink RX11 329 yX11_isOneMatter ∈ gw := mg 1304 (by decide +kernel) rfl
theorem ml_X11_332 : Cond.methodLink RX11 332 yX11_isMust ∈ gw := mg 1308 (by decide +kernel) rfl
theorem ml_X11_335 : Cond.methodLink RX11 335 yX11_place ∈ gw := mg 1312 (by decide +kernel) rfl
theorem ml_X11_338 : Cond.methodLink RX11 338 yX11_findGain ∈ gw := mg 1295 (by decide +kernel) rfl
theorem ml_X11_341 : Cond.methodLink RX11 341 yX11_by ∈ gw := mg 1315 (by decide +kernel) rfl
theorem ml_X11_346 : Cond.methodLink RX11 346 yX11_findPlans ∈ gw := mg 1291 (by decide +kernel) rfl
theorem ml_X11_349 : Cond.methodLink RX11 349 yX11_deadOf ∈ gw := mg 1323 (by decide +kernel) rfl
theorem ml_X11_352 : Cond.methodLink RX11 352 yX11_areFor ∈ gw := mg 1327 (by decide +kernel) rfl
theorem ml_X11_355 : Cond.methodLink RX11 355 yX11_isSaying ∈ gw := mg 1335 (by decide +kernel) rfl
theorem ml_X11_358 : Cond.methodLink RX11 358 yX11_cameOf ∈ gw := mg 1347 (by decide +kernel) rfl
theorem ml_X11_362 : Cond.methodLink RX11 362 yX11_choose ∈ gw := mg 1351 (by decide +kernel) rfl
theorem ml_X11_366 : Cond.methodLink RX11 366 yX11_gcd ∈ gw := mg 1354 (by decide +kernel) rfl
theorem cs_J6_bitCount_0f7a4 : CS yJ6_bitCount_0f7a4 cJ6_bitCount_0f7a4 1 (some .int) 1 := ⟨mg 526 (by decide +kernel) rfl, mg 13 (by decide +kernel) rfl, by decide +kernel⟩
theorem cs_X0_canBeSaid : CS yX0_canBeSaid cX0_canBeSaid 6 (some .boolean) 2 := ⟨mg 819 (by decide +kernel) rfl, mg 4 (by decide +kernel) rfl, by decide +kernel⟩
theorem cs_X0_countSaid : CS yX0_countSaid cX0_countSaid 5 none 2 := ⟨mg 728 (by decide +kernel) rfl, mg 4 (by decide +kernel) rfl, by decide +kernel⟩
theorem cs_X0_deadThings : CS yX0_deadThings cX0_deadThings 3 (some .int) 0 := ⟨mg 835 (by decide +kernel) rfl, mg 4 (by decide +kernel) rfl, by decide +kernel⟩
theorem cs_X0_hasSaying : CS yX0_hasSaying cX0_hasSaying 2 (some .boolean) 1 := ⟨mg 827 (by decide +kernel) rfl, mg 4 (by decide +kernel) rfl, by decide +kernel⟩
theorem cs_X0_hasThing : CS yX0_hasThing cX0_hasThing 2 (some .boolean) 1 := ⟨mg 506 (by decide +kernel) rfl, mg 4 (by decide +kernel) rfl, by decide +kernel⟩
theorem cs_X0_hasThings : CS yX0_hasThings cX0_hasThings 2 (some .boolean) 1 := ⟨mg 697 (by decide +kernel) rfl, mg 4 (by decide +kernel) rfl, by decide +kernel⟩
theorem cs_X0_init : CS yX0_init cX0_init 2 none 0 := ⟨mg 91 (by decide +kernel) rfl, mg 4 (by decide +kernel) rfl, by decide +kernel⟩
theorem cs_X0_isTold : CS yX0_isTold cX0_isTold 5 (some .boolean) 1 := ⟨mg 523 (by decide +kernel) rfl, mg 4 (by decide +kernel) rfl, by decide +kernel⟩
theorem cs_X0_lookedAtBy : CS yX0_lookedAtBy cX0_lookedAtBy 4 (some .int) 1 := ⟨mg 843 (by decide +kernel) rfl, mg 4 (by decide +kernel) rfl, by decide +kernel⟩
theorem cs_X0_outcomesBy : CS yX0_outcomesBy cX0_outcomesBy 4 (some .int) 1 := ⟨mg 847 (by decide +kernel) rfl, mg 4 (by decide +kernel) rfl, by decide +kernel⟩
theorem cs_X0_personsWith : CS yX0_personsWith cX0_personsWith 4 (some .int) 1 := ⟨mg 864 (by decide +kernel) rfl, mg 4 (by decide +kernel) rfl, by decide +kernel⟩
theorem cs_X0_sayingsWith : CS yX0_sayingsWith cX0_sayingsWith 4 (some .int) 1 := ⟨mg 510 (by decide +kernel) rfl, mg 4 (by decide +kernel) rfl, by decide +kernel⟩
theorem cs_X0_standing : CS yX0_standing cX0_standing 3 (some .int) 2 := ⟨mg 519 (by decide +kernel) rfl, mg 4 (by decide +kernel) rfl, by decide +kernel⟩
theorem cs_X0_thingsThatAre : CS yX0_thingsThatAre cX0_thingsThatAre 5 (some .int) 2 := ⟨mg 569 (by decide +kernel) rfl, mg 4 (by decide +kernel) rfl, by decide +kernel⟩
theorem cs_X10_barNow : CS yX10_barNow cX10_barNow 4 (some .int) 3 := ⟨mg 701 (by decide +kernel) rfl, mg 1 (by decide +kernel) rfl, by decide +kernel⟩
theorem cs_X10_barred : CS yX10_barred cX10_barred 4 (some .int) 3 := ⟨mg 693 (by decide +kernel) rfl, mg 1 (by decide +kernel) rfl, by decide +kernel⟩
theorem cs_X10_begins : CS yX10_begins cX10_begins 3 (some .int) 2 := ⟨mg 424 (by decide +kernel) rfl, mg 1 (by decide +kernel) rfl, by decide +kernel⟩
theorem cs_X10_came : CS yX10_came cX10_came 4 (some .int) 2 := ⟨mg 823 (by decide +kernel) rfl, mg 1 (by decide +kernel) rfl, by decide +kernel⟩
theorem cs_X10_chance : CS yX10_chance cX10_chance 11 (some .int) 5 := ⟨mg 850 (by decide +kernel) rfl, mg 1 (by decide +kernel) rfl, by decide +kernel⟩
theorem cs_X10_choose : CS yX10_choose cX10_choose 5 (some .long) 2 := ⟨mg 853 (by decide +kernel) rfl, mg 1 (by decide +kernel) rfl, by decide +kernel⟩
theorem cs_X10_commonPart : CS yX10_commonPart cX10_commonPart 11 (some .long) 2 := ⟨mg 856 (by decide +kernel) rfl, mg 1 (by decide +kernel) rfl, by decide +kernel⟩
theorem cs_X10_contains : CS yX10_contains cX10_contains 2 (some .boolean) 2 := ⟨mg 489 (by decide +kernel) rfl, mg 1 (by decide +kernel) rfl, by decide +kernel⟩
theorem cs_X10_cost : CS yX10_cost cX10_cost 4 (some .int) 3 := ⟨mg 545 (by decide +kernel) rfl, mg 1 (by decide +kernel) rfl, by decide +kernel⟩
theorem cs_X10_count : CS yX10_count cX10_count 2 (some .int) 1 := ⟨mg 565 (by decide +kernel) rfl, mg 1 (by decide +kernel) rfl, by decide +kernel⟩
theorem cs_X10_dead : CS yX10_dead cX10_dead 2 (some .int) 1 := ⟨mg 502 (by decide +kernel) rfl, mg 1 (by decide +kernel) rfl, by decide +kernel⟩
theorem cs_X10_exchange : CS yX10_exchange cX10_exchange 4 (some .int) 3 := ⟨mg 416 (by decide +kernel) rfl, mg 1 (by decide +kernel) rfl, by decide +kernel⟩
theorem cs_X10_fault : CS yX10_fault cX10_fault 1 (some .int) 0 := ⟨mg 689 (by decide +kernel) rfl, mg 1 (by decide +kernel) rfl, by decide +kernel⟩
theorem cs_X10_feed : CS yX10_feed cX10_feed 5 (some .int) 2 := ⟨mg 574 (by decide +kernel) rfl, mg 1 (by decide +kernel) rfl, by decide +kernel⟩
theorem cs_X10_fits : CS yX10_fits cX10_fits 3 (some .int) 2 := ⟨mg 443 (by decide +kernel) rfl, mg 1 (by decide +kernel) rfl, by decide +kernel⟩
theorem cs_X10_go : CS yX10_go cX10_go 2 (some .int) 1 := ⟨mg 439 (by decide +kernel) rfl, mg 1 (by decide +kernel) rfl, by decide +kernel⟩
theorem cs_X10_init : CS yX10_init cX10_init 2 none 0 := ⟨mg 23 (by decide +kernel) rfl, mg 1 (by decide +kernel) rfl, by decide +kernel⟩
theorem cs_X10_isAhead : CS yX10_isAhead cX10_isAhead 1 (some .boolean) 1 := ⟨mg 469 (by decide +kernel) rfl, mg 1 (by decide +kernel) rfl, by decide +kernel⟩
theorem cs_X10_isOften : CS yX10_isOften cX10_isOften 1 (some .boolean) 1 := ⟨mg 413 (by decide +kernel) rfl, mg 1 (by decide +kernel) rfl, by decide +kernel⟩
theorem cs_X10_isPerson : CS yX10_isPerson cX10_isPerson 1 (some .boolean) 1 := ⟨mg 435 (by decide +kernel) rfl, mg 1 (by decide +kernel) rfl, by decide +kernel⟩
theorem cs_X10_isState : CS yX10_isState cX10_isState 1 (some .boolean) 1 := ⟨mg 407 (by decide +kernel) rfl, mg 1 (by decide +kernel) rfl, by decide +kernel⟩
theorem cs_X10_isWay : CS yX10_isWay cX10_isWay 1 (some .boolean) 1 := ⟨mg 548 (by decide +kernel) rfl, mg 1 (by decide +kernel) rfl, by decide +kernel⟩
theorem cs_X10_learnt : CS yX10_learnt cX10_learnt 8 (some .int) 3 := ⟨mg 839 (by decide +kernel) rfl, mg 1 (by decide +kernel) rfl, by decide +kernel⟩
theorem cs_X10_loss : CS yX10_loss cX10_loss 4 (some .int) 3 := ⟨mg 556 (by decide +kernel) rfl, mg 1 (by decide +kernel) rfl, by decide +kernel⟩
theorem cs_X10_move : CS yX10_move cX10_move 4 (some .int) 3 := ⟨mg 404 (by decide +kernel) rfl, mg 1 (by decide +kernel) rfl, by decide +kernel⟩
theorem cs_X10_odds : CS yX10_odds cX10_odds 4 (some .int) 3 := ⟨mg 466 (by decide +kernel) rfl, mg 1 (by decide +kernel) rfl, by decide +kernel⟩
theorem cs_X10_plan : CS yX10_plan cX10_plan 5 (some .int) 4 := ⟨mg 748 (by decide +kernel) rfl, mg 1 (by decide +kernel) rfl, by decide +kernel⟩
theorem cs_X10_read : CS yX10_read cX10_read 3 (some .int) 1 := ⟨mg 582 (by decide +kernel) rfl, mg 1 (by decide +kernel) rfl, by decide +kernel⟩
theorem cs_X10_say : CS yX10_say cX10_say 5 (some .int) 3 := ⟨mg 815 (by decide +kernel) rfl, mg 1 (by decide +kernel) rfl, by decide +kernel⟩
theorem cs_X10_saying : CS yX10_saying cX10_saying 4 (some .int) 2 := ⟨mg 831 (by decide +kernel) rfl, mg 1 (by decide +kernel) rfl, by decide +kernel⟩
theorem cs_X10_seam : CS yX10_seam cX10_seam 3 (some .int) 2 := ⟨mg 482 (by decide +kernel) rfl, mg 1 (by decide +kernel) rfl, by decide +kernel⟩
theorem cs_X10_seams : CS yX10_seams cX10_seams 3 (some .int) 1 := ⟨mg 428 (by decide +kernel) rfl, mg 1 (by decide +kernel) rfl, by decide +kernel⟩
theorem cs_X10_seen : CS yX10_seen cX10_seen 3 (some .int) 2 := ⟨mg 552 (by decide +kernel) rfl, mg 1 (by decide +kernel) rfl, by decide +kernel⟩
theorem cs_X10_shows : CS yX10_shows cX10_shows 4 (some .int) 3 := ⟨mg 420 (by decide +kernel) rfl, mg 1 (by decide +kernel) rfl, by decide +kernel⟩
theorem cs_X10_sign : CS yX10_sign cX10_sign 3 (some .int) 2 := ⟨mg 432 (by decide +kernel) rfl, mg 1 (by decide +kernel) rfl, by decide +kernel⟩
theorem cs_X10_thing : CS yX10_thing cX10_thing 9 (some .int) 7 := ⟨mg 498 (by decide +kernel) rfl, mg 1 (by decide +kernel) rfl, by decide +kernel⟩
theorem cs_X10_told : CS yX10_told cX10_told 4 (some .int) 2 := ⟨mg 515 (by decide +kernel) rfl, mg 1 (by decide +kernel) rfl, by decide +kernel⟩
theorem cs_X10_tried : CS yX10_tried cX10_tried 5 (some .int) 4 := ⟨mg 869 (by decide +kernel) rfl, mg 1 (by decide +kernel) rfl, by decide +kernel⟩
theorem cs_X10_until : CS yX10_until cX10_until 4 (some .int) 2 := ⟨mg 493 (by decide +kernel) rfl, mg 1 (by decide +kernel) rfl, by decide +kernel⟩
theorem cs_X10_value : CS yX10_value cX10_value 4 (some .int) 3 := ⟨mg 533 (by decide +kernel) rfl, mg 1 (by decide +kernel) rfl, by decide +kernel⟩
theorem cs_X10_who : CS yX10_who cX10_who 7 (some .int) 2 := ⟨mg 860 (by decide +kernel) rfl, mg 1 (by decide +kernel) rfl, by decide +kernel⟩
theorem cs_X10_within : CS yX10_within cX10_within 3 (some .boolean) 3 := ⟨mg 410 (by decide +kernel) rfl, mg 1 (by decide +kernel) rfl, by decide +kernel⟩
theorem cs_X11_areAlways : CS yX11_areAlways cX11_areAlways 5 (some .boolean) 2 := ⟨mg 1269 (by decide +kernel) rfl, mg 12 (by decide +kernel) rfl, by decide +kernel⟩
theorem cs_X11_areFor : CS yX11_areFor cX11_areFor 5 (some .boolean) 2 := ⟨mg 1330 (by decide +kernel) rfl, mg 12 (by decide +kernel) rfl, by decide +kernel⟩
theorem cs_X11_areMost : CS yX11_areMost cX11_areMost 9 (some .boolean) 3 := ⟨mg 1285 (by decide +kernel) rfl, mg 12 (by decide +kernel) rfl, by decide +kernel⟩
theorem cs_X11_areThings : CS yX11_areThings cX11_areThings 2 (some .boolean) 1 := ⟨mg 1261 (by decide +kernel) rfl, mg 12 (by decide +kernel) rfl, by decide +kernel⟩
theorem cs_X11_barred : CS yX11_barred cX11_barred 4 (some .int) 3 := ⟨mg 1257 (by decide +kernel) rfl, mg 12 (by decide +kernel) rfl, by decide +kernel⟩
theorem cs_X11_barring : CS yX11_barring cX11_barring 7 (some .int) 5 := ⟨mg 1265 (by decide +kernel) rfl, mg 12 (by decide +kernel) rfl, by decide +kernel⟩
theorem cs_X11_begins : CS yX11_begins cX11_begins 4 (some .int) 2 := ⟨mg 1067 (by decide +kernel) rfl, mg 12 (by decide +kernel) rfl, by decide +kernel⟩
theorem cs_X11_by : CS yX11_by cX11_by 8 (some .int) 5 := ⟨mg 1318 (by decide +kernel) rfl, mg 12 (by decide +kernel) rfl, by decide +kernel⟩
theorem cs_X11_came : CS yX11_came cX11_came 3 (some .int) 2 := ⟨mg 1334 (by decide +kernel) rfl, mg 12 (by decide +kernel) rfl, by decide +kernel⟩
theorem cs_X11_cameOf : CS yX11_cameOf cX11_cameOf 5 (some .int) 2 := ⟨mg 1350 (by decide +kernel) rfl, mg 12 (by decide +kernel) rfl, by decide +kernel⟩
theorem cs_X11_choose : CS yX11_choose cX11_choose 5 (some .long) 2 := ⟨mg 1353 (by decide +kernel) rfl, mg 12 (by decide +kernel) rfl, by decide +kernel⟩
theorem cs_X11_code : CS yX11_code cX11_code 8 (some .long) 6 := ⟨mg 1219 (by decide +kernel) rfl, mg 12 (by decide +kernel) rfl, by decide +kernel⟩
theorem cs_X11_cost : CS yX11_cost cX11_cost 5 (some .int) 3 := ⟨mg 1164 (by decide +kernel) rfl, mg 12 (by decide +kernel) rfl, by decide +kernel⟩
theorem cs_X11_count : CS yX11_count cX11_count 2 (some .int) 1 := ⟨mg 1185 (by decide +kernel) rfl, mg 12 (by decide +kernel) rfl, by decide +kernel⟩
theorem cs_X11_dead : CS yX11_dead cX11_dead 2 (some .int) 1 := ⟨mg 1132 (by decide +kernel) rfl, mg 12 (by decide +kernel) rfl, by decide +kernel⟩
theorem cs_X11_deadOf : CS yX11_deadOf cX11_deadOf 4 (some .int) 1 := ⟨mg 1326 (by decide +kernel) rfl, mg 12 (by decide +kernel) rfl, by decide +kernel⟩
theorem cs_X11_fails : CS yX11_fails cX11_fails 3 (some .int) 2 := ⟨mg 1223 (by decide +kernel) rfl, mg 12 (by decide +kernel) rfl, by decide +kernel⟩
theorem cs_X11_fault : CS yX11_fault cX11_fault 1 (some .int) 0 := ⟨mg 1253 (by decide +kernel) rfl, mg 12 (by decide +kernel) rfl, by decide +kernel⟩
theorem cs_X11_feed : CS yX11_feed cX11_feed 5 (some .int) 2 := ⟨mg 1193 (by decide +kernel) rfl, mg 12 (by decide +kernel) rfl, by decide +kernel⟩
theorem cs_X11_findGain : CS yX11_findGain cX11_findGain 10 none 3 := ⟨mg 1298 (by decide +kernel) rfl, mg 12 (by decide +kernel) rfl, by decide +kernel⟩
theorem cs_X11_findOdds : CS yX11_findOdds cX11_findOdds 10 none 3 := ⟨mg 1106 (by decide +kernel) rfl, mg 12 (by decide +kernel) rfl, by decide +kernel⟩
theorem cs_X11_findPlans : CS yX11_findPlans cX11_findPlans 10 none 2 := ⟨mg 1294 (by decide +kernel) rfl, mg 12 (by decide +kernel) rfl, by decide +kernel⟩
theorem cs_X11_findRows : CS yX11_findRows cX11_findRows 8 none 2 := ⟨mg 1093 (by decide +kernel) rfl, mg 12 (by decide +kernel) rfl, by decide +kernel⟩
theorem cs_X11_fits : CS yX11_fits cX11_fits 3 (some .int) 2 := ⟨mg 1089 (by decide +kernel) rfl, mg 12 (by decide +kernel) rfl, by decide +kernel⟩
theorem cs_X11_gcd : CS yX11_gcd cX11_gcd 10 (some .long) 2 := ⟨mg 1356 (by decide +kernel) rfl, mg 12 (by decide +kernel) rfl, by decide +kernel⟩
theorem cs_X11_go : CS yX11_go cX11_go 2 (some .int) 1 := ⟨mg 1084 (by decide +kernel) rfl, mg 12 (by decide +kernel) rfl, by decide +kernel⟩
theorem cs_X11_here : CS yX11_here cX11_here 1 (some .int) 0 := ⟨mg 1202 (by decide +kernel) rfl, mg 12 (by decide +kernel) rfl, by decide +kernel⟩
theorem cs_X11_in : CS yX11_in cX11_in 6 (some .boolean) 3 := ⟨mg 1058 (by decide +kernel) rfl, mg 12 (by decide +kernel) rfl, by decide +kernel⟩
theorem cs_X11_init : CS yX11_init cX11_init 2 none 0 := ⟨mg 891 (by decide +kernel) rfl, mg 12 (by decide +kernel) rfl, by decide +kernel⟩
theorem cs_X11_isAlways : CS yX11_isAlways cX11_isAlways 5 (some .boolean) 2 := ⟨mg 1273 (by decide +kernel) rfl, mg 12 (by decide +kernel) rfl, by decide +kernel⟩
theorem cs_X11_isKindBarred : CS yX11_isKindBarred cX11_isKindBarred 8 (some .boolean) 3 := ⟨mg 1281 (by decide +kernel) rfl, mg 12 (by decide +kernel) rfl, by decide +kernel⟩
theorem cs_X11_isMust : CS yX11_isMust cX11_isMust 2 (some .boolean) 1 := ⟨mg 1311 (by decide +kernel) rfl, mg 12 (by decide +kernel) rfl, by decide +kernel⟩
theorem cs_X11_isOneMatter : CS yX11_isOneMatter cX11_isOneMatter 5 (some .boolean) 1 := ⟨mg 1307 (by decide +kernel) rfl, mg 12 (by decide +kernel) rfl, by decide +kernel⟩
theorem cs_X11_isPerson : CS yX11_isPerson cX11_isPerson 1 (some .boolean) 1 := ⟨mg 1079 (by decide +kernel) rfl, mg 12 (by decide +kernel) rfl, by decide +kernel⟩
theorem cs_X11_isSaying : CS yX11_isSaying cX11_isSaying 2 (some .boolean) 1 := ⟨mg 1338 (by decide +kernel) rfl, mg 12 (by decide +kernel) rfl, by decide +kernel⟩
theorem cs_X11_isState : CS yX11_isState cX11_isState 1 (some .boolean) 1 := ⟨mg 1054 (by decide +kernel) rfl, mg 12 (by decide +kernel) rfl, by decide +kernel⟩
theorem cs_X11_isThing : CS yX11_isThing cX11_isThing 2 (some .boolean) 1 := ⟨mg 1136 (by decide +kernel) rfl, mg 12 (by decide +kernel) rfl, by decide +kernel⟩
theorem cs_X11_isTold : CS yX11_isTold cX11_isTold 6 (some .boolean) 1 := ⟨mg 1152 (by decide +kernel) rfl, mg 12 (by decide +kernel) rfl, by decide +kernel⟩
theorem cs_X11_isWay : CS yX11_isWay cX11_isWay 1 (some .boolean) 1 := ⟨mg 1167 (by decide +kernel) rfl, mg 12 (by decide +kernel) rfl, by decide +kernel⟩
theorem cs_X11_isWayBarred : CS yX11_isWayBarred cX11_isWayBarred 7 (some .boolean) 3 := ⟨mg 1277 (by decide +kernel) rfl, mg 12 (by decide +kernel) rfl, by decide +kernel⟩
theorem cs_X11_learnt : CS yX11_learnt cX11_learnt 14 (some .int) 3 := ⟨mg 1346 (by decide +kernel) rfl, mg 12 (by decide +kernel) rfl, by decide +kernel⟩
theorem cs_X11_loss : CS yX11_loss cX11_loss 4 (some .int) 3 := ⟨mg 1176 (by decide +kernel) rfl, mg 12 (by decide +kernel) rfl, by decide +kernel⟩
theorem cs_X11_lossOf : CS yX11_lossOf cX11_lossOf 7 (some .int) 4 := ⟨mg 1180 (by decide +kernel) rfl, mg 12 (by decide +kernel) rfl, by decide +kernel⟩
theorem cs_X11_move : CS yX11_move cX11_move 5 (some .int) 3 := ⟨mg 1051 (by decide +kernel) rfl, mg 12 (by decide +kernel) rfl, by decide +kernel⟩
theorem cs_X11_needs : CS yX11_needs cX11_needs 3 (some .int) 1 := ⟨mg 1241 (by decide +kernel) rfl, mg 12 (by decide +kernel) rfl, by decide +kernel⟩
theorem cs_X11_odds : CS yX11_odds cX11_odds 4 (some .int) 3 := ⟨mg 1101 (by decide +kernel) rfl, mg 12 (by decide +kernel) rfl, by decide +kernel⟩
theorem cs_X11_place : CS yX11_place cX11_place 3 (some .int) 3 := ⟨mg 1314 (by decide +kernel) rfl, mg 12 (by decide +kernel) rfl, by decide +kernel⟩
theorem cs_X11_plan : CS yX11_plan cX11_plan 11 (some .int) 4 := ⟨mg 1289 (by decide +kernel) rfl, mg 12 (by decide +kernel) rfl, by decide +kernel⟩
theorem cs_X11_read : CS yX11_read cX11_read 5 (some .int) 1 := ⟨mg 1198 (by decide +kernel) rfl, mg 12 (by decide +kernel) rfl, by decide +kernel⟩
theorem cs_X11_readAlways : CS yX11_readAlways cX11_readAlways 3 (some .int) 1 := ⟨mg 1249 (by decide +kernel) rfl, mg 12 (by decide +kernel) rfl, by decide +kernel⟩
theorem cs_X11_readClause : CS yX11_readClause cX11_readClause 4 (some .int) 1 := ⟨mg 1206 (by decide +kernel) rfl, mg 12 (by decide +kernel) rfl, by decide +kernel⟩
theorem cs_X11_readMost : CS yX11_readMost cX11_readMost 3 (some .int) 1 := ⟨mg 1245 (by decide +kernel) rfl, mg 12 (by decide +kernel) rfl, by decide +kernel⟩
theorem cs_X11_readNever : CS yX11_readNever cX11_readNever 4 (some .int) 1 := ⟨mg 1227 (by decide +kernel) rfl, mg 12 (by decide +kernel) rfl, by decide +kernel⟩
theorem cs_X11_readNumber : CS yX11_readNumber cX11_readNumber 5 (some .int) 2 := ⟨mg 1235 (by decide +kernel) rfl, mg 12 (by decide +kernel) rfl, by decide +kernel⟩
theorem cs_X11_readWay : CS yX11_readWay cX11_readWay 3 (some .int) 1 := ⟨mg 1231 (by decide +kernel) rfl, mg 12 (by decide +kernel) rfl, by decide +kernel⟩
theorem cs_X11_readWord : CS yX11_readWord cX11_readWord 2 none 0 := ⟨mg 1210 (by decide +kernel) rfl, mg 12 (by decide +kernel) rfl, by decide +kernel⟩
theorem cs_X11_say : CS yX11_say cX11_say 4 (some .int) 3 := ⟨mg 1322 (by decide +kernel) rfl, mg 12 (by decide +kernel) rfl, by decide +kernel⟩
theorem cs_X11_saying : CS yX11_saying cX11_saying 3 (some .int) 2 := ⟨mg 1342 (by decide +kernel) rfl, mg 12 (by decide +kernel) rfl, by decide +kernel⟩
theorem cs_X11_sayingsOf : CS yX11_sayingsOf cX11_sayingsOf 4 (some .int) 1 := ⟨mg 1140 (by decide +kernel) rfl, mg 12 (by decide +kernel) rfl, by decide +kernel⟩
theorem cs_X11_seam : CS yX11_seam cX11_seam 3 (some .int) 2 := ⟨mg 1111 (by decide +kernel) rfl, mg 12 (by decide +kernel) rfl, by decide +kernel⟩
theorem cs_X11_seamOdds : CS yX11_seamOdds cX11_seamOdds 6 (some .int) 3 := ⟨mg 1115 (by decide +kernel) rfl, mg 12 (by decide +kernel) rfl, by decide +kernel⟩
theorem cs_X11_seams : CS yX11_seams cX11_seams 3 (some .int) 1 := ⟨mg 1071 (by decide +kernel) rfl, mg 12 (by decide +kernel) rfl, by decide +kernel⟩
theorem cs_X11_seen : CS yX11_seen cX11_seen 4 (some .int) 2 := ⟨mg 1171 (by decide +kernel) rfl, mg 12 (by decide +kernel) rfl, by decide +kernel⟩
theorem cs_X11_setOf : CS yX11_setOf cX11_setOf 4 (some .int) 1 := ⟨mg 1302 (by decide +kernel) rfl, mg 12 (by decide +kernel) rfl, by decide +kernel⟩
theorem cs_X11_shows : CS yX11_shows cX11_shows 5 (some .int) 3 := ⟨mg 1063 (by decide +kernel) rfl, mg 12 (by decide +kernel) rfl, by decide +kernel⟩
theorem cs_X11_showsAt : CS yX11_showsAt cX11_showsAt 5 (some .int) 3 := ⟨mg 1097 (by decide +kernel) rfl, mg 12 (by decide +kernel) rfl, by decide +kernel⟩
theorem cs_X11_sign : CS yX11_sign cX11_sign 3 (some .int) 2 := ⟨mg 1076 (by decide +kernel) rfl, mg 12 (by decide +kernel) rfl, by decide +kernel⟩
theorem cs_X11_stateOf : CS yX11_stateOf cX11_stateOf 2 (some .int) 1 := ⟨mg 1148 (by decide +kernel) rfl, mg 12 (by decide +kernel) rfl, by decide +kernel⟩
theorem cs_X11_thing : CS yX11_thing cX11_thing 8 (some .int) 7 := ⟨mg 1123 (by decide +kernel) rfl, mg 12 (by decide +kernel) rfl, by decide +kernel⟩
theorem cs_X11_thingsThat : CS yX11_thingsThat cX11_thingsThat 4 (some .int) 1 := ⟨mg 1189 (by decide +kernel) rfl, mg 12 (by decide +kernel) rfl, by decide +kernel⟩
theorem cs_X11_told : CS yX11_told cX11_told 3 (some .int) 2 := ⟨mg 1144 (by decide +kernel) rfl, mg 12 (by decide +kernel) rfl, by decide +kernel⟩
theorem cs_X11_tried : CS yX11_tried cX11_tried 15 (some .int) 4 := ⟨mg 1364 (by decide +kernel) rfl, mg 12 (by decide +kernel) rfl, by decide +kernel⟩
theorem cs_X11_until : CS yX11_until cX11_until 4 (some .int) 2 := ⟨mg 1119 (by decide +kernel) rfl, mg 12 (by decide +kernel) rfl, by decide +kernel⟩
theorem cs_X11_value : CS yX11_value cX11_value 4 (some .int) 3 := ⟨mg 1156 (by decide +kernel) rfl, mg 12 (by decide +kernel) rfl, by decide +kernel⟩
theorem cs_X11_valueOf : CS yX11_valueOf cX11_valueOf 6 (some .int) 3 := ⟨mg 1160 (by decide +kernel) rfl, mg 12 (by decide +kernel) rfl, by decide +kernel⟩
theorem cs_X11_who : CS yX11_who cX11_who 9 (some .int) 2 := ⟨mg 1360 (by decide +kernel) rfl, mg 12 (by decide +kernel) rfl, by decide +kernel⟩
theorem cs_X1_bar : CS yX1_bar cX1_bar 5 (some .int) 3 := ⟨mg 740 (by decide +kernel) rfl, mg 8 (by decide +kernel) rfl, by decide +kernel⟩
theorem cs_X1_init : CS yX1_init cX1_init 1 none 0 := ⟨mg 228 (by decide +kernel) rfl, mg 8 (by decide +kernel) rfl, by decide +kernel⟩
theorem cs_X1_isAlways : CS yX1_isAlways cX1_isAlways 2 (some .boolean) 1 := ⟨mg 744 (by decide +kernel) rfl, mg 8 (by decide +kernel) rfl, by decide +kernel⟩
theorem cs_X1_open : CS yX1_open cX1_open 8 none 4 := ⟨mg 705 (by decide +kernel) rfl, mg 8 (by decide +kernel) rfl, by decide +kernel⟩
theorem cs_X2_append : CS yX2_append cX2_append 2 none 1 := ⟨mg 578 (by decide +kernel) rfl, mg 7 (by decide +kernel) rfl, by decide +kernel⟩
theorem cs_X2_finish : CS yX2_finish cX2_finish 6 none 5 := ⟨mg 670 (by decide +kernel) rfl, mg 7 (by decide +kernel) rfl, by decide +kernel⟩
theorem cs_X2_init : CS yX2_init cX2_init 1 none 0 := ⟨mg 201 (by decide +kernel) rfl, mg 7 (by decide +kernel) rfl, by decide +kernel⟩
theorem cs_X2_needWord : CS yX2_needWord cX2_needWord 2 none 1 := ⟨mg 679 (by decide +kernel) rfl, mg 7 (by decide +kernel) rfl, by decide +kernel⟩
theorem cs_X2_note : CS yX2_note cX2_note 3 none 2 := ⟨mg 655 (by decide +kernel) rfl, mg 7 (by decide +kernel) rfl, by decide +kernel⟩
theorem cs_X2_parse : CS yX2_parse cX2_parse 3 none 1 := ⟨mg 586 (by decide +kernel) rfl, mg 7 (by decide +kernel) rfl, by decide +kernel⟩
theorem cs_X2_readClause : CS yX2_readClause cX2_readClause 5 none 1 := ⟨mg 594 (by decide +kernel) rfl, mg 7 (by decide +kernel) rfl, by decide +kernel⟩
theorem cs_X2_readNever : CS yX2_readNever cX2_readNever 5 none 1 := ⟨mg 659 (by decide +kernel) rfl, mg 7 (by decide +kernel) rfl, by decide +kernel⟩
theorem cs_X2_refuseNinth : CS yX2_refuseNinth cX2_refuseNinth 3 none 2 := ⟨mg 651 (by decide +kernel) rfl, mg 7 (by decide +kernel) rfl, by decide +kernel⟩
theorem cs_X2_skipBlanks : CS yX2_skipBlanks cX2_skipBlanks 1 none 0 := ⟨mg 590 (by decide +kernel) rfl, mg 7 (by decide +kernel) rfl, by decide +kernel⟩
theorem cs_X2_takeNumber : CS yX2_takeNumber cX2_takeNumber 5 (some .int) 2 := ⟨mg 664 (by decide +kernel) rfl, mg 7 (by decide +kernel) rfl, by decide +kernel⟩
theorem cs_X2_takeWord : CS yX2_takeWord cX2_takeWord 4 (some .boolean) 1 := ⟨mg 599 (by decide +kernel) rfl, mg 7 (by decide +kernel) rfl, by decide +kernel⟩
theorem cs_X3_add : CS yX3_add cX3_add 5 none 4 := ⟨mg 674 (by decide +kernel) rfl, mg 11 (by decide +kernel) rfl, by decide +kernel⟩
theorem cs_X3_alwaysFrom : CS yX3_alwaysFrom cX3_alwaysFrom 3 (some .int) 0 := ⟨mg 709 (by decide +kernel) rfl, mg 11 (by decide +kernel) rfl, by decide +kernel⟩
theorem cs_X3_barredKinds : CS yX3_barredKinds cX3_barredKinds 4 (some .int) 1 := ⟨mg 713 (by decide +kernel) rfl, mg 11 (by decide +kernel) rfl, by decide +kernel⟩
theorem cs_X3_barredWays : CS yX3_barredWays cX3_barredWays 4 (some .int) 1 := ⟨mg 717 (by decide +kernel) rfl, mg 11 (by decide +kernel) rfl, by decide +kernel⟩
theorem cs_X3_countsSayings : CS yX3_countsSayings cX3_countsSayings 2 (some .boolean) 0 := ⟨mg 759 (by decide +kernel) rfl, mg 11 (by decide +kernel) rfl, by decide +kernel⟩
theorem cs_X3_init : CS yX3_init cX3_init 1 none 0 := ⟨mg 347 (by decide +kernel) rfl, mg 11 (by decide +kernel) rfl, by decide +kernel⟩
theorem cs_X3_isLikely : CS yX3_isLikely cX3_isLikely 4 (some .boolean) 2 := ⟨mg 721 (by decide +kernel) rfl, mg 11 (by decide +kernel) rfl, by decide +kernel⟩
theorem cs_X3_mostBars : CS yX3_mostBars cX3_mostBars 4 (some .boolean) 2 := ⟨mg 732 (by decide +kernel) rfl, mg 11 (by decide +kernel) rfl, by decide +kernel⟩
theorem cs_X3_saidWithin : CS yX3_saidWithin cX3_saidWithin 5 (some .int) 3 := ⟨mg 735 (by decide +kernel) rfl, mg 11 (by decide +kernel) rfl, by decide +kernel⟩
theorem cs_X4_decide : CS yX4_decide cX4_decide 13 (some .int) 4 := ⟨mg 797 (by decide +kernel) rfl, mg 9 (by decide +kernel) rfl, by decide +kernel⟩
theorem cs_X4_init : CS yX4_init cX4_init 4 none 3 := ⟨mg 244 (by decide +kernel) rfl, mg 9 (by decide +kernel) rfl, by decide +kernel⟩
theorem cs_X4_make : CS yX4_make cX4_make 11 none 4 := ⟨mg 752 (by decide +kernel) rfl, mg 9 (by decide +kernel) rfl, by decide +kernel⟩
theorem cs_X4_mostBarsAt : CS yX4_mostBarsAt cX4_mostBarsAt 7 (some .boolean) 5 := ⟨mg 792 (by decide +kernel) rfl, mg 9 (by decide +kernel) rfl, by decide +kernel⟩
theorem cs_X4_nodeBehind : CS yX4_nodeBehind cX4_nodeBehind 3 (some .int) 2 := ⟨mg 801 (by decide +kernel) rfl, mg 9 (by decide +kernel) rfl, by decide +kernel⟩
theorem cs_X4_pick : CS yX4_pick cX4_pick 7 none 2 := ⟨mg 763 (by decide +kernel) rfl, mg 9 (by decide +kernel) rfl, by decide +kernel⟩
theorem cs_X4_price : CS yX4_price cX4_price 7 none 3 := ⟨mg 770 (by decide +kernel) rfl, mg 9 (by decide +kernel) rfl, by decide +kernel⟩
theorem cs_X4_priceSet : CS yX4_priceSet cX4_priceSet 5 none 2 := ⟨mg 786 (by decide +kernel) rfl, mg 9 (by decide +kernel) rfl, by decide +kernel⟩
theorem cs_X4_tell : CS yX4_tell cX4_tell 8 none 3 := ⟨mg 811 (by decide +kernel) rfl, mg 9 (by decide +kernel) rfl, by decide +kernel⟩
theorem cs_X4_total : CS yX4_total cX4_total 3 (some .int) 2 := ⟨mg 805 (by decide +kernel) rfl, mg 9 (by decide +kernel) rfl, by decide +kernel⟩
theorem cs_X5_init : CS yX5_init cX5_init 1 none 0 := ⟨mg 151 (by decide +kernel) rfl, mg 6 (by decide +kernel) rfl, by decide +kernel⟩
theorem cs_X6_init : CS yX6_init cX6_init 1 none 0 := ⟨mg 100 (by decide +kernel) rfl, mg 5 (by decide +kernel) rfl, by decide +kernel⟩
theorem cs_X6_isMust : CS yX6_isMust cX6_isMust 1 (some .boolean) 0 := ⟨mg 781 (by decide +kernel) rfl, mg 5 (by decide +kernel) rfl, by decide +kernel⟩
theorem cs_X6_planValueIn : CS yX6_planValueIn cX6_planValueIn 4 (some .int) 2 := ⟨mg 777 (by decide +kernel) rfl, mg 5 (by decide +kernel) rfl, by decide +kernel⟩
theorem cs_X6_valueIn : CS yX6_valueIn cX6_valueIn 4 (some .int) 2 := ⟨mg 537 (by decide +kernel) rfl, mg 5 (by decide +kernel) rfl, by decide +kernel⟩
theorem cs_X7_init : CS yX7_init cX7_init 4 none 3 := ⟨mg 313 (by decide +kernel) rfl, mg 10 (by decide +kernel) rfl, by decide +kernel⟩
theorem cs_X7_isLeft : CS yX7_isLeft cX7_isLeft 3 (some .boolean) 2 := ⟨mg 884 (by decide +kernel) rfl, mg 10 (by decide +kernel) rfl, by decide +kernel⟩
theorem cs_X7_run : CS yX7_run cX7_run 7 none 4 := ⟨mg 873 (by decide +kernel) rfl, mg 10 (by decide +kernel) rfl, by decide +kernel⟩
theorem cs_X7_sayIn : CS yX7_sayIn cX7_sayIn 7 none 3 := ⟨mg 879 (by decide +kernel) rfl, mg 10 (by decide +kernel) rfl, by decide +kernel⟩
theorem cs_X8_init : CS yX8_init cX8_init 3 none 0 := ⟨mg 74 (by decide +kernel) rfl, mg 3 (by decide +kernel) rfl, by decide +kernel⟩
theorem cs_X8_lossBy : CS yX8_lossBy cX8_lossBy 5 (some .int) 2 := ⟨mg 560 (by decide +kernel) rfl, mg 3 (by decide +kernel) rfl, by decide +kernel⟩
theorem cs_X9_allWeights : CS yX9_allWeights cX9_allWeights 1 (some .long) 0 := ⟨mg 462 (by decide +kernel) rfl, mg 2 (by decide +kernel) rfl, by decide +kernel⟩
theorem cs_X9_factor : CS yX9_factor cX9_factor 2 (some .long) 2 := ⟨mg 454 (by decide +kernel) rfl, mg 2 (by decide +kernel) rfl, by decide +kernel⟩
theorem cs_X9_fittingRows : CS yX9_fittingRows cX9_fittingRows 3 (some .int) 2 := ⟨mg 447 (by decide +kernel) rfl, mg 2 (by decide +kernel) rfl, by decide +kernel⟩
theorem cs_X9_init : CS yX9_init cX9_init 3 none 0 := ⟨mg 31 (by decide +kernel) rfl, mg 2 (by decide +kernel) rfl, by decide +kernel⟩
theorem cs_X9_lookAhead : CS yX9_lookAhead cX9_lookAhead 7 none 3 := ⟨mg 473 (by decide +kernel) rfl, mg 2 (by decide +kernel) rfl, by decide +kernel⟩
theorem cs_X9_moveOn : CS yX9_moveOn cX9_moveOn 6 none 2 := ⟨mg 478 (by decide +kernel) rfl, mg 2 (by decide +kernel) rfl, by decide +kernel⟩
theorem cs_X9_seamOdds : CS yX9_seamOdds cX9_seamOdds 4 (some .int) 1 := ⟨mg 486 (by decide +kernel) rfl, mg 2 (by decide +kernel) rfl, by decide +kernel⟩
theorem cs_X9_signFactor : CS yX9_signFactor cX9_signFactor 4 (some .long) 3 := ⟨mg 458 (by decide +kernel) rfl, mg 2 (by decide +kernel) rfl, by decide +kernel⟩
theorem cs_X9_weigh : CS yX9_weigh cX9_weigh 10 none 3 := ⟨mg 451 (by decide +kernel) rfl, mg 2 (by decide +kernel) rfl, by decide +kernel⟩
theorem st_J6_bitCount_0f7a4 : Cond.static yJ6_bitCount_0f7a4 ∈ gw := mg 525 (by decide +kernel) rfl
theorem st_X10_chance : Cond.static yX10_chance ∈ gw := mg 849 (by decide +kernel) rfl
theorem st_X10_choose : Cond.static yX10_choose ∈ gw := mg 852 (by decide +kernel) rfl
theorem st_X10_commonPart : Cond.static yX10_commonPart ∈ gw := mg 855 (by decide +kernel) rfl
theorem st_X10_contains : Cond.static yX10_contains ∈ gw := mg 488 (by decide +kernel) rfl
theorem st_X10_exchange : Cond.static yX10_exchange ∈ gw := mg 415 (by decide +kernel) rfl
theorem st_X10_isAhead : Cond.static yX10_isAhead ∈ gw := mg 468 (by decide +kernel) rfl
theorem st_X10_isOften : Cond.static yX10_isOften ∈ gw := mg 412 (by decide +kernel) rfl
theorem st_X10_isPerson : Cond.static yX10_isPerson ∈ gw := mg 434 (by decide +kernel) rfl
theorem st_X10_isState : Cond.static yX10_isState ∈ gw := mg 406 (by decide +kernel) rfl
theorem st_X10_isWay : Cond.static yX10_isWay ∈ gw := mg 547 (by decide +kernel) rfl
theorem st_X10_within : Cond.static yX10_within ∈ gw := mg 409 (by decide +kernel) rfl
theorem st_X11_choose : Cond.static yX11_choose ∈ gw := mg 1352 (by decide +kernel) rfl
theorem st_X11_code : Cond.static yX11_code ∈ gw := mg 1218 (by decide +kernel) rfl
theorem st_X11_gcd : Cond.static yX11_gcd ∈ gw := mg 1355 (by decide +kernel) rfl
theorem st_X11_in : Cond.static yX11_in ∈ gw := mg 1057 (by decide +kernel) rfl
theorem st_X11_isPerson : Cond.static yX11_isPerson ∈ gw := mg 1078 (by decide +kernel) rfl
theorem st_X11_isState : Cond.static yX11_isState ∈ gw := mg 1053 (by decide +kernel) rfl
theorem st_X11_isWay : Cond.static yX11_isWay ∈ gw := mg 1166 (by decide +kernel) rfl
theorem st_X11_place : Cond.static yX11_place ∈ gw := mg 1313 (by decide +kernel) rfl
theorem st_X3_saidWithin : Cond.static yX3_saidWithin ∈ gw := mg 734 (by decide +kernel) rfl
theorem st_X9_factor : Cond.static yX9_factor ∈ gw := mg 453 (by decide +kernel) rfl
theorem im_X0_canBeSaid : Cond.instanceMethod yX0_canBeSaid ∈ gw := mg 817 (by decide +kernel) rfl
theorem im_X0_countSaid : Cond.instanceMethod yX0_countSaid ∈ gw := mg 726 (by decide +kernel) rfl
theorem im_X0_deadThings : Cond.instanceMethod yX0_deadThings ∈ gw := mg 833 (by decide +kernel) rfl
theorem im_X0_hasSaying : Cond.instanceMethod yX0_hasSaying ∈ gw := mg 825 (by decide +kernel) rfl
theorem im_X0_hasThing : Cond.instanceMethod yX0_hasThing ∈ gw := mg 504 (by decide +kernel) rfl
theorem im_X0_hasThings : Cond.instanceMethod yX0_hasThings ∈ gw := mg 695 (by decide +kernel) rfl
theorem im_X0_init : Cond.instanceMethod yX0_init ∈ gw := mg 90 (by decide +kernel) rfl
theorem im_X0_isTold : Cond.instanceMethod yX0_isTold ∈ gw := mg 522 (by decide +kernel) rfl
theorem im_X0_lookedAtBy : Cond.instanceMethod yX0_lookedAtBy ∈ gw := mg 841 (by decide +kernel) rfl
theorem im_X0_outcomesBy : Cond.instanceMethod yX0_outcomesBy ∈ gw := mg 845 (by decide +kernel) rfl
theorem im_X0_personsWith : Cond.instanceMethod yX0_personsWith ∈ gw := mg 862 (by decide +kernel) rfl
theorem im_X0_sayingsWith : Cond.instanceMethod yX0_sayingsWith ∈ gw := mg 508 (by decide +kernel) rfl
theorem im_X0_standing : Cond.instanceMethod yX0_standing ∈ gw := mg 517 (by decide +kernel) rfl
theorem im_X0_thingsThatAre : Cond.instanceMethod yX0_thingsThatAre ∈ gw := mg 567 (by decide +kernel) rfl
theorem im_X10_barNow : Cond.instanceMethod yX10_barNow ∈ gw := mg 700 (by decide +kernel) rfl
theorem im_X10_barred : Cond.instanceMethod yX10_barred ∈ gw := mg 691 (by decide +kernel) rfl
theorem im_X10_begins : Cond.instanceMethod yX10_begins ∈ gw := mg 422 (by decide +kernel) rfl
theorem im_X10_came : Cond.instanceMethod yX10_came ∈ gw := mg 821 (by decide +kernel) rfl
theorem im_X10_cost : Cond.instanceMethod yX10_cost ∈ gw := mg 543 (by decide +kernel) rfl
theorem im_X10_count : Cond.instanceMethod yX10_count ∈ gw := mg 563 (by decide +kernel) rfl
theorem im_X10_dead : Cond.instanceMethod yX10_dead ∈ gw := mg 500 (by decide +kernel) rfl
theorem im_X10_fault : Cond.instanceMethod yX10_fault ∈ gw := mg 687 (by decide +kernel) rfl
theorem im_X10_feed : Cond.instanceMethod yX10_feed ∈ gw := mg 572 (by decide +kernel) rfl
theorem im_X10_fits : Cond.instanceMethod yX10_fits ∈ gw := mg 441 (by decide +kernel) rfl
theorem im_X10_go : Cond.instanceMethod yX10_go ∈ gw := mg 437 (by decide +kernel) rfl
theorem im_X10_init : Cond.instanceMethod yX10_init ∈ gw := mg 22 (by decide +kernel) rfl
theorem im_X10_learnt : Cond.instanceMethod yX10_learnt ∈ gw := mg 837 (by decide +kernel) rfl
theorem im_X10_loss : Cond.instanceMethod yX10_loss ∈ gw := mg 554 (by decide +kernel) rfl
theorem im_X10_move : Cond.instanceMethod yX10_move ∈ gw := mg 402 (by decide +kernel) rfl
theorem im_X10_odds : Cond.instanceMethod yX10_odds ∈ gw := mg 464 (by decide +kernel) rfl
theorem im_X10_plan : Cond.instanceMethod yX10_plan ∈ gw := mg 746 (by decide +kernel) rfl
theorem im_X10_read : Cond.instanceMethod yX10_read ∈ gw := mg 580 (by decide +kernel) rfl
theorem im_X10_say : Cond.instanceMethod yX10_say ∈ gw := mg 813 (by decide +kernel) rfl
theorem im_X10_saying : Cond.instanceMethod yX10_saying ∈ gw := mg 829 (by decide +kernel) rfl
theorem im_X10_seam : Cond.instanceMethod yX10_seam ∈ gw := mg 480 (by decide +kernel) rfl
theorem im_X10_seams : Cond.instanceMethod yX10_seams ∈ gw := mg 426 (by decide +kernel) rfl
theorem im_X10_seen : Cond.instanceMethod yX10_seen ∈ gw := mg 550 (by decide +kernel) rfl
theorem im_X10_shows : Cond.instanceMethod yX10_shows ∈ gw := mg 418 (by decide +kernel) rfl
theorem im_X10_sign : Cond.instanceMethod yX10_sign ∈ gw := mg 430 (by decide +kernel) rfl
theorem im_X10_thing : Cond.instanceMethod yX10_thing ∈ gw := mg 496 (by decide +kernel) rfl
theorem im_X10_told : Cond.instanceMethod yX10_told ∈ gw := mg 513 (by decide +kernel) rfl
theorem im_X10_tried : Cond.instanceMethod yX10_tried ∈ gw := mg 867 (by decide +kernel) rfl
theorem im_X10_until : Cond.instanceMethod yX10_until ∈ gw := mg 491 (by decide +kernel) rfl
theorem im_X10_value : Cond.instanceMethod yX10_value ∈ gw := mg 531 (by decide +kernel) rfl
theorem im_X10_who : Cond.instanceMethod yX10_who ∈ gw := mg 858 (by decide +kernel) rfl
theorem im_X11_areAlways : Cond.instanceMethod yX11_areAlways ∈ gw := mg 1268 (by decide +kernel) rfl
theorem im_X11_areFor : Cond.instanceMethod yX11_areFor ∈ gw := mg 1329 (by decide +kernel) rfl
theorem im_X11_areMost : Cond.instanceMethod yX11_areMost ∈ gw := mg 1284 (by decide +kernel) rfl
theorem im_X11_areThings : Cond.instanceMethod yX11_areThings ∈ gw := mg 1260 (by decide +kernel) rfl
theorem im_X11_barred : Cond.instanceMethod yX11_barred ∈ gw := mg 1255 (by decide +kernel) rfl
theorem im_X11_barring : Cond.instanceMethod yX11_barring ∈ gw := mg 1264 (by decide +kernel) rfl
theorem im_X11_begins : Cond.instanceMethod yX11_begins ∈ gw := mg 1065 (by decide +kernel) rfl
theorem im_X11_by : Cond.instanceMethod yX11_by ∈ gw := mg 1317 (by decide +kernel) rfl
theorem im_X11_came : Cond.instanceMethod yX11_came ∈ gw := mg 1332 (by decide +kernel) rfl
theorem im_X11_cameOf : Cond.instanceMethod yX11_cameOf ∈ gw := mg 1349 (by decide +kernel) rfl
theorem im_X11_cost : Cond.instanceMethod yX11_cost ∈ gw := mg 1162 (by decide +kernel) rfl
theorem im_X11_count : Cond.instanceMethod yX11_count ∈ gw := mg 1183 (by decide +kernel) rfl
theorem im_X11_dead : Cond.instanceMethod yX11_dead ∈ gw := mg 1130 (by decide +kernel) rfl
theorem im_X11_deadOf : Cond.instanceMethod yX11_deadOf ∈ gw := mg 1325 (by decide +kernel) rfl
theorem im_X11_fails : Cond.instanceMethod yX11_fails ∈ gw := mg 1222 (by decide +kernel) rfl
theorem im_X11_fault : Cond.instanceMethod yX11_fault ∈ gw := mg 1251 (by decide +kernel) rfl
theorem im_X11_feed : Cond.instanceMethod yX11_feed ∈ gw := mg 1191 (by decide +kernel) rfl
theorem im_X11_findGain : Cond.instanceMethod yX11_findGain ∈ gw := mg 1297 (by decide +kernel) rfl
theorem im_X11_findOdds : Cond.instanceMethod yX11_findOdds ∈ gw := mg 1105 (by decide +kernel) rfl
theorem im_X11_findPlans : Cond.instanceMethod yX11_findPlans ∈ gw := mg 1293 (by decide +kernel) rfl
theorem im_X11_findRows : Cond.instanceMethod yX11_findRows ∈ gw := mg 1092 (by decide +kernel) rfl
theorem im_X11_fits : Cond.instanceMethod yX11_fits ∈ gw := mg 1087 (by decide +kernel) rfl
theorem im_X11_go : Cond.instanceMethod yX11_go ∈ gw := mg 1082 (by decide +kernel) rfl
theorem im_X11_here : Cond.instanceMethod yX11_here ∈ gw := mg 1201 (by decide +kernel) rfl
theorem im_X11_init : Cond.instanceMethod yX11_init ∈ gw := mg 890 (by decide +kernel) rfl
theorem im_X11_isAlways : Cond.instanceMethod yX11_isAlways ∈ gw := mg 1272 (by decide +kernel) rfl
theorem im_X11_isKindBarred : Cond.instanceMethod yX11_isKindBarred ∈ gw := mg 1280 (by decide +kernel) rfl
theorem im_X11_isMust : Cond.instanceMethod yX11_isMust ∈ gw := mg 1310 (by decide +kernel) rfl
theorem im_X11_isOneMatter : Cond.instanceMethod yX11_isOneMatter ∈ gw := mg 1306 (by decide +kernel) rfl
theorem im_X11_isSaying : Cond.instanceMethod yX11_isSaying ∈ gw := mg 1337 (by decide +kernel) rfl
theorem im_X11_isThing : Cond.instanceMethod yX11_isThing ∈ gw := mg 1135 (by decide +kernel) rfl
theorem im_X11_isTold : Cond.instanceMethod yX11_isTold ∈ gw := mg 1151 (by decide +kernel) rfl
theorem im_X11_isWayBarred : Cond.instanceMethod yX11_isWayBarred ∈ gw := mg 1276 (by decide +kernel) rfl
theorem im_X11_learnt : Cond.instanceMethod yX11_learnt ∈ gw := mg 1344 (by decide +kernel) rfl
theorem im_X11_loss : Cond.instanceMethod yX11_loss ∈ gw := mg 1174 (by decide +kernel) rfl
theorem im_X11_lossOf : Cond.instanceMethod yX11_lossOf ∈ gw := mg 1179 (by decide +kernel) rfl
theorem im_X11_move : Cond.instanceMethod yX11_move ∈ gw := mg 1049 (by decide +kernel) rfl
theorem im_X11_needs : Cond.instanceMethod yX11_needs ∈ gw := mg 1240 (by decide +kernel) rfl
theorem im_X11_odds : Cond.instanceMethod yX11_odds ∈ gw := mg 1099 (by decide +kernel) rfl
theorem im_X11_plan : Cond.instanceMethod yX11_plan ∈ gw := mg 1287 (by decide +kernel) rfl
theorem im_X11_read : Cond.instanceMethod yX11_read ∈ gw := mg 1196 (by decide +kernel) rfl
theorem im_X11_readAlways : Cond.instanceMethod yX11_readAlways ∈ gw := mg 1248 (by decide +kernel) rfl
theorem im_X11_readClause : Cond.instanceMethod yX11_readClause ∈ gw := mg 1205 (by decide +kernel) rfl
theorem im_X11_readMost : Cond.instanceMethod yX11_readMost ∈ gw := mg 1244 (by decide +kernel) rfl
theorem im_X11_readNever : Cond.instanceMethod yX11_readNever ∈ gw := mg 1226 (by decide +kernel) rfl
theorem im_X11_readNumber : Cond.instanceMethod yX11_readNumber ∈ gw := mg 1234 (by decide +kernel) rfl
theorem im_X11_readWay : Cond.instanceMethod yX11_readWay ∈ gw := mg 1230 (by decide +kernel) rfl
theorem im_X11_readWord : Cond.instanceMethod yX11_readWord ∈ gw := mg 1209 (by decide +kernel) rfl
theorem im_X11_say : Cond.instanceMethod yX11_say ∈ gw := mg 1320 (by decide +kernel) rfl
theorem im_X11_saying : Cond.instanceMethod yX11_saying ∈ gw := mg 1340 (by decide +kernel) rfl
theorem im_X11_sayingsOf : Cond.instanceMethod yX11_sayingsOf ∈ gw := mg 1139 (by decide +kernel) rfl
theorem im_X11_seam : Cond.instanceMethod yX11_seam ∈ gw := mg 1109 (by decide +kernel) rfl
theorem im_X11_seamOdds : Cond.instanceMethod yX11_seamOdds ∈ gw := mg 1114 (by decide +kernel) rfl
theorem im_X11_seams : Cond.instanceMethod yX11_seams ∈ gw := mg 1069 (by decide +kernel) rfl
theorem im_X11_seen : Cond.instanceMethod yX11_seen ∈ gw := mg 1169 (by decide +kernel) rfl
theorem im_X11_setOf : Cond.instanceMethod yX11_setOf ∈ gw := mg 1301 (by decide +kernel) rfl
theorem im_X11_shows : Cond.instanceMethod yX11_shows ∈ gw := mg 1061 (by decide +kernel) rfl
theorem im_X11_showsAt : Cond.instanceMethod yX11_showsAt ∈ gw := mg 1096 (by decide +kernel) rfl
theorem im_X11_sign : Cond.instanceMethod yX11_sign ∈ gw := mg 1074 (by decide +kernel) rfl
theorem im_X11_stateOf : Cond.instanceMethod yX11_stateOf ∈ gw := mg 1147 (by decide +kernel) rfl
theorem im_X11_thing : Cond.instanceMethod yX11_thing ∈ gw := mg 1121 (by decide +kernel) rfl
theorem im_X11_thingsThat : Cond.instanceMethod yX11_thingsThat ∈ gw := mg 1188 (by decide +kernel) rfl
theorem im_X11_told : Cond.instanceMethod yX11_told ∈ gw := mg 1142 (by decide +kernel) rfl
theorem im_X11_tried : Cond.instanceMethod yX11_tried ∈ gw := mg 1362 (by decide +kernel) rfl
theorem im_X11_until : Cond.instanceMethod yX11_until ∈ gw := mg 1117 (by decide +kernel) rfl
theorem im_X11_value : Cond.instanceMethod yX11_value ∈ gw := mg 1154 (by decide +kernel) rfl
theorem im_X11_valueOf : Cond.instanceMethod yX11_valueOf ∈ gw := mg 1159 (by decide +kernel) rfl
theorem im_X11_who : Cond.instanceMethod yX11_who ∈ gw := mg 1358 (by decide +kernel) rfl
theorem im_X1_bar : Cond.instanceMethod yX1_bar ∈ gw := mg 738 (by decide +kernel) rfl
theorem im_X1_init : Cond.instanceMethod yX1_init ∈ gw := mg 227 (by decide +kernel) rfl
theorem im_X1_isAlways : Cond.instanceMethod yX1_isAlways ∈ gw := mg 742 (by decide +kernel) rfl
theorem im_X1_open : Cond.instanceMethod yX1_open ∈ gw := mg 703 (by decide +kernel) rfl
theorem im_X2_append : Cond.instanceMethod yX2_append ∈ gw := mg 576 (by decide +kernel) rfl
theorem im_X2_finish : Cond.instanceMethod yX2_finish ∈ gw := mg 669 (by decide +kernel) rfl
theorem im_X2_init : Cond.instanceMethod yX2_init ∈ gw := mg 200 (by decide +kernel) rfl
theorem im_X2_needWord : Cond.instanceMethod yX2_needWord ∈ gw := mg 678 (by decide +kernel) rfl
theorem im_X2_note : Cond.instanceMethod yX2_note ∈ gw := mg 654 (by decide +kernel) rfl
theorem im_X2_parse : Cond.instanceMethod yX2_parse ∈ gw := mg 584 (by decide +kernel) rfl
theorem im_X2_readClause : Cond.instanceMethod yX2_readClause ∈ gw := mg 593 (by decide +kernel) rfl
theorem im_X2_readNever : Cond.instanceMethod yX2_readNever ∈ gw := mg 658 (by decide +kernel) rfl
theorem im_X2_refuseNinth : Cond.instanceMethod yX2_refuseNinth ∈ gw := mg 650 (by decide +kernel) rfl
theorem im_X2_skipBlanks : Cond.instanceMethod yX2_skipBlanks ∈ gw := mg 589 (by decide +kernel) rfl
theorem im_X2_takeNumber : Cond.instanceMethod yX2_takeNumber ∈ gw := mg 663 (by decide +kernel) rfl
theorem im_X2_takeWord : Cond.instanceMethod yX2_takeWord ∈ gw := mg 598 (by decide +kernel) rfl
theorem im_X3_add : Cond.instanceMethod yX3_add ∈ gw := mg 672 (by decide +kernel) rfl
theorem im_X3_alwaysFrom : Cond.instanceMethod yX3_alwaysFrom ∈ gw := mg 707 (by decide +kernel) rfl
theorem im_X3_barredKinds : Cond.instanceMethod yX3_barredKinds ∈ gw := mg 711 (by decide +kernel) rfl
theorem im_X3_barredWays : Cond.instanceMethod yX3_barredWays ∈ gw := mg 715 (by decide +kernel) rfl
theorem im_X3_countsSayings : Cond.instanceMethod yX3_countsSayings ∈ gw := mg 757 (by decide +kernel) rfl
theorem im_X3_init : Cond.instanceMethod yX3_init ∈ gw := mg 346 (by decide +kernel) rfl
theorem im_X3_isLikely : Cond.instanceMethod yX3_isLikely ∈ gw := mg 720 (by decide +kernel) rfl
theorem im_X3_mostBars : Cond.instanceMethod yX3_mostBars ∈ gw := mg 730 (by decide +kernel) rfl
theorem im_X4_decide : Cond.instanceMethod yX4_decide ∈ gw := mg 796 (by decide +kernel) rfl
theorem im_X4_init : Cond.instanceMethod yX4_init ∈ gw := mg 243 (by decide +kernel) rfl
theorem im_X4_make : Cond.instanceMethod yX4_make ∈ gw := mg 750 (by decide +kernel) rfl
theorem im_X4_mostBarsAt : Cond.instanceMethod yX4_mostBarsAt ∈ gw := mg 791 (by decide +kernel) rfl
theorem im_X4_nodeBehind : Cond.instanceMethod yX4_nodeBehind ∈ gw := mg 800 (by decide +kernel) rfl
theorem im_X4_pick : Cond.instanceMethod yX4_pick ∈ gw := mg 762 (by decide +kernel) rfl
theorem im_X4_price : Cond.instanceMethod yX4_price ∈ gw := mg 769 (by decide +kernel) rfl
theorem im_X4_priceSet : Cond.instanceMethod yX4_priceSet ∈ gw := mg 785 (by decide +kernel) rfl
theorem im_X4_tell : Cond.instanceMethod yX4_tell ∈ gw := mg 810 (by decide +kernel) rfl
theorem im_X4_total : Cond.instanceMethod yX4_total ∈ gw := mg 804 (by decide +kernel) rfl
theorem im_X5_init : Cond.instanceMethod yX5_init ∈ gw := mg 150 (by decide +kernel) rfl
theorem im_X6_init : Cond.instanceMethod yX6_init ∈ gw := mg 99 (by decide +kernel) rfl
theorem im_X6_isMust : Cond.instanceMethod yX6_isMust ∈ gw := mg 779 (by decide +kernel) rfl
theorem im_X6_planValueIn : Cond.instanceMethod yX6_planValueIn ∈ gw := mg 775 (by decide +kernel) rfl
theorem im_X6_valueIn : Cond.instanceMethod yX6_valueIn ∈ gw := mg 535 (by decide +kernel) rfl
theorem im_X7_init : Cond.instanceMethod yX7_init ∈ gw := mg 312 (by decide +kernel) rfl
theorem im_X7_isLeft : Cond.instanceMethod yX7_isLeft ∈ gw := mg 883 (by decide +kernel) rfl
theorem im_X7_run : Cond.instanceMethod yX7_run ∈ gw := mg 871 (by decide +kernel) rfl
theorem im_X7_sayIn : Cond.instanceMethod yX7_sayIn ∈ gw := mg 878 (by decide +kernel) rfl
theorem im_X8_init : Cond.instanceMethod yX8_init ∈ gw := mg 73 (by decide +kernel) rfl
theorem im_X8_lossBy : Cond.instanceMethod yX8_lossBy ∈ gw := mg 558 (by decide +kernel) rfl
theorem im_X9_allWeights : Cond.instanceMethod yX9_allWeights ∈ gw := mg 461 (by decide +kernel) rfl
theorem im_X9_fittingRows : Cond.instanceMethod yX9_fittingRows ∈ gw := mg 445 (by decide +kernel) rfl
theorem im_X9_init : Cond.instanceMethod yX9_init ∈ gw := mg 30 (by decide +kernel) rfl
theorem im_X9_lookAhead : Cond.instanceMethod yX9_lookAhead ∈ gw := mg 471 (by decide +kernel) rfl
theorem im_X9_moveOn : Cond.instanceMethod yX9_moveOn ∈ gw := mg 477 (by decide +kernel) rfl
theorem im_X9_seamOdds : Cond.instanceMethod yX9_seamOdds ∈ gw := mg 484 (by decide +kernel) rfl
theorem im_X9_signFactor : Cond.instanceMethod yX9_signFactor ∈ gw := mg 457 (by decide +kernel) rfl
theorem im_X9_weigh : Cond.instanceMethod yX9_weigh ∈ gw := mg 450 (by decide +kernel) rfl
theorem se_X0_canBeSaid : Cond.selects yX0_canBeSaid.cls yX0_canBeSaid yX0_canBeSaid ∈ gw := mg 818 (by decide +kernel) rfl
theorem se_X0_countSaid : Cond.selects yX0_countSaid.cls yX0_countSaid yX0_countSaid ∈ gw := mg 727 (by decide +kernel) rfl
theorem se_X0_deadThings : Cond.selects yX0_deadThings.cls yX0_deadThings yX0_deadThings ∈ gw := mg 834 (by decide +kernel) rfl
theorem se_X0_hasSaying : Cond.selects yX0_hasSaying.cls yX0_hasSaying yX0_hasSaying ∈ gw := mg 826 (by decide +kernel) rfl
theorem se_X0_hasThing : Cond.selects yX0_hasThing.cls yX0_hasThing yX0_hasThing ∈ gw := mg 505 (by decide +kernel) rfl
theorem se_X0_hasThings : Cond.selects yX0_hasThings.cls yX0_hasThings yX0_hasThings ∈ gw := mg 696 (by decide +kernel) rfl
theorem se_X0_isTold : Cond.selects yX0_isTold.cls yX0_isTold yX0_isTold ∈ gw := mgs (k := 4) 4 (by decide +kernel)
theorem se_X0_lookedAtBy : Cond.selects yX0_lookedAtBy.cls yX0_lookedAtBy yX0_lookedAtBy ∈ gw := mg 842 (by decide +kernel) rfl
theorem se_X0_outcomesBy : Cond.selects yX0_outcomesBy.cls yX0_outcomesBy yX0_outcomesBy ∈ gw := mg 846 (by decide +kernel) rfl
theorem se_X0_personsWith : Cond.selects yX0_personsWith.cls yX0_personsWith yX0_personsWith ∈ gw := mg 863 (by decide +kernel) rfl
theorem se_X0_sayingsWith : Cond.selects yX0_sayingsWith.cls yX0_sayingsWith yX0_sayingsWith ∈ gw := mg 509 (by decide +kernel) rfl
theorem se_X0_standing : Cond.selects yX0_standing.cls yX0_standing yX0_standing ∈ gw := mg 518 (by decide +kernel) rfl
theorem se_X0_thingsThatAre : Cond.selects yX0_thingsThatAre.cls yX0_thingsThatAre yX0_thingsThatAre ∈ gw := mg 568 (by decide +kernel) rfl
theorem se_X10_barNow : Cond.selects yX10_barNow.cls yX10_barNow yX10_barNow ∈ gw := mgs (k := 11) 14 (by decide +kernel)
theorem se_X10_barred : Cond.selects yX10_barred.cls yX10_barred yX10_barred ∈ gw := mg 692 (by decide +kernel) rfl
theorem se_X10_begins : Cond.selects yX10_begins.cls yX10_begins yX10_begins ∈ gw := mg 423 (by decide +kernel) rfl
theorem se_X10_came : Cond.selects yX10_came.cls yX10_came yX10_came ∈ gw := mg 822 (by decide +kernel) rfl
theorem se_X10_cost : Cond.selects yX10_cost.cls yX10_cost yX10_cost ∈ gw := mg 544 (by decide +kernel) rfl
theorem se_X10_count : Cond.selects yX10_count.cls yX10_count yX10_count ∈ gw := mg 564 (by decide +kernel) rfl
theorem se_X10_dead : Cond.selects yX10_dead.cls yX10_dead yX10_dead ∈ gw := mg 501 (by decide +kernel) rfl
theorem se_X10_fault : Cond.selects yX10_fault.cls yX10_fault yX10_fault ∈ gw := mg 688 (by decide +kernel) rfl
theorem se_X10_feed : Cond.selects yX10_feed.cls yX10_feed yX10_feed ∈ gw := mg 573 (by decide +kernel) rfl
theorem se_X10_fits : Cond.selects yX10_fits.cls yX10_fits yX10_fits ∈ gw := mg 442 (by decide +kernel) rfl
theorem se_X10_go : Cond.selects yX10_go.cls yX10_go yX10_go ∈ gw := mg 438 (by decide +kernel) rfl
theorem se_X10_learnt : Cond.selects yX10_learnt.cls yX10_learnt yX10_learnt ∈ gw := mg 838 (by decide +kernel) rfl
theorem se_X10_loss : Cond.selects yX10_loss.cls yX10_loss yX10_loss ∈ gw := mg 555 (by decide +kernel) rfl
theorem se_X10_move : Cond.selects yX10_move.cls yX10_move yX10_move ∈ gw := mg 403 (by decide +kernel) rfl
theorem se_X10_odds : Cond.selects yX10_odds.cls yX10_odds yX10_odds ∈ gw := mg 465 (by decide +kernel) rfl
theorem se_X10_plan : Cond.selects yX10_plan.cls yX10_plan yX10_plan ∈ gw := mg 747 (by decide +kernel) rfl
theorem se_X10_read : Cond.selects yX10_read.cls yX10_read yX10_read ∈ gw := mg 581 (by decide +kernel) rfl
theorem se_X10_say : Cond.selects yX10_say.cls yX10_say yX10_say ∈ gw := mg 814 (by decide +kernel) rfl
theorem se_X10_saying : Cond.selects yX10_saying.cls yX10_saying yX10_saying ∈ gw := mg 830 (by decide +kernel) rfl
theorem se_X10_seam : Cond.selects yX10_seam.cls yX10_seam yX10_seam ∈ gw := mg 481 (by decide +kernel) rfl
theorem se_X10_seams : Cond.selects yX10_seams.cls yX10_seams yX10_seams ∈ gw := mg 427 (by decide +kernel) rfl
theorem se_X10_seen : Cond.selects yX10_seen.cls yX10_seen yX10_seen ∈ gw := mg 551 (by decide +kernel) rfl
theorem se_X10_shows : Cond.selects yX10_shows.cls yX10_shows yX10_shows ∈ gw := mg 419 (by decide +kernel) rfl
theorem se_X10_sign : Cond.selects yX10_sign.cls yX10_sign yX10_sign ∈ gw := mg 431 (by decide +kernel) rfl
theorem se_X10_thing : Cond.selects yX10_thing.cls yX10_thing yX10_thing ∈ gw := mg 497 (by decide +kernel) rfl
theorem se_X10_told : Cond.selects yX10_told.cls yX10_told yX10_told ∈ gw := mg 514 (by decide +kernel) rfl
theorem se_X10_tried : Cond.selects yX10_tried.cls yX10_tried yX10_tried ∈ gw := mg 868 (by decide +kernel) rfl
theorem se_X10_until : Cond.selects yX10_until.cls yX10_until yX10_until ∈ gw := mg 492 (by decide +kernel) rfl
theorem se_X10_value : Cond.selects yX10_value.cls yX10_value yX10_value ∈ gw := mg 532 (by decide +kernel) rfl
theorem se_X10_who : Cond.selects yX10_who.cls yX10_who yX10_who ∈ gw := mg 859 (by decide +kernel) rfl
theorem se_X11_areAlways : Cond.selects yX11_areAlways.cls yX11_areAlways yX11_areAlways ∈ gw := mgs (k := 51) 49 (by decide +kernel)
theorem se_X11_areFor : Cond.selects yX11_areFor.cls yX11_areFor yX11_areFor ∈ gw := mgs (k := 51) 61 (by decide +kernel)
theorem se_X11_areMost : Cond.selects yX11_areMost.cls yX11_areMost yX11_areMost ∈ gw := mgs (k := 51) 53 (by decide +kernel)
theorem se_X11_areThings : Cond.selects yX11_areThings.cls yX11_areThings yX11_areThings ∈ gw := mgs (k := 51) 47 (by decide +kernel)
theorem se_X11_barred : Cond.selects yX11_barred.cls yX11_barred yX11_barred ∈ gw := mg 1256 (by decide +kernel) rfl
theorem se_X11_barring : Cond.selects yX11_barring.cls yX11_barring yX11_barring ∈ gw := mgs (k := 51) 48 (by decide +kernel)
theorem se_X11_begins : Cond.selects yX11_begins.cls yX11_begins yX11_begins ∈ gw := mg 1066 (by decide +kernel) rfl
theorem se_X11_by : Cond.selects yX11_by.cls yX11_by yX11_by ∈ gw := mgs (k := 51) 59 (by decide +kernel)
theorem se_X11_came : Cond.selects yX11_came.cls yX11_came yX11_came ∈ gw := mg 1333 (by decide +kernel) rfl
theorem se_X11_cameOf : Cond.selects yX11_cameOf.cls yX11_cameOf yX11_cameOf ∈ gw := mgs (k := 51) 63 (by decide +kernel)
theorem se_X11_cost : Cond.selects yX11_cost.cls yX11_cost yX11_cost ∈ gw := mg 1163 (by decide +kernel) rfl
theorem se_X11_count : Cond.selects yX11_count.cls yX11_count yX11_count ∈ gw := mg 1184 (by decide +kernel) rfl
theorem se_X11_dead : Cond.selects yX11_dead.cls yX11_dead yX11_dead ∈ gw := mg 1131 (by decide +kernel) rfl
theorem se_X11_deadOf : Cond.selects yX11_deadOf.cls yX11_deadOf yX11_deadOf ∈ gw := mgs (k := 51) 60 (by decide +kernel)
theorem se_X11_fails : Cond.selects yX11_fails.cls yX11_fails yX11_fails ∈ gw := mgs (k := 51) 40 (by decide +kernel)
theorem se_X11_fault : Cond.selects yX11_fault.cls yX11_fault yX11_fault ∈ gw := mg 1252 (by decide +kernel) rfl
theorem se_X11_feed : Cond.selects yX11_feed.cls yX11_feed yX11_feed ∈ gw := mg 1192 (by decide +kernel) rfl
theorem se_X11_findGain : Cond.selects yX11_findGain.cls yX11_findGain yX11_findGain ∈ gw := mgs (k := 51) 55 (by decide +kernel)
theorem se_X11_findOdds : Cond.selects yX11_findOdds.cls yX11_findOdds yX11_findOdds ∈ gw := mgs (k := 51) 28 (by decide +kernel)
theorem se_X11_findPlans : Cond.selects yX11_findPlans.cls yX11_findPlans yX11_findPlans ∈ gw := mgs (k := 51) 54 (by decide +kernel)
theorem se_X11_findRows : Cond.selects yX11_findRows.cls yX11_findRows yX11_findRows ∈ gw := mgs (k := 51) 26 (by decide +kernel)
theorem se_X11_fits : Cond.selects yX11_fits.cls yX11_fits yX11_fits ∈ gw := mg 1088 (by decide +kernel) rfl
theorem se_X11_go : Cond.selects yX11_go.cls yX11_go yX11_go ∈ gw := mg 1083 (by decide +kernel) rfl
theorem se_X11_here : Cond.selects yX11_here.cls yX11_here yX11_here ∈ gw := mgs (k := 51) 37 (by decide +kernel)
theorem se_X11_isAlways : Cond.selects yX11_isAlways.cls yX11_isAlways yX11_isAlways ∈ gw := mgs (k := 51) 50 (by decide +kernel)
theorem se_X11_isKindBarred : Cond.selects yX11_isKindBarred.cls yX11_isKindBarred yX11_isKindBarred ∈ gw := mgs (k := 51) 52 (by decide +kernel)
theorem se_X11_isMust : Cond.selects yX11_isMust.cls yX11_isMust yX11_isMust ∈ gw := mgs (k := 51) 58 (by decide +kernel)
theorem se_X11_isOneMatter : Cond.selects yX11_isOneMatter.cls yX11_isOneMatter yX11_isOneMatter ∈ gw := mgs (k := 51) 57 (by decide +kernel)
theorem se_X11_isSaying : Cond.selects yX11_isSaying.cls yX11_isSaying yX11_isSaying ∈ gw := mgs (k := 51) 62 (by decide +kernel)
theorem se_X11_isThing : Cond.selects yX11_isThing.cls yX11_isThing yX11_isThing ∈ gw := mgs (k := 51) 30 (by decide +kernel)
theorem se_X11_isTold : Cond.selects yX11_isTold.cls yX11_isTold yX11_isTold ∈ gw := mgs (k := 51) 33 (by decide +kernel)
theorem se_X11_isWayBarred : Cond.selects yX11_isWayBarred.cls yX11_isWayBarred yX11_isWayBarred ∈ gw := mgs (k := 51) 51 (by decide +kernel)
theorem se_X11_learnt : Cond.selects yX11_learnt.cls yX11_learnt yX11_learnt ∈ gw := mg 1345 (by decide +kernel) rfl
theorem se_X11_loss : Cond.selects yX11_loss.cls yX11_loss yX11_loss ∈ gw := mg 1175 (by decide +kernel) rfl
theorem se_X11_lossOf : Cond.selects yX11_lossOf.cls yX11_lossOf yX11_lossOf ∈ gw := mgs (k := 51) 35 (by decide +kernel)
theorem se_X11_move : Cond.selects yX11_move.cls yX11_move yX11_move ∈ gw := mg 1050 (by decide +kernel) rfl
theorem se_X11_needs : Cond.selects yX11_needs.cls yX11_needs yX11_needs ∈ gw := mgs (k := 51) 44 (by decide +kernel)
theorem se_X11_odds : Cond.selects yX11_odds.cls yX11_odds yX11_odds ∈ gw := mg 1100 (by decide +kernel) rfl
theorem se_X11_plan : Cond.selects yX11_plan.cls yX11_plan yX11_plan ∈ gw := mg 1288 (by decide +kernel) rfl
theorem se_X11_read : Cond.selects yX11_read.cls yX11_read yX11_read ∈ gw := mg 1197 (by decide +kernel) rfl
theorem se_X11_readAlways : Cond.selects yX11_readAlways.cls yX11_readAlways yX11_readAlways ∈ gw := mgs (k := 51) 46 (by decide +kernel)
theorem se_X11_readClause : Cond.selects yX11_readClause.cls yX11_readClause yX11_readClause ∈ gw := mgs (k := 51) 38 (by decide +kernel)
theorem se_X11_readMost : Cond.selects yX11_readMost.cls yX11_readMost yX11_readMost ∈ gw := mgs (k := 51) 45 (by decide +kernel)
theorem se_X11_readNever : Cond.selects yX11_readNever.cls yX11_readNever yX11_readNever ∈ gw := mgs (k := 51) 41 (by decide +kernel)
theorem se_X11_readNumber : Cond.selects yX11_readNumber.cls yX11_readNumber yX11_readNumber ∈ gw := mgs (k := 51) 43 (by decide +kernel)
theorem se_X11_readWay : Cond.selects yX11_readWay.cls yX11_readWay yX11_readWay ∈ gw := mgs (k := 51) 42 (by decide +kernel)
theorem se_X11_readWord : Cond.selects yX11_readWord.cls yX11_readWord yX11_readWord ∈ gw := mgs (k := 51) 39 (by decide +kernel)
theorem se_X11_say : Cond.selects yX11_say.cls yX11_say yX11_say ∈ gw := mg 1321 (by decide +kernel) rfl
theorem se_X11_saying : Cond.selects yX11_saying.cls yX11_saying yX11_saying ∈ gw := mg 1341 (by decide +kernel) rfl
theorem se_X11_sayingsOf : Cond.selects yX11_sayingsOf.cls yX11_sayingsOf yX11_sayingsOf ∈ gw := mgs (k := 51) 31 (by decide +kernel)
theorem se_X11_seam : Cond.selects yX11_seam.cls yX11_seam yX11_seam ∈ gw := mg 1110 (by decide +kernel) rfl
theorem se_X11_seamOdds : Cond.selects yX11_seamOdds.cls yX11_seamOdds yX11_seamOdds ∈ gw := mgs (k := 51) 29 (by decide +kernel)
theorem se_X11_seams : Cond.selects yX11_seams.cls yX11_seams yX11_seams ∈ gw := mg 1070 (by decide +kernel) rfl
theorem se_X11_seen : Cond.selects yX11_seen.cls yX11_seen yX11_seen ∈ gw := mg 1170 (by decide +kernel) rfl
theorem se_X11_setOf : Cond.selects yX11_setOf.cls yX11_setOf yX11_setOf ∈ gw := mgs (k := 51) 56 (by decide +kernel)
theorem se_X11_shows : Cond.selects yX11_shows.cls yX11_shows yX11_shows ∈ gw := mg 1062 (by decide +kernel) rfl
theorem se_X11_showsAt : Cond.selects yX11_showsAt.cls yX11_showsAt yX11_showsAt ∈ gw := mgs (k := 51) 27 (by decide +kernel)
theorem se_X11_sign : Cond.selects yX11_sign.cls yX11_sign yX11_sign ∈ gw := mg 1075 (by decide +kernel) rfl
theorem se_X11_stateOf : Cond.selects yX11_stateOf.cls yX11_stateOf yX11_stateOf ∈ gw := mgs (k := 51) 32 (by decide +kernel)
theorem se_X11_thing : Cond.selects yX11_thing.cls yX11_thing yX11_thing ∈ gw := mg 1122 (by decide +kernel) rfl
theorem se_X11_thingsThat : Cond.selects yX11_thingsThat.cls yX11_thingsThat yX11_thingsThat ∈ gw := mgs (k := 51) 36 (by decide +kernel)
theorem se_X11_told : Cond.selects yX11_told.cls yX11_told yX11_told ∈ gw := mg 1143 (by decide +kernel) rfl
theorem se_X11_tried : Cond.selects yX11_tried.cls yX11_tried yX11_tried ∈ gw := mg 1363 (by decide +kernel) rfl
theorem se_X11_until : Cond.selects yX11_until.cls yX11_until yX11_until ∈ gw := mg 1118 (by decide +kernel) rfl
theorem se_X11_value : Cond.selects yX11_value.cls yX11_value yX11_value ∈ gw := mg 1155 (by decide +kernel) rfl
theorem se_X11_valueOf : Cond.selects yX11_valueOf.cls yX11_valueOf yX11_valueOf ∈ gw := mgs (k := 51) 34 (by decide +kernel)
theorem se_X11_who : Cond.selects yX11_who.cls yX11_who yX11_who ∈ gw := mg 1359 (by decide +kernel) rfl
theorem se_X1_bar : Cond.selects yX1_bar.cls yX1_bar yX1_bar ∈ gw := mg 739 (by decide +kernel) rfl
theorem se_X1_isAlways : Cond.selects yX1_isAlways.cls yX1_isAlways yX1_isAlways ∈ gw := mg 743 (by decide +kernel) rfl
theorem se_X1_open : Cond.selects yX1_open.cls yX1_open yX1_open ∈ gw := mg 704 (by decide +kernel) rfl
theorem se_X2_append : Cond.selects yX2_append.cls yX2_append yX2_append ∈ gw := mg 577 (by decide +kernel) rfl
theorem se_X2_finish : Cond.selects yX2_finish.cls yX2_finish yX2_finish ∈ gw := mgs (k := 5) 12 (by decide +kernel)
theorem se_X2_needWord : Cond.selects yX2_needWord.cls yX2_needWord yX2_needWord ∈ gw := mgs (k := 5) 13 (by decide +kernel)
theorem se_X2_note : Cond.selects yX2_note.cls yX2_note yX2_note ∈ gw := mgs (k := 5) 9 (by decide +kernel)
theorem se_X2_parse : Cond.selects yX2_parse.cls yX2_parse yX2_parse ∈ gw := mg 585 (by decide +kernel) rfl
theorem se_X2_readClause : Cond.selects yX2_readClause.cls yX2_readClause yX2_readClause ∈ gw := mgs (k := 5) 6 (by decide +kernel)
theorem se_X2_readNever : Cond.selects yX2_readNever.cls yX2_readNever yX2_readNever ∈ gw := mgs (k := 5) 10 (by decide +kernel)
theorem se_X2_refuseNinth : Cond.selects yX2_refuseNinth.cls yX2_refuseNinth yX2_refuseNinth ∈ gw := mgs (k := 5) 8 (by decide +kernel)
theorem se_X2_skipBlanks : Cond.selects yX2_skipBlanks.cls yX2_skipBlanks yX2_skipBlanks ∈ gw := mgs (k := 5) 5 (by decide +kernel)
theorem se_X2_takeNumber : Cond.selects yX2_takeNumber.cls yX2_takeNumber yX2_takeNumber ∈ gw := mgs (k := 5) 11 (by decide +kernel)
theorem se_X2_takeWord : Cond.selects yX2_takeWord.cls yX2_takeWord yX2_takeWord ∈ gw := mgs (k := 5) 7 (by decide +kernel)
theorem se_X3_add : Cond.selects yX3_add.cls yX3_add yX3_add ∈ gw := mg 673 (by decide +kernel) rfl
theorem se_X3_alwaysFrom : Cond.selects yX3_alwaysFrom.cls yX3_alwaysFrom yX3_alwaysFrom ∈ gw := mg 708 (by decide +kernel) rfl
theorem se_X3_barredKinds : Cond.selects yX3_barredKinds.cls yX3_barredKinds yX3_barredKinds ∈ gw := mg 712 (by decide +kernel) rfl
theorem se_X3_barredWays : Cond.selects yX3_barredWays.cls yX3_barredWays yX3_barredWays ∈ gw := mg 716 (by decide +kernel) rfl
theorem se_X3_countsSayings : Cond.selects yX3_countsSayings.cls yX3_countsSayings yX3_countsSayings ∈ gw := mg 758 (by decide +kernel) rfl
theorem se_X3_isLikely : Cond.selects yX3_isLikely.cls yX3_isLikely yX3_isLikely ∈ gw := mgs (k := 5) 15 (by decide +kernel)
theorem se_X3_mostBars : Cond.selects yX3_mostBars.cls yX3_mostBars yX3_mostBars ∈ gw := mg 731 (by decide +kernel) rfl
theorem se_X4_decide : Cond.selects yX4_decide.cls yX4_decide yX4_decide ∈ gw := mgs (k := 19) 20 (by decide +kernel)
theorem se_X4_make : Cond.selects yX4_make.cls yX4_make yX4_make ∈ gw := mg 751 (by decide +kernel) rfl
theorem se_X4_mostBarsAt : Cond.selects yX4_mostBarsAt.cls yX4_mostBarsAt yX4_mostBarsAt ∈ gw := mgs (k := 19) 19 (by decide +kernel)
theorem se_X4_nodeBehind : Cond.selects yX4_nodeBehind.cls yX4_nodeBehind yX4_nodeBehind ∈ gw := mgs (k := 19) 21 (by decide +kernel)
theorem se_X4_pick : Cond.selects yX4_pick.cls yX4_pick yX4_pick ∈ gw := mgs (k := 19) 16 (by decide +kernel)
theorem se_X4_price : Cond.selects yX4_price.cls yX4_price yX4_price ∈ gw := mgs (k := 19) 17 (by decide +kernel)
theorem se_X4_priceSet : Cond.selects yX4_priceSet.cls yX4_priceSet yX4_priceSet ∈ gw := mgs (k := 19) 18 (by decide +kernel)
theorem se_X4_tell : Cond.selects yX4_tell.cls yX4_tell yX4_tell ∈ gw := mgs (k := 19) 23 (by decide +kernel)
theorem se_X4_total : Cond.selects yX4_total.cls yX4_total yX4_total ∈ gw := mgs (k := 19) 22 (by decide +kernel)
theorem se_X6_isMust : Cond.selects yX6_isMust.cls yX6_isMust yX6_isMust ∈ gw := mg 780 (by decide +kernel) rfl
theorem se_X6_planValueIn : Cond.selects yX6_planValueIn.cls yX6_planValueIn yX6_planValueIn ∈ gw := mg 776 (by decide +kernel) rfl
theorem se_X6_valueIn : Cond.selects yX6_valueIn.cls yX6_valueIn yX6_valueIn ∈ gw := mg 536 (by decide +kernel) rfl
theorem se_X7_isLeft : Cond.selects yX7_isLeft.cls yX7_isLeft yX7_isLeft ∈ gw := mgs (k := 8) 25 (by decide +kernel)
theorem se_X7_run : Cond.selects yX7_run.cls yX7_run yX7_run ∈ gw := mg 872 (by decide +kernel) rfl
theorem se_X7_sayIn : Cond.selects yX7_sayIn.cls yX7_sayIn yX7_sayIn ∈ gw := mgs (k := 8) 24 (by decide +kernel)
theorem se_X8_lossBy : Cond.selects yX8_lossBy.cls yX8_lossBy yX8_lossBy ∈ gw := mg 559 (by decide +kernel) rfl
theorem se_X9_allWeights : Cond.selects yX9_allWeights.cls yX9_allWeights yX9_allWeights ∈ gw := mgs (k := 8) 2 (by decide +kernel)
theorem se_X9_fittingRows : Cond.selects yX9_fittingRows.cls yX9_fittingRows yX9_fittingRows ∈ gw := mg 446 (by decide +kernel) rfl
theorem se_X9_lookAhead : Cond.selects yX9_lookAhead.cls yX9_lookAhead yX9_lookAhead ∈ gw := mg 472 (by decide +kernel) rfl
theorem se_X9_moveOn : Cond.selects yX9_moveOn.cls yX9_moveOn yX9_moveOn ∈ gw := mgs (k := 8) 3 (by decide +kernel)
theorem se_X9_seamOdds : Cond.selects yX9_seamOdds.cls yX9_seamOdds yX9_seamOdds ∈ gw := mg 485 (by decide +kernel) rfl
theorem se_X9_signFactor : Cond.selects yX9_signFactor.cls yX9_signFactor yX9_signFactor ∈ gw := mgs (k := 8) 1 (by decide +kernel)
theorem se_X9_weigh : Cond.selects yX9_weigh.cls yX9_weigh yX9_weigh ∈ gw := mgs (k := 8) 0 (by decide +kernel)
theorem kc_X10_131 : Cond.constant RX10 131 (1000000) ∈ gw := mg 494 (by decide +kernel) rfl
theorem kc_X11_219 : Cond.constant RX11 219 (1000000) ∈ gw := mg 1181 (by decide +kernel) rfl
theorem kc_X11_328 : Cond.constant RX11 328 (-1000000000) ∈ gw := mg 1303 (by decide +kernel) rfl
theorem kc_J6_265 : Cond.constant RJ6 265 (1431655765) ∈ gw := mg 527 (by decide +kernel) rfl
theorem kc_J6_266 : Cond.constant RJ6 266 (858993459) ∈ gw := mg 528 (by decide +kernel) rfl
theorem kc_J6_267 : Cond.constant RJ6 267 (252645135) ∈ gw := mg 529 (by decide +kernel) rfl
theorem kl_X3_32 : Cond.constantLong RX3 32 (100) ∈ gw := mg 722 (by decide +kernel) rfl
theorem kl_X3_34 : Cond.constantLong RX3 34 (1000000) ∈ gw := mg 723 (by decide +kernel) rfl
theorem kl_X6_37 : Cond.constantLong RX6 37 (1000000) ∈ gw := mg 541 (by decide +kernel) rfl
theorem kl_X8_20 : Cond.constantLong RX8 20 (1000000) ∈ gw := mg 561 (by decide +kernel) rfl
theorem kl_X9_44 : Cond.constantLong RX9 44 (1000000) ∈ gw := mg 474 (by decide +kernel) rfl
theorem kl_L_89 : Cond.constantLong RLw 89 (4294967295) ∈ gw := mg 1365 (by decide +kernel) rfl
theorem kl_X11_136 : Cond.constantLong RX11 136 (3) ∈ gw := mg 1055 (by decide +kernel) rfl
theorem kl_X11_146 : Cond.constantLong RX11 146 (4) ∈ gw := mg 1059 (by decide +kernel) rfl
theorem kl_X11_148 : Cond.constantLong RX11 148 (15) ∈ gw := mg 1072 (by decide +kernel) rfl
theorem kl_X11_156 : Cond.constantLong RX11 156 (-1) ∈ gw := mg 1080 (by decide +kernel) rfl
theorem kl_X11_161 : Cond.constantLong RX11 161 (20) ∈ gw := mg 1085 (by decide +kernel) rfl
theorem kl_X11_171 : Cond.constantLong RX11 171 (1000000) ∈ gw := mg 1107 (by decide +kernel) rfl
theorem kl_X11_177 : Cond.constantLong RX11 177 (8) ∈ gw := mg 1102 (by decide +kernel) rfl
theorem kl_X11_185 : Cond.constantLong RX11 185 (5) ∈ gw := mg 1124 (by decide +kernel) rfl
theorem kl_X11_187 : Cond.constantLong RX11 187 (9) ∈ gw := mg 1125 (by decide +kernel) rfl
theorem kl_X11_189 : Cond.constantLong RX11 189 (999) ∈ gw := mg 1126 (by decide +kernel) rfl
theorem kl_X11_191 : Cond.constantLong RX11 191 (99) ∈ gw := mg 1127 (by decide +kernel) rfl
theorem kl_X11_193 : Cond.constantLong RX11 193 (60) ∈ gw := mg 1128 (by decide +kernel) rfl
theorem kl_X11_217 : Cond.constantLong RX11 217 (100) ∈ gw := mg 1172 (by decide +kernel) rfl
theorem kl_X11_230 : Cond.constantLong RX11 230 (255) ∈ gw := mg 1194 (by decide +kernel) rfl
theorem kl_X11_246 : Cond.constantLong RX11 246 (97) ∈ gw := mg 1211 (by decide +kernel) rfl
theorem kl_X11_248 : Cond.constantLong RX11 248 (122) ∈ gw := mg 1212 (by decide +kernel) rfl
theorem kl_X11_250 : Cond.constantLong RX11 250 (10000000000) ∈ gw := mg 1213 (by decide +kernel) rfl
theorem kl_X11_252 : Cond.constantLong RX11 252 (20000000000) ∈ gw := mg 1214 (by decide +kernel) rfl
theorem kl_X11_254 : Cond.constantLong RX11 254 (27) ∈ gw := mg 1215 (by decide +kernel) rfl
theorem kl_X11_256 : Cond.constantLong RX11 256 (96) ∈ gw := mg 1216 (by decide +kernel) rfl
theorem kl_X11_265 : Cond.constantLong RX11 265 (48) ∈ gw := mg 1236 (by decide +kernel) rfl
theorem kl_X11_267 : Cond.constantLong RX11 267 (57) ∈ gw := mg 1237 (by decide +kernel) rfl
theorem kl_X11_344 : Cond.constantLong RX11 344 (6) ∈ gw := mg 1290 (by decide +kernel) rfl
theorem dfX0 : ∀ j, j < 4 → defaultValue (tyX0 j) = dfl 0 j := by decide +kernel
theorem it_X0 : Cond.instantiable RX0 4 ∈ gw := mg 88 (by decide +kernel) rfl
theorem ii_X0 : Cond.initialized RX0 ∈ gw := mg 4 (by decide +kernel) rfl
theorem dfX1 : ∀ j, j < 3 → defaultValue (tyX1 j) = dfl 1 j := by decide +kernel
theorem it_X1 : Cond.instantiable RX1 3 ∈ gw := mg 225 (by decide +kernel) rfl
theorem ii_X1 : Cond.initialized RX1 ∈ gw := mg 8 (by decide +kernel) rfl
theorem dfX10 : ∀ j, j < 11 → defaultValue (tyX10 j) = dfl 10 j := by decide +kernel
theorem it_X10 : Cond.instantiable RX10 11 ∈ gw := mg 20 (by decide +kernel) rfl
theorem ii_X10 : Cond.initialized RX10 ∈ gw := mg 1 (by decide +kernel) rfl
theorem dfX11 : ∀ j, j < 51 → defaultValue (tyX11 j) = dfl 11 j := by decide +kernel
theorem it_X11 : Cond.instantiable RX11 51 ∈ gw := mg 888 (by decide +kernel) rfl
theorem ii_X11 : Cond.initialized RX11 ∈ gw := mg 12 (by decide +kernel) rfl
theorem dfX2 : ∀ j, j < 5 → defaultValue (tyX2 j) = dfl 2 j := by decide +kernel
theorem it_X2 : Cond.instantiable RX2 5 ∈ gw := mg 198 (by decide +kernel) rfl
theorem ii_X2 : Cond.initialized RX2 ∈ gw := mg 7 (by decide +kernel) rfl
theorem dfX3 : ∀ j, j < 5 → defaultValue (tyX3 j) = dfl 3 j := by decide +kernel
theorem it_X3 : Cond.instantiable RX3 5 ∈ gw := mg 344 (by decide +kernel) rfl
theorem ii_X3 : Cond.initialized RX3 ∈ gw := mg 11 (by decide +kernel) rfl
theorem dfX4 : ∀ j, j < 19 → defaultValue (tyX4 j) = dfl 4 j := by decide +kernel
theorem it_X4 : Cond.instantiable RX4 19 ∈ gw := mg 241 (by decide +kernel) rfl
theorem ii_X4 : Cond.initialized RX4 ∈ gw := mg 9 (by decide +kernel) rfl
theorem dfX5 : ∀ j, j < 5 → defaultValue (tyX5 j) = dfl 5 j := by decide +kernel
theorem it_X5 : Cond.instantiable RX5 5 ∈ gw := mg 148 (by decide +kernel) rfl
theorem ii_X5 : Cond.initialized RX5 ∈ gw := mg 6 (by decide +kernel) rfl
theorem dfX6 : ∀ j, j < 9 → defaultValue (tyX6 j) = dfl 6 j := by decide +kernel
theorem it_X6 : Cond.instantiable RX6 9 ∈ gw := mg 97 (by decide +kernel) rfl
theorem ii_X6 : Cond.initialized RX6 ∈ gw := mg 5 (by decide +kernel) rfl
theorem dfX7 : ∀ j, j < 8 → defaultValue (tyX7 j) = dfl 7 j := by decide +kernel
theorem it_X7 : Cond.instantiable RX7 8 ∈ gw := mg 310 (by decide +kernel) rfl
theorem ii_X7 : Cond.initialized RX7 ∈ gw := mg 10 (by decide +kernel) rfl
theorem dfX8 : ∀ j, j < 2 → defaultValue (tyX8 j) = dfl 8 j := by decide +kernel
theorem it_X8 : Cond.instantiable RX8 2 ∈ gw := mg 71 (by decide +kernel) rfl
theorem ii_X8 : Cond.initialized RX8 ∈ gw := mg 3 (by decide +kernel) rfl
theorem dfX9 : ∀ j, j < 8 → defaultValue (tyX9 j) = dfl 9 j := by decide +kernel
theorem it_X9 : Cond.instantiable RX9 8 ∈ gw := mg 28 (by decide +kernel) rfl
theorem ii_X9 : Cond.initialized RX9 ∈ gw := mg 2 (by decide +kernel) rfl
theorem cl_X10_9 : Cond.classLink RX10 9 RX9 ∈ gw := mg 27 (by decide +kernel) rfl
theorem cl_X10_16 : Cond.classLink RX10 16 RX8 ∈ gw := mg 70 (by decide +kernel) rfl
theorem cl_X10_23 : Cond.classLink RX10 23 RX0 ∈ gw := mg 87 (by decide +kernel) rfl
theorem cl_X10_30 : Cond.classLink RX10 30 RX2 ∈ gw := mg 197 (by decide +kernel) rfl
theorem cl_X10_37 : Cond.classLink RX10 37 RX3 ∈ gw := mg 222 (by decide +kernel) rfl
theorem cl_X10_43 : Cond.classLink RX10 43 RX1 ∈ gw := mg 224 (by decide +kernel) rfl
theorem cl_X10_50 : Cond.classLink RX10 50 RX4 ∈ gw := mg 240 (by decide +kernel) rfl
theorem cl_X10_59 : Cond.classLink RX10 59 RX7 ∈ gw := mg 309 (by decide +kernel) rfl
theorem cl_X0_9 : Cond.classLink RX0 9 RX6 ∈ gw := mg 93 (by decide +kernel) rfl
theorem cl_X0_17 : Cond.classLink RX0 17 RX5 ∈ gw := mg 95 (by decide +kernel) rfl
theorem cl_X4_18 : Cond.classLink RX4 18 RX1 ∈ gw := mg 246 (by decide +kernel) rfl
theorem cl_L_7 : Cond.classLink RLw 7 RX10 ∈ gw := mg 19 (by decide +kernel) rfl
theorem cl_L_10 : Cond.classLink RLw 10 RX11 ∈ gw := mg 887 (by decide +kernel) rfl
theorem clg_X8_9 : Cond.classLink RX8 9 ("[" ++ (FieldType.array .int).toString) ∈ gw := mg 76 (by decide +kernel) rfl
theorem clg_X9_9 : Cond.classLink RX9 9 ("[" ++ (FieldType.array .int).toString) ∈ gw := mg 33 (by decide +kernel) rfl
theorem mo_X10_3 : Cond.methodLink RX10 3 Lib.objectInit ∈ gw := mg 24 (by decide +kernel) rfl
theorem mo_X0_3 : Cond.methodLink RX0 3 Lib.objectInit ∈ gw := mg 92 (by decide +kernel) rfl
theorem mo_X1_1 : Cond.methodLink RX1 1 Lib.objectInit ∈ gw := mg 229 (by decide +kernel) rfl
theorem mo_X2_3 : Cond.methodLink RX2 3 Lib.objectInit ∈ gw := mg 202 (by decide +kernel) rfl
theorem mo_X3_3 : Cond.methodLink RX3 3 Lib.objectInit ∈ gw := mg 348 (by decide +kernel) rfl
theorem mo_X4_3 : Cond.methodLink RX4 3 Lib.objectInit ∈ gw := mg 245 (by decide +kernel) rfl
theorem mo_X5_1 : Cond.methodLink RX5 1 Lib.objectInit ∈ gw := mg 152 (by decide +kernel) rfl
theorem mo_X6_3 : Cond.methodLink RX6 3 Lib.objectInit ∈ gw := mg 101 (by decide +kernel) rfl
theorem mo_X7_1 : Cond.methodLink RX7 1 Lib.objectInit ∈ gw := mg 314 (by decide +kernel) rfl
theorem mo_X8_3 : Cond.methodLink RX8 3 Lib.objectInit ∈ gw := mg 75 (by decide +kernel) rfl
theorem mo_X9_3 : Cond.methodLink RX9 3 Lib.objectInit ∈ gw := mg 32 (by decide +kernel) rfl
theorem mo_X11_1 : Cond.methodLink RX11 1 Lib.objectInit ∈ gw := mg 892 (by decide +kernel) rfl
theorem ob_im : Cond.instanceMethod Lib.objectInit ∈ gw := mg 25 (by decide +kernel) rfl
theorem ob_co : Cond.code Lib.objectInit ⟨#[0xb1]⟩ 1 none ∈ gw := mg 26 (by decide +kernel) rfl
theorem ac_int : Cond.arrayClass .int ∈ gw := mg 68 (by decide +kernel) rfl
theorem ac_long : Cond.arrayClass .long ∈ gw := mg 69 (by decide +kernel) rfl
theorem ac_boolean : Cond.arrayClass .boolean ∈ gw := mg 1047 (by decide +kernel) rfl
def rm_X6_init : Room := { frames := 1, cells := 0, slots := 0, locals := 20 }
def rm_X5_init : Room := { frames := 1, cells := 0, slots := 0, locals := 20 }
def rm_X0_init : Room := { frames := 2, cells := 52, slots := 340, locals := 40 }
def rm_X0_hasThing : Room := { frames := 0, cells := 0, slots := 0, locals := 0 }
def rm_X0_hasThings : Room := { frames := 0, cells := 0, slots := 0, locals := 0 }
def rm_X0_hasSaying : Room := { frames := 0, cells := 0, slots := 0, locals := 0 }
def rm_X10_contains : Room := { frames := 0, cells := 0, slots := 0, locals := 0 }
def rm_J6_bitCount_0f7a4 : Room := { frames := 0, cells := 0, slots := 0, locals := 0 }
def rm_X0_isTold : Room := { frames := 1, cells := 0, slots := 0, locals := 21 }
def rm_X0_standing : Room := { frames := 2, cells := 0, slots := 0, locals := 45 }
def rm_X0_thingsThatAre : Room := { frames := 3, cells := 0, slots := 0, locals := 67 }
def rm_X0_sayingsWith : Room := { frames := 1, cells := 0, slots := 0, locals := 21 }
def rm_X0_personsWith : Room := { frames := 1, cells := 0, slots := 0, locals := 21 }
def rm_X0_deadThings : Room := { frames := 0, cells := 0, slots := 0, locals := 0 }
def rm_X0_canBeSaid : Room := { frames := 1, cells := 0, slots := 0, locals := 21 }
def rm_X0_countSaid : Room := { frames := 0, cells := 0, slots := 0, locals := 0 }
def rm_X0_outcomesBy : Room := { frames := 0, cells := 0, slots := 0, locals := 0 }
def rm_X0_lookedAtBy : Room := { frames := 0, cells := 0, slots := 0, locals := 0 }
def rm_X1_init : Room := { frames := 1, cells := 0, slots := 0, locals := 20 }
def rm_X3_alwaysFrom : Room := { frames := 0, cells := 0, slots := 0, locals := 0 }
def rm_X3_barredKinds : Room := { frames := 0, cells := 0, slots := 0, locals := 0 }
def rm_X3_isLikely : Room := { frames := 0, cells := 0, slots := 0, locals := 0 }
def rm_X3_barredWays : Room := { frames := 1, cells := 0, slots := 0, locals := 23 }
def rm_X1_open : Room := { frames := 2, cells := 0, slots := 0, locals := 46 }
def rm_X1_isAlways : Room := { frames := 0, cells := 0, slots := 0, locals := 0 }
def rm_X1_bar : Room := { frames := 1, cells := 0, slots := 0, locals := 21 }
def rm_X2_init : Room := { frames := 1, cells := 1, slots := 160, locals := 20 }
def rm_X2_append : Room := { frames := 0, cells := 0, slots := 0, locals := 0 }
def rm_X2_skipBlanks : Room := { frames := 0, cells := 0, slots := 0, locals := 0 }
def rm_X2_takeWord : Room := { frames := 4, cells := 0, slots := 0, locals := 85 }
def rm_X2_note : Room := { frames := 0, cells := 0, slots := 0, locals := 0 }
def rm_X2_refuseNinth : Room := { frames := 1, cells := 0, slots := 0, locals := 22 }
def rm_X10_within : Room := { frames := 0, cells := 0, slots := 0, locals := 0 }
def rm_X2_takeNumber : Room := { frames := 1, cells := 0, slots := 0, locals := 22 }
def rm_X3_add : Room := { frames := 0, cells := 0, slots := 0, locals := 0 }
def rm_X2_finish : Room := { frames := 1, cells := 0, slots := 0, locals := 24 }
def rm_X2_needWord : Room := { frames := 5, cells := 0, slots := 0, locals := 108 }
def rm_X2_readNever : Room := { frames := 6, cells := 0, slots := 0, locals := 129 }
def rm_X2_readClause : Room := { frames := 7, cells := 0, slots := 0, locals := 153 }
def rm_X2_parse : Room := { frames := 8, cells := 0, slots := 0, locals := 177 }
def rm_X3_init : Room := { frames := 1, cells := 4, slots := 32, locals := 20 }
def rm_X3_countsSayings : Room := { frames := 0, cells := 0, slots := 0, locals := 0 }
def rm_X3_saidWithin : Room := { frames := 1, cells := 0, slots := 0, locals := 21 }
def rm_X3_mostBars : Room := { frames := 2, cells := 0, slots := 0, locals := 45 }
def rm_X4_init : Room := { frames := 2, cells := 12, slots := 5147, locals := 40 }
def rm_X4_pick : Room := { frames := 3, cells := 0, slots := 0, locals := 67 }
def rm_X9_factor : Room := { frames := 0, cells := 0, slots := 0, locals := 0 }
def rm_X9_signFactor : Room := { frames := 1, cells := 0, slots := 0, locals := 21 }
def rm_X9_weigh : Room := { frames := 2, cells := 0, slots := 0, locals := 44 }
def rm_X9_allWeights : Room := { frames := 0, cells := 0, slots := 0, locals := 0 }
def rm_X9_moveOn : Room := { frames := 0, cells := 0, slots := 0, locals := 0 }
def rm_X9_lookAhead : Room := { frames := 3, cells := 0, slots := 0, locals := 73 }
def rm_X8_lossBy : Room := { frames := 0, cells := 0, slots := 0, locals := 0 }
def rm_X9_seamOdds : Room := { frames := 1, cells := 0, slots := 0, locals := 21 }
def rm_X6_isMust : Room := { frames := 0, cells := 0, slots := 0, locals := 0 }
def rm_X6_valueIn : Room := { frames := 1, cells := 0, slots := 0, locals := 21 }
def rm_X6_planValueIn : Room := { frames := 2, cells := 0, slots := 0, locals := 44 }
def rm_X4_priceSet : Room := { frames := 2, cells := 0, slots := 0, locals := 45 }
def rm_X4_price : Room := { frames := 3, cells := 0, slots := 0, locals := 73 }
def rm_X4_mostBarsAt : Room := { frames := 3, cells := 0, slots := 0, locals := 68 }
def rm_X4_nodeBehind : Room := { frames := 0, cells := 0, slots := 0, locals := 0 }
def rm_X4_total : Room := { frames := 0, cells := 0, slots := 0, locals := 0 }
def rm_X4_decide : Room := { frames := 1, cells := 0, slots := 0, locals := 22 }
def rm_X4_tell : Room := { frames := 4, cells := 0, slots := 0, locals := 94 }
def rm_X4_make : Room := { frames := 5, cells := 0, slots := 0, locals := 121 }
def rm_X7_init : Room := { frames := 1, cells := 0, slots := 0, locals := 20 }
def rm_X7_isLeft : Room := { frames := 1, cells := 0, slots := 0, locals := 21 }
def rm_X7_sayIn : Room := { frames := 2, cells := 0, slots := 0, locals := 43 }
def rm_X7_run : Room := { frames := 4, cells := 0, slots := 0, locals := 99 }
def rm_X8_init : Room := { frames := 1, cells := 6, slots := 24, locals := 20 }
def rm_X9_init : Room := { frames := 1, cells := 28, slots := 345, locals := 20 }
def rm_X9_fittingRows : Room := { frames := 3, cells := 0, slots := 0, locals := 73 }
def rm_X10_init : Room := { frames := 3, cells := 133, slots := 6320, locals := 63 }
def rm_X10_isState : Room := { frames := 1, cells := 0, slots := 0, locals := 22 }
def rm_X10_isOften : Room := { frames := 1, cells := 0, slots := 0, locals := 22 }
def rm_X10_exchange : Room := { frames := 0, cells := 0, slots := 0, locals := 0 }
def rm_X10_move : Room := { frames := 2, cells := 0, slots := 0, locals := 42 }
def rm_X10_shows : Room := { frames := 2, cells := 0, slots := 0, locals := 42 }
def rm_X10_begins : Room := { frames := 2, cells := 0, slots := 0, locals := 42 }
def rm_X10_seams : Room := { frames := 1, cells := 0, slots := 0, locals := 22 }
def rm_X10_isPerson : Room := { frames := 1, cells := 0, slots := 0, locals := 22 }
def rm_X10_sign : Room := { frames := 2, cells := 0, slots := 0, locals := 42 }
def rm_X10_go : Room := { frames := 1, cells := 0, slots := 0, locals := 22 }
def rm_X10_fits : Room := { frames := 4, cells := 0, slots := 0, locals := 95 }
def rm_X10_isAhead : Room := { frames := 1, cells := 0, slots := 0, locals := 22 }
def rm_X10_odds : Room := { frames := 4, cells := 0, slots := 0, locals := 99 }
def rm_X10_seam : Room := { frames := 4, cells := 0, slots := 0, locals := 99 }
def rm_X10_until : Room := { frames := 4, cells := 0, slots := 0, locals := 99 }
def rm_X10_thing : Room := { frames := 1, cells := 0, slots := 0, locals := 22 }
def rm_X10_dead : Room := { frames := 2, cells := 0, slots := 0, locals := 44 }
def rm_X10_told : Room := { frames := 3, cells := 0, slots := 0, locals := 67 }
def rm_X10_value : Room := { frames := 4, cells := 0, slots := 0, locals := 99 }
def rm_X10_isWay : Room := { frames := 1, cells := 0, slots := 0, locals := 22 }
def rm_X10_cost : Room := { frames := 2, cells := 0, slots := 0, locals := 42 }
def rm_X10_seen : Room := { frames := 2, cells := 0, slots := 0, locals := 42 }
def rm_X10_loss : Room := { frames := 4, cells := 0, slots := 0, locals := 99 }
def rm_X10_count : Room := { frames := 4, cells := 0, slots := 0, locals := 91 }
def rm_X10_feed : Room := { frames := 1, cells := 0, slots := 0, locals := 22 }
def rm_X10_read : Room := { frames := 9, cells := 0, slots := 0, locals := 199 }
def rm_X10_fault : Room := { frames := 0, cells := 0, slots := 0, locals := 0 }
def rm_X10_barNow : Room := { frames := 4, cells := 0, slots := 0, locals := 99 }
def rm_X10_barred : Room := { frames := 5, cells := 0, slots := 0, locals := 122 }
def rm_X10_plan : Room := { frames := 6, cells := 0, slots := 0, locals := 151 }
def rm_X10_say : Room := { frames := 5, cells := 0, slots := 0, locals := 122 }
def rm_X10_came : Room := { frames := 1, cells := 0, slots := 0, locals := 22 }
def rm_X10_saying : Room := { frames := 1, cells := 0, slots := 0, locals := 22 }
def rm_X10_choose : Room := { frames := 0, cells := 0, slots := 0, locals := 0 }
def rm_X10_commonPart : Room := { frames := 0, cells := 0, slots := 0, locals := 0 }
def rm_X10_chance : Room := { frames := 1, cells := 0, slots := 0, locals := 30 }
def rm_X10_learnt : Room := { frames := 2, cells := 0, slots := 0, locals := 60 }
def rm_X10_who : Room := { frames := 4, cells := 0, slots := 0, locals := 99 }
def rm_X10_tried : Room := { frames := 5, cells := 0, slots := 0, locals := 125 }
def rm_X11_init : Room := { frames := 1, cells := 40, slots := 30388, locals := 20 }
def rm_X11_in : Room := { frames := 0, cells := 0, slots := 0, locals := 0 }
def rm_X11_isState : Room := { frames := 1, cells := 0, slots := 0, locals := 25 }
def rm_X11_isPerson : Room := { frames := 1, cells := 0, slots := 0, locals := 25 }
def rm_X11_move : Room := { frames := 2, cells := 0, slots := 0, locals := 45 }
def rm_X11_shows : Room := { frames := 2, cells := 0, slots := 0, locals := 45 }
def rm_X11_begins : Room := { frames := 2, cells := 0, slots := 0, locals := 45 }
def rm_X11_seams : Room := { frames := 1, cells := 0, slots := 0, locals := 25 }
def rm_X11_sign : Room := { frames := 2, cells := 0, slots := 0, locals := 45 }
def rm_X11_go : Room := { frames := 1, cells := 0, slots := 0, locals := 25 }
def rm_X11_showsAt : Room := { frames := 0, cells := 0, slots := 0, locals := 0 }
def rm_X11_findRows : Room := { frames := 1, cells := 0, slots := 0, locals := 24 }
def rm_X11_findOdds : Room := { frames := 2, cells := 0, slots := 0, locals := 51 }
def rm_X11_seamOdds : Room := { frames := 3, cells := 0, slots := 0, locals := 80 }
def rm_X11_fits : Room := { frames := 2, cells := 0, slots := 0, locals := 51 }
def rm_X11_odds : Room := { frames := 3, cells := 0, slots := 0, locals := 80 }
def rm_X11_seam : Room := { frames := 4, cells := 0, slots := 0, locals := 105 }
def rm_X11_until : Room := { frames := 4, cells := 0, slots := 0, locals := 105 }
def rm_X11_isThing : Room := { frames := 1, cells := 0, slots := 0, locals := 25 }
def rm_X11_isMust : Room := { frames := 0, cells := 0, slots := 0, locals := 0 }
def rm_X11_thing : Room := { frames := 1, cells := 0, slots := 0, locals := 25 }
def rm_X11_sayingsOf : Room := { frames := 0, cells := 0, slots := 0, locals := 0 }
def rm_X11_dead : Room := { frames := 2, cells := 0, slots := 0, locals := 46 }
def rm_X11_isTold : Room := { frames := 0, cells := 0, slots := 0, locals := 0 }
def rm_X11_stateOf : Room := { frames := 1, cells := 0, slots := 0, locals := 25 }
def rm_X11_told : Room := { frames := 2, cells := 0, slots := 0, locals := 46 }
def rm_X11_valueOf : Room := { frames := 4, cells := 0, slots := 0, locals := 105 }
def rm_X11_value : Room := { frames := 5, cells := 0, slots := 0, locals := 130 }
def rm_X11_isWay : Room := { frames := 1, cells := 0, slots := 0, locals := 25 }
def rm_X11_cost : Room := { frames := 2, cells := 0, slots := 0, locals := 45 }
def rm_X11_seen : Room := { frames := 2, cells := 0, slots := 0, locals := 45 }
def rm_X11_lossOf : Room := { frames := 3, cells := 0, slots := 0, locals := 80 }
def rm_X11_loss : Room := { frames := 4, cells := 0, slots := 0, locals := 106 }
def rm_X11_thingsThat : Room := { frames := 2, cells := 0, slots := 0, locals := 46 }
def rm_X11_count : Room := { frames := 3, cells := 0, slots := 0, locals := 69 }
def rm_X11_feed : Room := { frames := 1, cells := 0, slots := 0, locals := 25 }
def rm_X11_here : Room := { frames := 0, cells := 0, slots := 0, locals := 0 }
def rm_X11_fails : Room := { frames := 0, cells := 0, slots := 0, locals := 0 }
def rm_X11_readWord : Room := { frames := 1, cells := 0, slots := 0, locals := 25 }
def rm_X11_code : Room := { frames := 0, cells := 0, slots := 0, locals := 0 }
def rm_X11_needs : Room := { frames := 2, cells := 0, slots := 0, locals := 46 }
def rm_X11_readNumber : Room := { frames := 1, cells := 0, slots := 0, locals := 25 }
def rm_X11_readWay : Room := { frames := 3, cells := 0, slots := 0, locals := 68 }
def rm_X11_readNever : Room := { frames := 4, cells := 0, slots := 0, locals := 90 }
def rm_X11_readMost : Room := { frames := 3, cells := 0, slots := 0, locals := 68 }
def rm_X11_readAlways : Room := { frames := 3, cells := 0, slots := 0, locals := 68 }
def rm_X11_readClause : Room := { frames := 5, cells := 0, slots := 0, locals := 113 }
def rm_X11_read : Room := { frames := 6, cells := 0, slots := 0, locals := 136 }
def rm_X11_fault : Room := { frames := 0, cells := 0, slots := 0, locals := 0 }
def rm_X11_isAlways : Room := { frames := 0, cells := 0, slots := 0, locals := 0 }
def rm_X11_areAlways : Room := { frames := 1, cells := 0, slots := 0, locals := 24 }
def rm_X11_isWayBarred : Room := { frames := 3, cells := 0, slots := 0, locals := 80 }
def rm_X11_isKindBarred : Room := { frames := 1, cells := 0, slots := 0, locals := 24 }
def rm_X11_areMost : Room := { frames := 1, cells := 0, slots := 0, locals := 25 }
def rm_X11_barring : Room := { frames := 4, cells := 0, slots := 0, locals := 106 }
def rm_X11_areThings : Room := { frames := 1, cells := 0, slots := 0, locals := 25 }
def rm_X11_barred : Room := { frames := 5, cells := 0, slots := 0, locals := 132 }
def rm_X11_setOf : Room := { frames := 0, cells := 0, slots := 0, locals := 0 }
def rm_X11_isOneMatter : Room := { frames := 0, cells := 0, slots := 0, locals := 0 }
def rm_X11_findGain : Room := { frames := 5, cells := 0, slots := 0, locals := 130 }
def rm_X11_place : Room := { frames := 0, cells := 0, slots := 0, locals := 0 }
def rm_X11_by : Room := { frames := 2, cells := 0, slots := 0, locals := 53 }
def rm_X11_findPlans : Room := { frames := 6, cells := 0, slots := 0, locals := 159 }
def rm_X11_plan : Room := { frames := 7, cells := 0, slots := 0, locals := 188 }
def rm_X11_deadOf : Room := { frames := 0, cells := 0, slots := 0, locals := 0 }
def rm_X11_areFor : Room := { frames := 0, cells := 0, slots := 0, locals := 0 }
def rm_X11_say : Room := { frames := 5, cells := 0, slots := 0, locals := 132 }
def rm_X11_isSaying : Room := { frames := 1, cells := 0, slots := 0, locals := 25 }
def rm_X11_came : Room := { frames := 2, cells := 0, slots := 0, locals := 46 }
def rm_X11_saying : Room := { frames := 2, cells := 0, slots := 0, locals := 46 }
def rm_X11_cameOf : Room := { frames := 0, cells := 0, slots := 0, locals := 0 }
def rm_X11_choose : Room := { frames := 0, cells := 0, slots := 0, locals := 0 }
def rm_X11_gcd : Room := { frames := 0, cells := 0, slots := 0, locals := 0 }
def rm_X11_learnt : Room := { frames := 2, cells := 0, slots := 0, locals := 45 }
def rm_X11_who : Room := { frames := 4, cells := 0, slots := 0, locals := 105 }
def rm_X11_tried : Room := { frames := 4, cells := 0, slots := 0, locals := 106 }
