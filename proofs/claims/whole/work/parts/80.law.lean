set_option maxRecDepth 100000 in
set_option maxHeartbeats 40000000 in
theorem L_law_L18_ok {G : GL} {X : CX} {b nx : Nat} {xs : Nat → Int32} (C : Ctx G X cL_law 4 RLw room_1) (hX : SX G X b nx xs) {μ9 : Mem} (hret : ∀ (pc : Nat) (L : List (Nat × Value)), decode cL_law pc = .ok (.ireturn, 1) → AW G 4 X 175 36770 pc L [.int 1] μ9) (a1 : Nat) (a2 : Nat) : ∀ (n : Nat) (x3 : Int32) (μ : Mem), L_law_L18 xs nx a1 a2 n x3 μ = some (1, μ9) → AW G 4 X 175 36770 18 [(0, .ref b), (1, .ref (gZ G + a1)), (2, .ref (gZ G + a2)), (3, .int x3)] [] μ := by
  intro n
  induction n with
  | zero =>
    intro x3 μ h
    rw [L_law_L18] at h
    cases h
  | succ n ih =>
    intro x3 μ h
    rw [L_law_L18] at h
    refine aw_iload_n C 3 dL_law_18 rfl rfl ?_
    refine aw_aload_n C 0 dL_law_19 rfl rfl ?_
    refine aw_xl C hX dL_law_20 ?_
    refine aw_bipush C 8 dL_law_21 (by decide) ?_
    refine aw_isub C dL_law_23 ?_
    refine aw_icmp_gt C 1271 dL_law_24 (by decide) (fun c1 => ?_) (fun c1 => ?_)
    · rw [if_pos c1] at h
      refine aw_iconst C 1 dL_law_1271 (by decide) ?_
      have e9 := (inj2 h).2
      subst e9
      exact hret _ _ dL_law_1272
    · rw [if_neg c1] at h
      refine aw_aload_n C 0 dL_law_27 rfl rfl ?_
      refine aw_iload_n C 3 dL_law_28 rfl rfl ?_
      obtain ⟨v2, hv2, h⟩ := bindE h
      refine aw_xs C hX hv2 dL_law_29 ?_
      refine aw_bipush C 31 dL_law_30 (by decide) ?_
      refine aw_iand C dL_law_32 ?_
      by_cases c3 : (v2 &&& 31) = Int32.ofNat 0
      · rw [if_pos c3] at h
        refine aw_tin C (0) 164 c3 dL_law_33 (by decide) (by decide) rfl (by decide) ?_
        refine aw_aload_n C 1 dL_law_164 rfl rfl ?_
        refine aw_aload_n C 0 dL_law_165 rfl rfl ?_
        refine aw_iload_n C 3 dL_law_166 rfl rfl ?_
        refine aw_iconst C 1 dL_law_167 (by decide) ?_
        refine aw_iadd C dL_law_168 ?_
        obtain ⟨v4, hv4, h⟩ := bindE h
        refine aw_xs C hX hv4 dL_law_169 ?_
        refine aw_aload_n C 0 dL_law_170 rfl rfl ?_
        refine aw_iload_n C 3 dL_law_171 rfl rfl ?_
        refine aw_iconst C 2 dL_law_172 (by decide) ?_
        refine aw_iadd C dL_law_173 ?_
        obtain ⟨v5, hv5, h⟩ := bindE h
        refine aw_xs C hX hv5 dL_law_174 ?_
        refine aw_aload_n C 0 dL_law_175 rfl rfl ?_
        refine aw_iload_n C 3 dL_law_176 rfl rfl ?_
        refine aw_iconst C 3 dL_law_177 (by decide) ?_
        refine aw_iadd C dL_law_178 ?_
        obtain ⟨v6, hv6, h⟩ := bindE h
        refine aw_xs C hX hv6 dL_law_179 ?_
        obtain ⟨g7, hg7, h⟩ := bindE h
        obtain ⟨z8, hz8, h⟩ := bindE h
        refine aw_cV_I C [.int v4, .int v5, .int v6] _ (mt_X10_move hz8) cs_X10_move ml_L_13 im_X10_move se_X10_move (ci := 10) rfl rfl hg7 ⟨by decide, by decide⟩ ⟨rfl, rfl⟩ ⟨by decide, by decide⟩ rfl rfl (Nat.le_of_ble_eq_true rfl) dL_law_180 ?_
        refine aw_aload_n C 2 dL_law_183 rfl rfl ?_
        refine aw_aload_n C 0 dL_law_184 rfl rfl ?_
        refine aw_iload_n C 3 dL_law_185 rfl rfl ?_
        refine aw_iconst C 1 dL_law_186 (by decide) ?_
        refine aw_iadd C dL_law_187 ?_
        obtain ⟨v9, hv9, h⟩ := bindE h
        refine aw_xs C hX hv9 dL_law_188 ?_
        refine aw_aload_n C 0 dL_law_189 rfl rfl ?_
        refine aw_iload_n C 3 dL_law_190 rfl rfl ?_
        refine aw_iconst C 2 dL_law_191 (by decide) ?_
        refine aw_iadd C dL_law_192 ?_
        obtain ⟨v10, hv10, h⟩ := bindE h
        refine aw_xs C hX hv10 dL_law_193 ?_
        refine aw_aload_n C 0 dL_law_194 rfl rfl ?_
        refine aw_iload_n C 3 dL_law_195 rfl rfl ?_
        refine aw_iconst C 3 dL_law_196 (by decide) ?_
        refine aw_iadd C dL_law_197 ?_
        obtain ⟨v11, hv11, h⟩ := bindE h
        refine aw_xs C hX hv11 dL_law_198 ?_
        obtain ⟨g12, hg12, h⟩ := bindE h
        obtain ⟨z13, hz13, h⟩ := bindE h
        refine aw_cV_I C [.int v9, .int v10, .int v11] _ (mt_X11_move hz13) cs_X11_move ml_L_17 im_X11_move se_X11_move (ci := 11) rfl rfl hg12 ⟨by decide, by decide⟩ ⟨rfl, rfl⟩ ⟨by decide, by decide⟩ rfl rfl (Nat.le_of_ble_eq_true rfl) dL_law_199 ?_
        refine aw_icmp_eq C 1265 dL_law_202 (by decide) (fun c14 => ?_) (fun c14 => ?_)
        · rw [if_pos c14] at h
          refine aw_iinc C (x3 + 8) 3 [(3, .int (x3 + 8)), (0, .ref b), (1, .ref (gZ G + a1)), (2, .ref (gZ G + a2))] dL_law_1265 rfl rfl (by decide) rfl ?_
          refine aw_goto C 18 dL_law_1268 (by decide) ?_
          exact aw_sub [1, 2, 3, 0] rfl (ih _ _ h)
        · rw [if_neg c14] at h
          refine aw_iconst C 0 dL_law_205 (by decide) ?_
          exact absurd (inj2 h).1 (by decide)
      · rw [if_neg c3] at h
        by_cases c15 : (v2 &&& 31) = Int32.ofNat 1
        · rw [if_pos c15] at h
          refine aw_tin C (1) 207 c15 dL_law_33 (by decide) (by decide) rfl (by decide) ?_
          refine aw_aload_n C 1 dL_law_207 rfl rfl ?_
          refine aw_aload_n C 0 dL_law_208 rfl rfl ?_
          refine aw_iload_n C 3 dL_law_209 rfl rfl ?_
          refine aw_iconst C 1 dL_law_210 (by decide) ?_
          refine aw_iadd C dL_law_211 ?_
          obtain ⟨v16, hv16, h⟩ := bindE h
          refine aw_xs C hX hv16 dL_law_212 ?_
          refine aw_aload_n C 0 dL_law_213 rfl rfl ?_
          refine aw_iload_n C 3 dL_law_214 rfl rfl ?_
          refine aw_iconst C 2 dL_law_215 (by decide) ?_
          refine aw_iadd C dL_law_216 ?_
          obtain ⟨v17, hv17, h⟩ := bindE h
          refine aw_xs C hX hv17 dL_law_217 ?_
          refine aw_aload_n C 0 dL_law_218 rfl rfl ?_
          refine aw_iload_n C 3 dL_law_219 rfl rfl ?_
          refine aw_iconst C 3 dL_law_220 (by decide) ?_
          refine aw_iadd C dL_law_221 ?_
          obtain ⟨v18, hv18, h⟩ := bindE h
          refine aw_xs C hX hv18 dL_law_222 ?_
          obtain ⟨g19, hg19, h⟩ := bindE h
          obtain ⟨z20, hz20, h⟩ := bindE h
          refine aw_cV_I C [.int v16, .int v17, .int v18] _ (mt_X10_shows hz20) cs_X10_shows ml_L_18 im_X10_shows se_X10_shows (ci := 10) rfl rfl hg19 ⟨by decide, by decide⟩ ⟨rfl, rfl⟩ ⟨by decide, by decide⟩ rfl rfl (Nat.le_of_ble_eq_true rfl) dL_law_223 ?_
          refine aw_aload_n C 2 dL_law_226 rfl rfl ?_
          refine aw_aload_n C 0 dL_law_227 rfl rfl ?_
          refine aw_iload_n C 3 dL_law_228 rfl rfl ?_
          refine aw_iconst C 1 dL_law_229 (by decide) ?_
          refine aw_iadd C dL_law_230 ?_
          obtain ⟨v21, hv21, h⟩ := bindE h
          refine aw_xs C hX hv21 dL_law_231 ?_
          refine aw_aload_n C 0 dL_law_232 rfl rfl ?_
          refine aw_iload_n C 3 dL_law_233 rfl rfl ?_
          refine aw_iconst C 2 dL_law_234 (by decide) ?_
          refine aw_iadd C dL_law_235 ?_
          obtain ⟨v22, hv22, h⟩ := bindE h
          refine aw_xs C hX hv22 dL_law_236 ?_
          refine aw_aload_n C 0 dL_law_237 rfl rfl ?_
          refine aw_iload_n C 3 dL_law_238 rfl rfl ?_
          refine aw_iconst C 3 dL_law_239 (by decide) ?_
          refine aw_iadd C dL_law_240 ?_
          obtain ⟨v23, hv23, h⟩ := bindE h
          refine aw_xs C hX hv23 dL_law_241 ?_
          obtain ⟨g24, hg24, h⟩ := bindE h
          obtain ⟨z25, hz25, h⟩ := bindE h
          refine aw_cV_I C [.int v21, .int v22, .int v23] _ (mt_X11_shows hz25) cs_X11_shows ml_L_21 im_X11_shows se_X11_shows (ci := 11) rfl rfl hg24 ⟨by decide, by decide⟩ ⟨rfl, rfl⟩ ⟨by decide, by decide⟩ rfl rfl (Nat.le_of_ble_eq_true rfl) dL_law_242 ?_
          refine aw_icmp_eq C 1265 dL_law_245 (by decide) (fun c26 => ?_) (fun c26 => ?_)
          · rw [if_pos c26] at h
            refine aw_iinc C (x3 + 8) 3 [(3, .int (x3 + 8)), (0, .ref b), (1, .ref (gZ G + a1)), (2, .ref (gZ G + a2))] dL_law_1265 rfl rfl (by decide) rfl ?_
            refine aw_goto C 18 dL_law_1268 (by decide) ?_
            exact aw_sub [1, 2, 3, 0] rfl (ih _ _ h)
          · rw [if_neg c26] at h
            refine aw_iconst C 0 dL_law_248 (by decide) ?_
            exact absurd (inj2 h).1 (by decide)
        · rw [if_neg c15] at h
          by_cases c27 : (v2 &&& 31) = Int32.ofNat 2
          · rw [if_pos c27] at h
            refine aw_tin C (2) 250 c27 dL_law_33 (by decide) (by decide) rfl (by decide) ?_
            refine aw_aload_n C 1 dL_law_250 rfl rfl ?_
            refine aw_aload_n C 0 dL_law_251 rfl rfl ?_
            refine aw_iload_n C 3 dL_law_252 rfl rfl ?_
            refine aw_iconst C 1 dL_law_253 (by decide) ?_
            refine aw_iadd C dL_law_254 ?_
            obtain ⟨v28, hv28, h⟩ := bindE h
            refine aw_xs C hX hv28 dL_law_255 ?_
            refine aw_aload_n C 0 dL_law_256 rfl rfl ?_
            refine aw_iload_n C 3 dL_law_257 rfl rfl ?_
            refine aw_iconst C 2 dL_law_258 (by decide) ?_
            refine aw_iadd C dL_law_259 ?_
            obtain ⟨v29, hv29, h⟩ := bindE h
            refine aw_xs C hX hv29 dL_law_260 ?_
            obtain ⟨g30, hg30, h⟩ := bindE h
            obtain ⟨z31, hz31, h⟩ := bindE h
            refine aw_cV_I C [.int v28, .int v29] _ (mt_X10_begins hz31) cs_X10_begins ml_L_22 im_X10_begins se_X10_begins (ci := 10) rfl rfl hg30 ⟨by decide, by decide⟩ ⟨rfl, rfl⟩ ⟨by decide, by decide⟩ rfl rfl (Nat.le_of_ble_eq_true rfl) dL_law_261 ?_
            refine aw_aload_n C 2 dL_law_264 rfl rfl ?_
            refine aw_aload_n C 0 dL_law_265 rfl rfl ?_
            refine aw_iload_n C 3 dL_law_266 rfl rfl ?_
            refine aw_iconst C 1 dL_law_267 (by decide) ?_
            refine aw_iadd C dL_law_268 ?_
            obtain ⟨v32, hv32, h⟩ := bindE h
            refine aw_xs C hX hv32 dL_law_269 ?_
            refine aw_aload_n C 0 dL_law_270 rfl rfl ?_
            refine aw_iload_n C 3 dL_law_271 rfl rfl ?_
            refine aw_iconst C 2 dL_law_272 (by decide) ?_
            refine aw_iadd C dL_law_273 ?_
            obtain ⟨v33, hv33, h⟩ := bindE h
            refine aw_xs C hX hv33 dL_law_274 ?_
            obtain ⟨g34, hg34, h⟩ := bindE h
            obtain ⟨z35, hz35, h⟩ := bindE h
            refine aw_cV_I C [.int v32, .int v33] _ (mt_X11_begins hz35) cs_X11_begins ml_L_26 im_X11_begins se_X11_begins (ci := 11) rfl rfl hg34 ⟨by decide, by decide⟩ ⟨rfl, rfl⟩ ⟨by decide, by decide⟩ rfl rfl (Nat.le_of_ble_eq_true rfl) dL_law_275 ?_
            refine aw_icmp_eq C 1265 dL_law_278 (by decide) (fun c36 => ?_) (fun c36 => ?_)
            · rw [if_pos c36] at h
              refine aw_iinc C (x3 + 8) 3 [(3, .int (x3 + 8)), (0, .ref b), (1, .ref (gZ G + a1)), (2, .ref (gZ G + a2))] dL_law_1265 rfl rfl (by decide) rfl ?_
              refine aw_goto C 18 dL_law_1268 (by decide) ?_
              exact aw_sub [1, 2, 3, 0] rfl (ih _ _ h)
            · rw [if_neg c36] at h
              refine aw_iconst C 0 dL_law_281 (by decide) ?_
              exact absurd (inj2 h).1 (by decide)
          · rw [if_neg c27] at h
            by_cases c37 : (v2 &&& 31) = Int32.ofNat 3
            · rw [if_pos c37] at h
              refine aw_tin C (3) 283 c37 dL_law_33 (by decide) (by decide) rfl (by decide) ?_
              refine aw_aload_n C 1 dL_law_283 rfl rfl ?_
              refine aw_aload_n C 0 dL_law_284 rfl rfl ?_
              refine aw_iload_n C 3 dL_law_285 rfl rfl ?_
              refine aw_iconst C 1 dL_law_286 (by decide) ?_
              refine aw_iadd C dL_law_287 ?_
              obtain ⟨v38, hv38, h⟩ := bindE h
              refine aw_xs C hX hv38 dL_law_288 ?_
              obtain ⟨g39, hg39, h⟩ := bindE h
              obtain ⟨z40, hz40, h⟩ := bindE h
              refine aw_cV_I C [.int v38] _ (mt_X10_seams hz40) cs_X10_seams ml_L_27 im_X10_seams se_X10_seams (ci := 10) rfl rfl hg39 ⟨by decide, by decide⟩ ⟨rfl, rfl⟩ ⟨by decide, by decide⟩ rfl rfl (Nat.le_of_ble_eq_true rfl) dL_law_289 ?_
              refine aw_aload_n C 2 dL_law_292 rfl rfl ?_
              refine aw_aload_n C 0 dL_law_293 rfl rfl ?_
              refine aw_iload_n C 3 dL_law_294 rfl rfl ?_
              refine aw_iconst C 1 dL_law_295 (by decide) ?_
              refine aw_iadd C dL_law_296 ?_
              obtain ⟨v41, hv41, h⟩ := bindE h
              refine aw_xs C hX hv41 dL_law_297 ?_
              obtain ⟨g42, hg42, h⟩ := bindE h
              obtain ⟨z43, hz43, h⟩ := bindE h
              refine aw_cV_I C [.int v41] _ (mt_X11_seams hz43) cs_X11_seams ml_L_31 im_X11_seams se_X11_seams (ci := 11) rfl rfl hg42 ⟨by decide, by decide⟩ ⟨rfl, rfl⟩ ⟨by decide, by decide⟩ rfl rfl (Nat.le_of_ble_eq_true rfl) dL_law_298 ?_
              refine aw_icmp_eq C 1265 dL_law_301 (by decide) (fun c44 => ?_) (fun c44 => ?_)
              · rw [if_pos c44] at h
                refine aw_iinc C (x3 + 8) 3 [(3, .int (x3 + 8)), (0, .ref b), (1, .ref (gZ G + a1)), (2, .ref (gZ G + a2))] dL_law_1265 rfl rfl (by decide) rfl ?_
                refine aw_goto C 18 dL_law_1268 (by decide) ?_
                exact aw_sub [1, 2, 3, 0] rfl (ih _ _ h)
              · rw [if_neg c44] at h
                refine aw_iconst C 0 dL_law_304 (by decide) ?_
                exact absurd (inj2 h).1 (by decide)
            · rw [if_neg c37] at h
              by_cases c45 : (v2 &&& 31) = Int32.ofNat 4
              · rw [if_pos c45] at h
                refine aw_tin C (4) 306 c45 dL_law_33 (by decide) (by decide) rfl (by decide) ?_
                refine aw_aload_n C 1 dL_law_306 rfl rfl ?_
                refine aw_aload_n C 0 dL_law_307 rfl rfl ?_
                refine aw_iload_n C 3 dL_law_308 rfl rfl ?_
                refine aw_iconst C 1 dL_law_309 (by decide) ?_
                refine aw_iadd C dL_law_310 ?_
                obtain ⟨v46, hv46, h⟩ := bindE h
                refine aw_xs C hX hv46 dL_law_311 ?_
                refine aw_aload_n C 0 dL_law_312 rfl rfl ?_
                refine aw_iload_n C 3 dL_law_313 rfl rfl ?_
                refine aw_iconst C 2 dL_law_314 (by decide) ?_
                refine aw_iadd C dL_law_315 ?_
                obtain ⟨v47, hv47, h⟩ := bindE h
                refine aw_xs C hX hv47 dL_law_316 ?_
                obtain ⟨g48, hg48, h⟩ := bindE h
                obtain ⟨z49, hz49, h⟩ := bindE h
                refine aw_cV_I C [.int v46, .int v47] _ (mt_X10_sign hz49) cs_X10_sign ml_L_32 im_X10_sign se_X10_sign (ci := 10) rfl rfl hg48 ⟨by decide, by decide⟩ ⟨rfl, rfl⟩ ⟨by decide, by decide⟩ rfl rfl (Nat.le_of_ble_eq_true rfl) dL_law_317 ?_
                refine aw_aload_n C 2 dL_law_320 rfl rfl ?_
                refine aw_aload_n C 0 dL_law_321 rfl rfl ?_
                refine aw_iload_n C 3 dL_law_322 rfl rfl ?_
                refine aw_iconst C 1 dL_law_323 (by decide) ?_
                refine aw_iadd C dL_law_324 ?_
                obtain ⟨v50, hv50, h⟩ := bindE h
                refine aw_xs C hX hv50 dL_law_325 ?_
                refine aw_aload_n C 0 dL_law_326 rfl rfl ?_
                refine aw_iload_n C 3 dL_law_327 rfl rfl ?_
                refine aw_iconst C 2 dL_law_328 (by decide) ?_
                refine aw_iadd C dL_law_329 ?_
                obtain ⟨v51, hv51, h⟩ := bindE h
                refine aw_xs C hX hv51 dL_law_330 ?_
                obtain ⟨g52, hg52, h⟩ := bindE h
                obtain ⟨z53, hz53, h⟩ := bindE h
                refine aw_cV_I C [.int v50, .int v51] _ (mt_X11_sign hz53) cs_X11_sign ml_L_35 im_X11_sign se_X11_sign (ci := 11) rfl rfl hg52 ⟨by decide, by decide⟩ ⟨rfl, rfl⟩ ⟨by decide, by decide⟩ rfl rfl (Nat.le_of_ble_eq_true rfl) dL_law_331 ?_
                refine aw_icmp_eq C 1265 dL_law_334 (by decide) (fun c54 => ?_) (fun c54 => ?_)
                · rw [if_pos c54] at h
                  refine aw_iinc C (x3 + 8) 3 [(3, .int (x3 + 8)), (0, .ref b), (1, .ref (gZ G + a1)), (2, .ref (gZ G + a2))] dL_law_1265 rfl rfl (by decide) rfl ?_
                  refine aw_goto C 18 dL_law_1268 (by decide) ?_
                  exact aw_sub [1, 2, 3, 0] rfl (ih _ _ h)
                · rw [if_neg c54] at h
                  refine aw_iconst C 0 dL_law_337 (by decide) ?_
                  exact absurd (inj2 h).1 (by decide)
              · rw [if_neg c45] at h
                by_cases c55 : (v2 &&& 31) = Int32.ofNat 5
                · rw [if_pos c55] at h
                  refine aw_tin C (5) 339 c55 dL_law_33 (by decide) (by decide) rfl (by decide) ?_
                  refine aw_aload_n C 1 dL_law_339 rfl rfl ?_
                  refine aw_aload_n C 0 dL_law_340 rfl rfl ?_
                  refine aw_iload_n C 3 dL_law_341 rfl rfl ?_
                  refine aw_iconst C 1 dL_law_342 (by decide) ?_
                  refine aw_iadd C dL_law_343 ?_
                  obtain ⟨v56, hv56, h⟩ := bindE h
                  refine aw_xs C hX hv56 dL_law_344 ?_
                  obtain ⟨g57, hg57, h⟩ := bindE h
                  obtain ⟨z58, hz58, h⟩ := bindE h
                  refine aw_cV_I C [.int v56] _ (mt_X10_go hz58) cs_X10_go ml_L_36 im_X10_go se_X10_go (ci := 10) rfl rfl hg57 ⟨by decide, by decide⟩ ⟨rfl, rfl⟩ ⟨by decide, by decide⟩ rfl rfl (Nat.le_of_ble_eq_true rfl) dL_law_345 ?_
                  refine aw_aload_n C 2 dL_law_348 rfl rfl ?_
                  refine aw_aload_n C 0 dL_law_349 rfl rfl ?_
                  refine aw_iload_n C 3 dL_law_350 rfl rfl ?_
                  refine aw_iconst C 1 dL_law_351 (by decide) ?_
                  refine aw_iadd C dL_law_352 ?_
                  obtain ⟨v59, hv59, h⟩ := bindE h
                  refine aw_xs C hX hv59 dL_law_353 ?_
                  obtain ⟨g60, hg60, h⟩ := bindE h
                  obtain ⟨z61, hz61, h⟩ := bindE h
                  refine aw_cV_I C [.int v59] _ (mt_X11_go hz61) cs_X11_go ml_L_39 im_X11_go se_X11_go (ci := 11) rfl rfl hg60 ⟨by decide, by decide⟩ ⟨rfl, rfl⟩ ⟨by decide, by decide⟩ rfl rfl (Nat.le_of_ble_eq_true rfl) dL_law_354 ?_
                  refine aw_icmp_eq C 1265 dL_law_357 (by decide) (fun c62 => ?_) (fun c62 => ?_)
                  · rw [if_pos c62] at h
                    refine aw_iinc C (x3 + 8) 3 [(3, .int (x3 + 8)), (0, .ref b), (1, .ref (gZ G + a1)), (2, .ref (gZ G + a2))] dL_law_1265 rfl rfl (by decide) rfl ?_
                    refine aw_goto C 18 dL_law_1268 (by decide) ?_
                    exact aw_sub [1, 2, 3, 0] rfl (ih _ _ h)
                  · rw [if_neg c62] at h
                    refine aw_iconst C 0 dL_law_360 (by decide) ?_
                    exact absurd (inj2 h).1 (by decide)
                · rw [if_neg c55] at h
                  by_cases c63 : (v2 &&& 31) = Int32.ofNat 6
                  · rw [if_pos c63] at h
                    refine aw_tin C (6) 362 c63 dL_law_33 (by decide) (by decide) rfl (by decide) ?_
                    refine aw_aload_n C 1 dL_law_362 rfl rfl ?_
                    refine aw_aload_n C 0 dL_law_363 rfl rfl ?_
                    refine aw_iload_n C 3 dL_law_364 rfl rfl ?_
                    refine aw_iconst C 1 dL_law_365 (by decide) ?_
                    refine aw_iadd C dL_law_366 ?_
                    obtain ⟨v64, hv64, h⟩ := bindE h
                    refine aw_xs C hX hv64 dL_law_367 ?_
                    refine aw_aload_n C 0 dL_law_368 rfl rfl ?_
                    refine aw_iload_n C 3 dL_law_369 rfl rfl ?_
                    refine aw_iconst C 2 dL_law_370 (by decide) ?_
                    refine aw_iadd C dL_law_371 ?_
                    obtain ⟨v65, hv65, h⟩ := bindE h
                    refine aw_xs C hX hv65 dL_law_372 ?_
                    obtain ⟨g66, hg66, h⟩ := bindE h
                    obtain ⟨z67, hz67, h⟩ := bindE h
                    refine aw_cV_I C [.int v64, .int v65] _ (mt_X10_fits hz67) cs_X10_fits ml_L_40 im_X10_fits se_X10_fits (ci := 10) rfl rfl hg66 ⟨by decide, by decide⟩ ⟨rfl, rfl⟩ ⟨by decide, by decide⟩ rfl rfl (Nat.le_of_ble_eq_true rfl) dL_law_373 ?_
                    refine aw_aload_n C 2 dL_law_376 rfl rfl ?_
                    refine aw_aload_n C 0 dL_law_377 rfl rfl ?_
                    refine aw_iload_n C 3 dL_law_378 rfl rfl ?_
                    refine aw_iconst C 1 dL_law_379 (by decide) ?_
                    refine aw_iadd C dL_law_380 ?_
                    obtain ⟨v68, hv68, h⟩ := bindE h
                    refine aw_xs C hX hv68 dL_law_381 ?_
                    refine aw_aload_n C 0 dL_law_382 rfl rfl ?_
                    refine aw_iload_n C 3 dL_law_383 rfl rfl ?_
                    refine aw_iconst C 2 dL_law_384 (by decide) ?_
                    refine aw_iadd C dL_law_385 ?_
                    obtain ⟨v69, hv69, h⟩ := bindE h
                    refine aw_xs C hX hv69 dL_law_386 ?_
                    obtain ⟨g70, hg70, h⟩ := bindE h
                    obtain ⟨z71, hz71, h⟩ := bindE h
                    refine aw_cV_I C [.int v68, .int v69] _ (mt_X11_fits hz71) cs_X11_fits ml_L_43 im_X11_fits se_X11_fits (ci := 11) rfl rfl hg70 ⟨by decide, by decide⟩ ⟨rfl, rfl⟩ ⟨by decide, by decide⟩ rfl rfl (Nat.le_of_ble_eq_true rfl) dL_law_387 ?_
                    refine aw_icmp_eq C 1265 dL_law_390 (by decide) (fun c72 => ?_) (fun c72 => ?_)
                    · rw [if_pos c72] at h
                      refine aw_iinc C (x3 + 8) 3 [(3, .int (x3 + 8)), (0, .ref b), (1, .ref (gZ G + a1)), (2, .ref (gZ G + a2))] dL_law_1265 rfl rfl (by decide) rfl ?_
                      refine aw_goto C 18 dL_law_1268 (by decide) ?_
                      exact aw_sub [1, 2, 3, 0] rfl (ih _ _ h)
                    · rw [if_neg c72] at h
                      refine aw_iconst C 0 dL_law_393 (by decide) ?_
                      exact absurd (inj2 h).1 (by decide)
                  · rw [if_neg c63] at h
                    by_cases c73 : (v2 &&& 31) = Int32.ofNat 7
                    · rw [if_pos c73] at h
                      refine aw_tin C (7) 395 c73 dL_law_33 (by decide) (by decide) rfl (by decide) ?_
                      refine aw_aload_n C 1 dL_law_395 rfl rfl ?_
                      refine aw_aload_n C 0 dL_law_396 rfl rfl ?_
                      refine aw_iload_n C 3 dL_law_397 rfl rfl ?_
                      refine aw_iconst C 1 dL_law_398 (by decide) ?_
                      refine aw_iadd C dL_law_399 ?_
                      obtain ⟨v74, hv74, h⟩ := bindE h
                      refine aw_xs C hX hv74 dL_law_400 ?_
                      refine aw_aload_n C 0 dL_law_401 rfl rfl ?_
                      refine aw_iload_n C 3 dL_law_402 rfl rfl ?_
                      refine aw_iconst C 2 dL_law_403 (by decide) ?_
                      refine aw_iadd C dL_law_404 ?_
                      obtain ⟨v75, hv75, h⟩ := bindE h
                      refine aw_xs C hX hv75 dL_law_405 ?_
                      refine aw_aload_n C 0 dL_law_406 rfl rfl ?_
                      refine aw_iload_n C 3 dL_law_407 rfl rfl ?_
                      refine aw_iconst C 3 dL_law_408 (by decide) ?_
                      refine aw_iadd C dL_law_409 ?_
                      obtain ⟨v76, hv76, h⟩ := bindE h
                      refine aw_xs C hX hv76 dL_law_410 ?_
                      obtain ⟨g77, hg77, h⟩ := bindE h
                      obtain ⟨z78, hz78, h⟩ := bindE h
                      refine aw_cV_I C [.int v74, .int v75, .int v76] _ (mt_X10_odds hz78) cs_X10_odds ml_L_44 im_X10_odds se_X10_odds (ci := 10) rfl rfl hg77 ⟨by decide, by decide⟩ ⟨rfl, rfl⟩ ⟨by decide, by decide⟩ rfl rfl (Nat.le_of_ble_eq_true rfl) dL_law_411 ?_
                      refine aw_aload_n C 2 dL_law_414 rfl rfl ?_
                      refine aw_aload_n C 0 dL_law_415 rfl rfl ?_
                      refine aw_iload_n C 3 dL_law_416 rfl rfl ?_
                      refine aw_iconst C 1 dL_law_417 (by decide) ?_
                      refine aw_iadd C dL_law_418 ?_
                      obtain ⟨v79, hv79, h⟩ := bindE h
                      refine aw_xs C hX hv79 dL_law_419 ?_
                      refine aw_aload_n C 0 dL_law_420 rfl rfl ?_
                      refine aw_iload_n C 3 dL_law_421 rfl rfl ?_
                      refine aw_iconst C 2 dL_law_422 (by decide) ?_
                      refine aw_iadd C dL_law_423 ?_
                      obtain ⟨v80, hv80, h⟩ := bindE h
                      refine aw_xs C hX hv80 dL_law_424 ?_
                      refine aw_aload_n C 0 dL_law_425 rfl rfl ?_
                      refine aw_iload_n C 3 dL_law_426 rfl rfl ?_
                      refine aw_iconst C 3 dL_law_427 (by decide) ?_
                      refine aw_iadd C dL_law_428 ?_
                      obtain ⟨v81, hv81, h⟩ := bindE h
                      refine aw_xs C hX hv81 dL_law_429 ?_
                      obtain ⟨g82, hg82, h⟩ := bindE h
                      obtain ⟨z83, hz83, h⟩ := bindE h
                      refine aw_cV_I C [.int v79, .int v80, .int v81] _ (mt_X11_odds hz83) cs_X11_odds ml_L_47 im_X11_odds se_X11_odds (ci := 11) rfl rfl hg82 ⟨by decide, by decide⟩ ⟨rfl, rfl⟩ ⟨by decide, by decide⟩ rfl rfl (Nat.le_of_ble_eq_true rfl) dL_law_430 ?_
                      refine aw_icmp_eq C 1265 dL_law_433 (by decide) (fun c84 => ?_) (fun c84 => ?_)
                      · rw [if_pos c84] at h
                        refine aw_iinc C (x3 + 8) 3 [(3, .int (x3 + 8)), (0, .ref b), (1, .ref (gZ G + a1)), (2, .ref (gZ G + a2))] dL_law_1265 rfl rfl (by decide) rfl ?_
                        refine aw_goto C 18 dL_law_1268 (by decide) ?_
                        exact aw_sub [1, 2, 3, 0] rfl (ih _ _ h)
                      · rw [if_neg c84] at h
                        refine aw_iconst C 0 dL_law_436 (by decide) ?_
                        exact absurd (inj2 h).1 (by decide)
                    · rw [if_neg c73] at h
                      by_cases c85 : (v2 &&& 31) = Int32.ofNat 8
                      · rw [if_pos c85] at h
                        refine aw_tin C (8) 438 c85 dL_law_33 (by decide) (by decide) rfl (by decide) ?_
                        refine aw_aload_n C 1 dL_law_438 rfl rfl ?_
                        refine aw_aload_n C 0 dL_law_439 rfl rfl ?_
                        refine aw_iload_n C 3 dL_law_440 rfl rfl ?_
                        refine aw_iconst C 1 dL_law_441 (by decide) ?_
                        refine aw_iadd C dL_law_442 ?_
                        obtain ⟨v86, hv86, h⟩ := bindE h
                        refine aw_xs C hX hv86 dL_law_443 ?_
                        refine aw_aload_n C 0 dL_law_444 rfl rfl ?_
                        refine aw_iload_n C 3 dL_law_445 rfl rfl ?_
                        refine aw_iconst C 2 dL_law_446 (by decide) ?_
                        refine aw_iadd C dL_law_447 ?_
                        obtain ⟨v87, hv87, h⟩ := bindE h
                        refine aw_xs C hX hv87 dL_law_448 ?_
                        obtain ⟨g88, hg88, h⟩ := bindE h
                        obtain ⟨z89, hz89, h⟩ := bindE h
                        refine aw_cV_I C [.int v86, .int v87] _ (mt_X10_seam hz89) cs_X10_seam ml_L_48 im_X10_seam se_X10_seam (ci := 10) rfl rfl hg88 ⟨by decide, by decide⟩ ⟨rfl, rfl⟩ ⟨by decide, by decide⟩ rfl rfl (Nat.le_of_ble_eq_true rfl) dL_law_449 ?_
                        refine aw_aload_n C 2 dL_law_452 rfl rfl ?_
                        refine aw_aload_n C 0 dL_law_453 rfl rfl ?_
                        refine aw_iload_n C 3 dL_law_454 rfl rfl ?_
                        refine aw_iconst C 1 dL_law_455 (by decide) ?_
                        refine aw_iadd C dL_law_456 ?_
                        obtain ⟨v90, hv90, h⟩ := bindE h
                        refine aw_xs C hX hv90 dL_law_457 ?_
                        refine aw_aload_n C 0 dL_law_458 rfl rfl ?_
                        refine aw_iload_n C 3 dL_law_459 rfl rfl ?_
                        refine aw_iconst C 2 dL_law_460 (by decide) ?_
                        refine aw_iadd C dL_law_461 ?_
                        obtain ⟨v91, hv91, h⟩ := bindE h
                        refine aw_xs C hX hv91 dL_law_462 ?_
                        obtain ⟨g92, hg92, h⟩ := bindE h
                        obtain ⟨z93, hz93, h⟩ := bindE h
                        refine aw_cV_I C [.int v90, .int v91] _ (mt_X11_seam hz93) cs_X11_seam ml_L_51 im_X11_seam se_X11_seam (ci := 11) rfl rfl hg92 ⟨by decide, by decide⟩ ⟨rfl, rfl⟩ ⟨by decide, by decide⟩ rfl rfl (Nat.le_of_ble_eq_true rfl) dL_law_463 ?_
                        refine aw_icmp_eq C 1265 dL_law_466 (by decide) (fun c94 => ?_) (fun c94 => ?_)
                        · rw [if_pos c94] at h
                          refine aw_iinc C (x3 + 8) 3 [(3, .int (x3 + 8)), (0, .ref b), (1, .ref (gZ G + a1)), (2, .ref (gZ G + a2))] dL_law_1265 rfl rfl (by decide) rfl ?_
                          refine aw_goto C 18 dL_law_1268 (by decide) ?_
                          exact aw_sub [1, 2, 3, 0] rfl (ih _ _ h)
                        · rw [if_neg c94] at h
                          refine aw_iconst C 0 dL_law_469 (by decide) ?_
                          exact absurd (inj2 h).1 (by decide)
                      · rw [if_neg c85] at h
                        by_cases c95 : (v2 &&& 31) = Int32.ofNat 9
                        · rw [if_pos c95] at h
                          refine aw_tin C (9) 471 c95 dL_law_33 (by decide) (by decide) rfl (by decide) ?_
                          refine aw_aload_n C 1 dL_law_471 rfl rfl ?_
                          refine aw_aload_n C 0 dL_law_472 rfl rfl ?_
                          refine aw_iload_n C 3 dL_law_473 rfl rfl ?_
                          refine aw_iconst C 1 dL_law_474 (by decide) ?_
                          refine aw_iadd C dL_law_475 ?_
                          obtain ⟨v96, hv96, h⟩ := bindE h
                          refine aw_xs C hX hv96 dL_law_476 ?_
                          refine aw_aload_n C 0 dL_law_477 rfl rfl ?_
                          refine aw_iload_n C 3 dL_law_478 rfl rfl ?_
                          refine aw_iconst C 2 dL_law_479 (by decide) ?_
                          refine aw_iadd C dL_law_480 ?_
                          obtain ⟨v97, hv97, h⟩ := bindE h
                          refine aw_xs C hX hv97 dL_law_481 ?_
                          obtain ⟨g98, hg98, h⟩ := bindE h
                          obtain ⟨z99, hz99, h⟩ := bindE h
                          refine aw_cV_I C [.int v96, .int v97] _ (mt_X10_until hz99) cs_X10_until ml_L_52 im_X10_until se_X10_until (ci := 10) rfl rfl hg98 ⟨by decide, by decide⟩ ⟨rfl, rfl⟩ ⟨by decide, by decide⟩ rfl rfl (Nat.le_of_ble_eq_true rfl) dL_law_482 ?_
                          refine aw_aload_n C 2 dL_law_485 rfl rfl ?_
                          refine aw_aload_n C 0 dL_law_486 rfl rfl ?_
                          refine aw_iload_n C 3 dL_law_487 rfl rfl ?_
                          refine aw_iconst C 1 dL_law_488 (by decide) ?_
                          refine aw_iadd C dL_law_489 ?_
                          obtain ⟨v100, hv100, h⟩ := bindE h
                          refine aw_xs C hX hv100 dL_law_490 ?_
                          refine aw_aload_n C 0 dL_law_491 rfl rfl ?_
                          refine aw_iload_n C 3 dL_law_492 rfl rfl ?_
                          refine aw_iconst C 2 dL_law_493 (by decide) ?_
                          refine aw_iadd C dL_law_494 ?_
                          obtain ⟨v101, hv101, h⟩ := bindE h
                          refine aw_xs C hX hv101 dL_law_495 ?_
                          obtain ⟨g102, hg102, h⟩ := bindE h
                          obtain ⟨z103, hz103, h⟩ := bindE h
                          refine aw_cV_I C [.int v100, .int v101] _ (mt_X11_until hz103) cs_X11_until ml_L_55 im_X11_until se_X11_until (ci := 11) rfl rfl hg102 ⟨by decide, by decide⟩ ⟨rfl, rfl⟩ ⟨by decide, by decide⟩ rfl rfl (Nat.le_of_ble_eq_true rfl) dL_law_496 ?_
                          refine aw_icmp_eq C 1265 dL_law_499 (by decide) (fun c104 => ?_) (fun c104 => ?_)
                          · rw [if_pos c104] at h
                            refine aw_iinc C (x3 + 8) 3 [(3, .int (x3 + 8)), (0, .ref b), (1, .ref (gZ G + a1)), (2, .ref (gZ G + a2))] dL_law_1265 rfl rfl (by decide) rfl ?_
                            refine aw_goto C 18 dL_law_1268 (by decide) ?_
                            exact aw_sub [1, 2, 3, 0] rfl (ih _ _ h)
                          · rw [if_neg c104] at h
                            refine aw_iconst C 0 dL_law_502 (by decide) ?_
                            exact absurd (inj2 h).1 (by decide)
                        · rw [if_neg c95] at h
                          by_cases c105 : (v2 &&& 31) = Int32.ofNat 10
                          · rw [if_pos c105] at h
                            refine aw_tin C (10) 504 c105 dL_law_33 (by decide) (by decide) rfl (by decide) ?_
                            refine aw_aload_n C 1 dL_law_504 rfl rfl ?_
                            refine aw_aload_n C 0 dL_law_505 rfl rfl ?_
                            refine aw_iload_n C 3 dL_law_506 rfl rfl ?_
                            refine aw_iconst C 1 dL_law_507 (by decide) ?_
                            refine aw_iadd C dL_law_508 ?_
                            obtain ⟨v106, hv106, h⟩ := bindE h
                            refine aw_xs C hX hv106 dL_law_509 ?_
                            refine aw_aload_n C 0 dL_law_510 rfl rfl ?_
                            refine aw_iload_n C 3 dL_law_511 rfl rfl ?_
                            refine aw_iconst C 2 dL_law_512 (by decide) ?_
                            refine aw_iadd C dL_law_513 ?_
                            obtain ⟨v107, hv107, h⟩ := bindE h
                            refine aw_xs C hX hv107 dL_law_514 ?_
                            refine aw_aload_n C 0 dL_law_515 rfl rfl ?_
                            refine aw_iload_n C 3 dL_law_516 rfl rfl ?_
                            refine aw_iconst C 3 dL_law_517 (by decide) ?_
                            refine aw_iadd C dL_law_518 ?_
                            obtain ⟨v108, hv108, h⟩ := bindE h
                            refine aw_xs C hX hv108 dL_law_519 ?_
                            refine aw_aload_n C 0 dL_law_520 rfl rfl ?_
                            refine aw_iload_n C 3 dL_law_521 rfl rfl ?_
                            refine aw_iconst C 4 dL_law_522 (by decide) ?_
                            refine aw_iadd C dL_law_523 ?_
                            obtain ⟨v109, hv109, h⟩ := bindE h
                            refine aw_xs C hX hv109 dL_law_524 ?_
                            refine aw_aload_n C 0 dL_law_525 rfl rfl ?_
                            refine aw_iload_n C 3 dL_law_526 rfl rfl ?_
                            refine aw_iconst C 5 dL_law_527 (by decide) ?_
                            refine aw_iadd C dL_law_528 ?_
                            obtain ⟨v110, hv110, h⟩ := bindE h
                            refine aw_xs C hX hv110 dL_law_529 ?_
                            refine aw_aload_n C 0 dL_law_530 rfl rfl ?_
                            refine aw_iload_n C 3 dL_law_531 rfl rfl ?_
                            refine aw_bipush C 6 dL_law_532 (by decide) ?_
                            refine aw_iadd C dL_law_534 ?_
                            obtain ⟨v111, hv111, h⟩ := bindE h
                            refine aw_xs C hX hv111 dL_law_535 ?_
                            refine aw_aload_n C 0 dL_law_536 rfl rfl ?_
                            refine aw_iload_n C 3 dL_law_537 rfl rfl ?_
                            refine aw_bipush C 7 dL_law_538 (by decide) ?_
                            refine aw_iadd C dL_law_540 ?_
                            obtain ⟨v112, hv112, h⟩ := bindE h
                            refine aw_xs C hX hv112 dL_law_541 ?_
                            obtain ⟨g113, hg113, h⟩ := bindE h
                            obtain ⟨z114, hz114, h⟩ := bindE h
                            refine aw_cV_I C [.int v106, .int v107, .int v108, .int v109, .int v110, .int v111, .int v112] _ (mt_X10_thing hz114) cs_X10_thing ml_L_56 im_X10_thing se_X10_thing (ci := 10) rfl rfl hg113 ⟨by decide, by decide⟩ ⟨rfl, rfl⟩ ⟨by decide, by decide⟩ rfl rfl (Nat.le_of_ble_eq_true rfl) dL_law_542 ?_
                            refine aw_aload_n C 2 dL_law_545 rfl rfl ?_
                            refine aw_aload_n C 0 dL_law_546 rfl rfl ?_
                            refine aw_iload_n C 3 dL_law_547 rfl rfl ?_
                            refine aw_iconst C 1 dL_law_548 (by decide) ?_
                            refine aw_iadd C dL_law_549 ?_
                            obtain ⟨v115, hv115, h⟩ := bindE h
                            refine aw_xs C hX hv115 dL_law_550 ?_
                            refine aw_aload_n C 0 dL_law_551 rfl rfl ?_
                            refine aw_iload_n C 3 dL_law_552 rfl rfl ?_
                            refine aw_iconst C 2 dL_law_553 (by decide) ?_
                            refine aw_iadd C dL_law_554 ?_
                            obtain ⟨v116, hv116, h⟩ := bindE h
                            refine aw_xs C hX hv116 dL_law_555 ?_
                            refine aw_aload_n C 0 dL_law_556 rfl rfl ?_
                            refine aw_iload_n C 3 dL_law_557 rfl rfl ?_
                            refine aw_iconst C 3 dL_law_558 (by decide) ?_
                            refine aw_iadd C dL_law_559 ?_
                            obtain ⟨v117, hv117, h⟩ := bindE h
                            refine aw_xs C hX hv117 dL_law_560 ?_
                            refine aw_aload_n C 0 dL_law_561 rfl rfl ?_
                            refine aw_iload_n C 3 dL_law_562 rfl rfl ?_
                            refine aw_iconst C 4 dL_law_563 (by decide) ?_
                            refine aw_iadd C dL_law_564 ?_
                            obtain ⟨v118, hv118, h⟩ := bindE h
                            refine aw_xs C hX hv118 dL_law_565 ?_
                            refine aw_aload_n C 0 dL_law_566 rfl rfl ?_
                            refine aw_iload_n C 3 dL_law_567 rfl rfl ?_
                            refine aw_iconst C 5 dL_law_568 (by decide) ?_
                            refine aw_iadd C dL_law_569 ?_
                            obtain ⟨v119, hv119, h⟩ := bindE h
                            refine aw_xs C hX hv119 dL_law_570 ?_
                            refine aw_aload_n C 0 dL_law_571 rfl rfl ?_
                            refine aw_iload_n C 3 dL_law_572 rfl rfl ?_
                            refine aw_bipush C 6 dL_law_573 (by decide) ?_
                            refine aw_iadd C dL_law_575 ?_
                            obtain ⟨v120, hv120, h⟩ := bindE h
                            refine aw_xs C hX hv120 dL_law_576 ?_
                            refine aw_aload_n C 0 dL_law_577 rfl rfl ?_
                            refine aw_iload_n C 3 dL_law_578 rfl rfl ?_
                            refine aw_bipush C 7 dL_law_579 (by decide) ?_
                            refine aw_iadd C dL_law_581 ?_
                            obtain ⟨v121, hv121, h⟩ := bindE h
                            refine aw_xs C hX hv121 dL_law_582 ?_
                            obtain ⟨g122, hg122, h⟩ := bindE h
                            obtain ⟨z123, hz123, h⟩ := bindE h
                            refine aw_cV_I C [.int v115, .int v116, .int v117, .int v118, .int v119, .int v120, .int v121] _ (mt_X11_thing hz123) cs_X11_thing ml_L_60 im_X11_thing se_X11_thing (ci := 11) rfl rfl hg122 ⟨by decide, by decide⟩ ⟨rfl, rfl⟩ ⟨by decide, by decide⟩ rfl rfl (Nat.le_of_ble_eq_true rfl) dL_law_583 ?_
                            refine aw_icmp_eq C 1265 dL_law_586 (by decide) (fun c124 => ?_) (fun c124 => ?_)
                            · rw [if_pos c124] at h
                              refine aw_iinc C (x3 + 8) 3 [(3, .int (x3 + 8)), (0, .ref b), (1, .ref (gZ G + a1)), (2, .ref (gZ G + a2))] dL_law_1265 rfl rfl (by decide) rfl ?_
                              refine aw_goto C 18 dL_law_1268 (by decide) ?_
                              exact aw_sub [1, 2, 3, 0] rfl (ih _ _ h)
                            · rw [if_neg c124] at h
                              refine aw_iconst C 0 dL_law_589 (by decide) ?_
                              exact absurd (inj2 h).1 (by decide)
                          · rw [if_neg c105] at h
                            by_cases c125 : (v2 &&& 31) = Int32.ofNat 11
                            · rw [if_pos c125] at h
                              refine aw_tin C (11) 591 c125 dL_law_33 (by decide) (by decide) rfl (by decide) ?_
                              refine aw_aload_n C 1 dL_law_591 rfl rfl ?_
                              refine aw_aload_n C 0 dL_law_592 rfl rfl ?_
                              refine aw_iload_n C 3 dL_law_593 rfl rfl ?_
                              refine aw_iconst C 1 dL_law_594 (by decide) ?_
                              refine aw_iadd C dL_law_595 ?_
                              obtain ⟨v126, hv126, h⟩ := bindE h
                              refine aw_xs C hX hv126 dL_law_596 ?_
                              obtain ⟨g127, hg127, h⟩ := bindE h
                              obtain ⟨z128, hz128, h⟩ := bindE h
                              refine aw_cV_I C [.int v126] _ (mt_X10_dead hz128) cs_X10_dead ml_L_61 im_X10_dead se_X10_dead (ci := 10) rfl rfl hg127 ⟨by decide, by decide⟩ ⟨rfl, rfl⟩ ⟨by decide, by decide⟩ rfl rfl (Nat.le_of_ble_eq_true rfl) dL_law_597 ?_
                              refine aw_aload_n C 2 dL_law_600 rfl rfl ?_
                              refine aw_aload_n C 0 dL_law_601 rfl rfl ?_
                              refine aw_iload_n C 3 dL_law_602 rfl rfl ?_
                              refine aw_iconst C 1 dL_law_603 (by decide) ?_
                              refine aw_iadd C dL_law_604 ?_
                              obtain ⟨v129, hv129, h⟩ := bindE h
                              refine aw_xs C hX hv129 dL_law_605 ?_
                              obtain ⟨g130, hg130, h⟩ := bindE h
                              obtain ⟨z131, hz131, h⟩ := bindE h
                              refine aw_cV_I C [.int v129] _ (mt_X11_dead hz131) cs_X11_dead ml_L_64 im_X11_dead se_X11_dead (ci := 11) rfl rfl hg130 ⟨by decide, by decide⟩ ⟨rfl, rfl⟩ ⟨by decide, by decide⟩ rfl rfl (Nat.le_of_ble_eq_true rfl) dL_law_606 ?_
                              refine aw_icmp_eq C 1265 dL_law_609 (by decide) (fun c132 => ?_) (fun c132 => ?_)
                              · rw [if_pos c132] at h
                                refine aw_iinc C (x3 + 8) 3 [(3, .int (x3 + 8)), (0, .ref b), (1, .ref (gZ G + a1)), (2, .ref (gZ G + a2))] dL_law_1265 rfl rfl (by decide) rfl ?_
                                refine aw_goto C 18 dL_law_1268 (by decide) ?_
                                exact aw_sub [1, 2, 3, 0] rfl (ih _ _ h)
                              · rw [if_neg c132] at h
                                refine aw_iconst C 0 dL_law_612 (by decide) ?_
                                exact absurd (inj2 h).1 (by decide)
                            · rw [if_neg c125] at h
                              by_cases c133 : (v2 &&& 31) = Int32.ofNat 12
                              · rw [if_pos c133] at h
                                refine aw_tin C (12) 614 c133 dL_law_33 (by decide) (by decide) rfl (by decide) ?_
                                refine aw_aload_n C 1 dL_law_614 rfl rfl ?_
                                refine aw_aload_n C 0 dL_law_615 rfl rfl ?_
                                refine aw_iload_n C 3 dL_law_616 rfl rfl ?_
                                refine aw_iconst C 1 dL_law_617 (by decide) ?_
                                refine aw_iadd C dL_law_618 ?_
                                obtain ⟨v134, hv134, h⟩ := bindE h
                                refine aw_xs C hX hv134 dL_law_619 ?_
                                refine aw_aload_n C 0 dL_law_620 rfl rfl ?_
                                refine aw_iload_n C 3 dL_law_621 rfl rfl ?_
                                refine aw_iconst C 2 dL_law_622 (by decide) ?_
                                refine aw_iadd C dL_law_623 ?_
                                obtain ⟨v135, hv135, h⟩ := bindE h
                                refine aw_xs C hX hv135 dL_law_624 ?_
                                obtain ⟨g136, hg136, h⟩ := bindE h
                                obtain ⟨v137, hv137, h⟩ := bindE h
                                refine aw_cV_I C [.int v134, .int v135] _ (mt_X10_told hv137) cs_X10_told ml_L_65 im_X10_told se_X10_told (ci := 10) rfl rfl hg136 ⟨by decide, by decide⟩ ⟨rfl, rfl⟩ ⟨by decide, by decide⟩ rfl rfl (Nat.le_of_ble_eq_true rfl) dL_law_625 ?_
                                refine aw_aload_n C 2 dL_law_628 rfl rfl ?_
                                refine aw_aload_n C 0 dL_law_629 rfl rfl ?_
                                refine aw_iload_n C 3 dL_law_630 rfl rfl ?_
                                refine aw_iconst C 1 dL_law_631 (by decide) ?_
                                refine aw_iadd C dL_law_632 ?_
                                obtain ⟨v138, hv138, h⟩ := bindE h
                                refine aw_xs C hX hv138 dL_law_633 ?_
                                refine aw_aload_n C 0 dL_law_634 rfl rfl ?_
                                refine aw_iload_n C 3 dL_law_635 rfl rfl ?_
                                refine aw_iconst C 2 dL_law_636 (by decide) ?_
                                refine aw_iadd C dL_law_637 ?_
                                obtain ⟨v139, hv139, h⟩ := bindE h
                                refine aw_xs C hX hv139 dL_law_638 ?_
                                obtain ⟨g140, hg140, h⟩ := bindE h
                                obtain ⟨v141, hv141, h⟩ := bindE h
                                refine aw_cV_I C [.int v138, .int v139] _ (mt_X11_told hv141) cs_X11_told ml_L_68 im_X11_told se_X11_told (ci := 11) rfl rfl hg140 ⟨by decide, by decide⟩ ⟨rfl, rfl⟩ ⟨by decide, by decide⟩ rfl rfl (Nat.le_of_ble_eq_true rfl) dL_law_639 ?_
                                refine aw_icmp_eq C 1265 dL_law_642 (by decide) (fun c142 => ?_) (fun c142 => ?_)
                                · rw [if_pos c142] at h
                                  refine aw_iinc C (x3 + 8) 3 [(3, .int (x3 + 8)), (0, .ref b), (1, .ref (gZ G + a1)), (2, .ref (gZ G + a2))] dL_law_1265 rfl rfl (by decide) rfl ?_
                                  refine aw_goto C 18 dL_law_1268 (by decide) ?_
                                  exact aw_sub [1, 2, 3, 0] rfl (ih _ _ h)
                                · rw [if_neg c142] at h
                                  refine aw_iconst C 0 dL_law_645 (by decide) ?_
                                  exact absurd (inj2 h).1 (by decide)
                              · rw [if_neg c133] at h
                                by_cases c143 : (v2 &&& 31) = Int32.ofNat 13
                                · rw [if_pos c143] at h
                                  refine aw_tin C (13) 647 c143 dL_law_33 (by decide) (by decide) rfl (by decide) ?_
                                  refine aw_aload_n C 1 dL_law_647 rfl rfl ?_
                                  refine aw_aload_n C 0 dL_law_648 rfl rfl ?_
                                  refine aw_iload_n C 3 dL_law_649 rfl rfl ?_
                                  refine aw_iconst C 1 dL_law_650 (by decide) ?_
                                  refine aw_iadd C dL_law_651 ?_
                                  obtain ⟨v144, hv144, h⟩ := bindE h
                                  refine aw_xs C hX hv144 dL_law_652 ?_
                                  refine aw_aload_n C 0 dL_law_653 rfl rfl ?_
                                  refine aw_iload_n C 3 dL_law_654 rfl rfl ?_
                                  refine aw_iconst C 2 dL_law_655 (by decide) ?_
                                  refine aw_iadd C dL_law_656 ?_
                                  obtain ⟨v145, hv145, h⟩ := bindE h
                                  refine aw_xs C hX hv145 dL_law_657 ?_
                                  refine aw_aload_n C 0 dL_law_658 rfl rfl ?_
                                  refine aw_iload_n C 3 dL_law_659 rfl rfl ?_
                                  refine aw_iconst C 3 dL_law_660 (by decide) ?_
                                  refine aw_iadd C dL_law_661 ?_
                                  obtain ⟨v146, hv146, h⟩ := bindE h
                                  refine aw_xs C hX hv146 dL_law_662 ?_
                                  obtain ⟨g147, hg147, h⟩ := bindE h
                                  obtain ⟨z148, hz148, h⟩ := bindE h
                                  refine aw_cV_I C [.int v144, .int v145, .int v146] _ (mt_X10_value hz148) cs_X10_value ml_L_69 im_X10_value se_X10_value (ci := 10) rfl rfl hg147 ⟨by decide, by decide⟩ ⟨rfl, rfl⟩ ⟨by decide, by decide⟩ rfl rfl (Nat.le_of_ble_eq_true rfl) dL_law_663 ?_
                                  refine aw_aload_n C 2 dL_law_666 rfl rfl ?_
                                  refine aw_aload_n C 0 dL_law_667 rfl rfl ?_
                                  refine aw_iload_n C 3 dL_law_668 rfl rfl ?_
                                  refine aw_iconst C 1 dL_law_669 (by decide) ?_
                                  refine aw_iadd C dL_law_670 ?_
                                  obtain ⟨v149, hv149, h⟩ := bindE h
                                  refine aw_xs C hX hv149 dL_law_671 ?_
                                  refine aw_aload_n C 0 dL_law_672 rfl rfl ?_
                                  refine aw_iload_n C 3 dL_law_673 rfl rfl ?_
                                  refine aw_iconst C 2 dL_law_674 (by decide) ?_
                                  refine aw_iadd C dL_law_675 ?_
                                  obtain ⟨v150, hv150, h⟩ := bindE h
                                  refine aw_xs C hX hv150 dL_law_676 ?_
                                  refine aw_aload_n C 0 dL_law_677 rfl rfl ?_
                                  refine aw_iload_n C 3 dL_law_678 rfl rfl ?_
                                  refine aw_iconst C 3 dL_law_679 (by decide) ?_
                                  refine aw_iadd C dL_law_680 ?_
                                  obtain ⟨v151, hv151, h⟩ := bindE h
                                  refine aw_xs C hX hv151 dL_law_681 ?_
                                  obtain ⟨g152, hg152, h⟩ := bindE h
                                  obtain ⟨z153, hz153, h⟩ := bindE h
                                  refine aw_cV_I C [.int v149, .int v150, .int v151] _ (mt_X11_value hz153) cs_X11_value ml_L_72 im_X11_value se_X11_value (ci := 11) rfl rfl hg152 ⟨by decide, by decide⟩ ⟨rfl, rfl⟩ ⟨by decide, by decide⟩ rfl rfl (Nat.le_of_ble_eq_true rfl) dL_law_682 ?_
                                  refine aw_icmp_eq C 1265 dL_law_685 (by decide) (fun c154 => ?_) (fun c154 => ?_)
                                  · rw [if_pos c154] at h
                                    refine aw_iinc C (x3 + 8) 3 [(3, .int (x3 + 8)), (0, .ref b), (1, .ref (gZ G + a1)), (2, .ref (gZ G + a2))] dL_law_1265 rfl rfl (by decide) rfl ?_
                                    refine aw_goto C 18 dL_law_1268 (by decide) ?_
                                    exact aw_sub [1, 2, 3, 0] rfl (ih _ _ h)
                                  · rw [if_neg c154] at h
                                    refine aw_iconst C 0 dL_law_688 (by decide) ?_
                                    exact absurd (inj2 h).1 (by decide)
                                · rw [if_neg c143] at h
                                  by_cases c155 : (v2 &&& 31) = Int32.ofNat 14
                                  · rw [if_pos c155] at h
                                    refine aw_tin C (14) 690 c155 dL_law_33 (by decide) (by decide) rfl (by decide) ?_
                                    refine aw_aload_n C 1 dL_law_690 rfl rfl ?_
                                    refine aw_aload_n C 0 dL_law_691 rfl rfl ?_
                                    refine aw_iload_n C 3 dL_law_692 rfl rfl ?_
                                    refine aw_iconst C 1 dL_law_693 (by decide) ?_
                                    refine aw_iadd C dL_law_694 ?_
                                    obtain ⟨v156, hv156, h⟩ := bindE h
                                    refine aw_xs C hX hv156 dL_law_695 ?_
                                    refine aw_aload_n C 0 dL_law_696 rfl rfl ?_
                                    refine aw_iload_n C 3 dL_law_697 rfl rfl ?_
                                    refine aw_iconst C 2 dL_law_698 (by decide) ?_
                                    refine aw_iadd C dL_law_699 ?_
                                    obtain ⟨v157, hv157, h⟩ := bindE h
                                    refine aw_xs C hX hv157 dL_law_700 ?_
                                    refine aw_aload_n C 0 dL_law_701 rfl rfl ?_
                                    refine aw_iload_n C 3 dL_law_702 rfl rfl ?_
                                    refine aw_iconst C 3 dL_law_703 (by decide) ?_
                                    refine aw_iadd C dL_law_704 ?_
                                    obtain ⟨v158, hv158, h⟩ := bindE h
                                    refine aw_xs C hX hv158 dL_law_705 ?_
                                    obtain ⟨g159, hg159, h⟩ := bindE h
                                    obtain ⟨z160, hz160, h⟩ := bindE h
                                    refine aw_cV_I C [.int v156, .int v157, .int v158] _ (mt_X10_cost hz160) cs_X10_cost ml_L_73 im_X10_cost se_X10_cost (ci := 10) rfl rfl hg159 ⟨by decide, by decide⟩ ⟨rfl, rfl⟩ ⟨by decide, by decide⟩ rfl rfl (Nat.le_of_ble_eq_true rfl) dL_law_706 ?_
                                    refine aw_aload_n C 2 dL_law_709 rfl rfl ?_
                                    refine aw_aload_n C 0 dL_law_710 rfl rfl ?_
                                    refine aw_iload_n C 3 dL_law_711 rfl rfl ?_
                                    refine aw_iconst C 1 dL_law_712 (by decide) ?_
                                    refine aw_iadd C dL_law_713 ?_
                                    obtain ⟨v161, hv161, h⟩ := bindE h
                                    refine aw_xs C hX hv161 dL_law_714 ?_
                                    refine aw_aload_n C 0 dL_law_715 rfl rfl ?_
                                    refine aw_iload_n C 3 dL_law_716 rfl rfl ?_
                                    refine aw_iconst C 2 dL_law_717 (by decide) ?_
                                    refine aw_iadd C dL_law_718 ?_
                                    obtain ⟨v162, hv162, h⟩ := bindE h
                                    refine aw_xs C hX hv162 dL_law_719 ?_
                                    refine aw_aload_n C 0 dL_law_720 rfl rfl ?_
                                    refine aw_iload_n C 3 dL_law_721 rfl rfl ?_
                                    refine aw_iconst C 3 dL_law_722 (by decide) ?_
                                    refine aw_iadd C dL_law_723 ?_
                                    obtain ⟨v163, hv163, h⟩ := bindE h
                                    refine aw_xs C hX hv163 dL_law_724 ?_
                                    obtain ⟨g164, hg164, h⟩ := bindE h
                                    obtain ⟨z165, hz165, h⟩ := bindE h
                                    refine aw_cV_I C [.int v161, .int v162, .int v163] _ (mt_X11_cost hz165) cs_X11_cost ml_L_76 im_X11_cost se_X11_cost (ci := 11) rfl rfl hg164 ⟨by decide, by decide⟩ ⟨rfl, rfl⟩ ⟨by decide, by decide⟩ rfl rfl (Nat.le_of_ble_eq_true rfl) dL_law_725 ?_
                                    refine aw_icmp_eq C 1265 dL_law_728 (by decide) (fun c166 => ?_) (fun c166 => ?_)
                                    · rw [if_pos c166] at h
                                      refine aw_iinc C (x3 + 8) 3 [(3, .int (x3 + 8)), (0, .ref b), (1, .ref (gZ G + a1)), (2, .ref (gZ G + a2))] dL_law_1265 rfl rfl (by decide) rfl ?_
                                      refine aw_goto C 18 dL_law_1268 (by decide) ?_
                                      exact aw_sub [1, 2, 3, 0] rfl (ih _ _ h)
                                    · rw [if_neg c166] at h
                                      refine aw_iconst C 0 dL_law_731 (by decide) ?_
                                      exact absurd (inj2 h).1 (by decide)
                                  · rw [if_neg c155] at h
                                    by_cases c167 : (v2 &&& 31) = Int32.ofNat 15
                                    · rw [if_pos c167] at h
                                      refine aw_tin C (15) 733 c167 dL_law_33 (by decide) (by decide) rfl (by decide) ?_
                                      refine aw_aload_n C 1 dL_law_733 rfl rfl ?_
                                      refine aw_aload_n C 0 dL_law_734 rfl rfl ?_
                                      refine aw_iload_n C 3 dL_law_735 rfl rfl ?_
                                      refine aw_iconst C 1 dL_law_736 (by decide) ?_
                                      refine aw_iadd C dL_law_737 ?_
                                      obtain ⟨v168, hv168, h⟩ := bindE h
                                      refine aw_xs C hX hv168 dL_law_738 ?_
                                      refine aw_aload_n C 0 dL_law_739 rfl rfl ?_
                                      refine aw_iload_n C 3 dL_law_740 rfl rfl ?_
                                      refine aw_iconst C 2 dL_law_741 (by decide) ?_
                                      refine aw_iadd C dL_law_742 ?_
                                      obtain ⟨v169, hv169, h⟩ := bindE h
                                      refine aw_xs C hX hv169 dL_law_743 ?_
                                      obtain ⟨g170, hg170, h⟩ := bindE h
                                      obtain ⟨z171, hz171, h⟩ := bindE h
                                      refine aw_cV_I C [.int v168, .int v169] _ (mt_X10_seen hz171) cs_X10_seen ml_L_77 im_X10_seen se_X10_seen (ci := 10) rfl rfl hg170 ⟨by decide, by decide⟩ ⟨rfl, rfl⟩ ⟨by decide, by decide⟩ rfl rfl (Nat.le_of_ble_eq_true rfl) dL_law_744 ?_
                                      refine aw_aload_n C 2 dL_law_747 rfl rfl ?_
                                      refine aw_aload_n C 0 dL_law_748 rfl rfl ?_
                                      refine aw_iload_n C 3 dL_law_749 rfl rfl ?_
                                      refine aw_iconst C 1 dL_law_750 (by decide) ?_
                                      refine aw_iadd C dL_law_751 ?_
                                      obtain ⟨v172, hv172, h⟩ := bindE h
                                      refine aw_xs C hX hv172 dL_law_752 ?_
                                      refine aw_aload_n C 0 dL_law_753 rfl rfl ?_
                                      refine aw_iload_n C 3 dL_law_754 rfl rfl ?_
                                      refine aw_iconst C 2 dL_law_755 (by decide) ?_
                                      refine aw_iadd C dL_law_756 ?_
                                      obtain ⟨v173, hv173, h⟩ := bindE h
                                      refine aw_xs C hX hv173 dL_law_757 ?_
                                      obtain ⟨g174, hg174, h⟩ := bindE h
                                      obtain ⟨z175, hz175, h⟩ := bindE h
                                      refine aw_cV_I C [.int v172, .int v173] _ (mt_X11_seen hz175) cs_X11_seen ml_L_80 im_X11_seen se_X11_seen (ci := 11) rfl rfl hg174 ⟨by decide, by decide⟩ ⟨rfl, rfl⟩ ⟨by decide, by decide⟩ rfl rfl (Nat.le_of_ble_eq_true rfl) dL_law_758 ?_
                                      refine aw_icmp_eq C 1265 dL_law_761 (by decide) (fun c176 => ?_) (fun c176 => ?_)
                                      · rw [if_pos c176] at h
                                        refine aw_iinc C (x3 + 8) 3 [(3, .int (x3 + 8)), (0, .ref b), (1, .ref (gZ G + a1)), (2, .ref (gZ G + a2))] dL_law_1265 rfl rfl (by decide) rfl ?_
                                        refine aw_goto C 18 dL_law_1268 (by decide) ?_
                                        exact aw_sub [1, 2, 3, 0] rfl (ih _ _ h)
                                      · rw [if_neg c176] at h
                                        refine aw_iconst C 0 dL_law_764 (by decide) ?_
                                        exact absurd (inj2 h).1 (by decide)
                                    · rw [if_neg c167] at h
                                      by_cases c177 : (v2 &&& 31) = Int32.ofNat 16
                                      · rw [if_pos c177] at h
                                        refine aw_tin C (16) 766 c177 dL_law_33 (by decide) (by decide) rfl (by decide) ?_
                                        refine aw_aload_n C 1 dL_law_766 rfl rfl ?_
                                        refine aw_aload_n C 0 dL_law_767 rfl rfl ?_
                                        refine aw_iload_n C 3 dL_law_768 rfl rfl ?_
                                        refine aw_iconst C 1 dL_law_769 (by decide) ?_
                                        refine aw_iadd C dL_law_770 ?_
                                        obtain ⟨v178, hv178, h⟩ := bindE h
                                        refine aw_xs C hX hv178 dL_law_771 ?_
                                        refine aw_aload_n C 0 dL_law_772 rfl rfl ?_
                                        refine aw_iload_n C 3 dL_law_773 rfl rfl ?_
                                        refine aw_iconst C 2 dL_law_774 (by decide) ?_
                                        refine aw_iadd C dL_law_775 ?_
                                        obtain ⟨v179, hv179, h⟩ := bindE h
                                        refine aw_xs C hX hv179 dL_law_776 ?_
                                        refine aw_aload_n C 0 dL_law_777 rfl rfl ?_
                                        refine aw_iload_n C 3 dL_law_778 rfl rfl ?_
                                        refine aw_iconst C 3 dL_law_779 (by decide) ?_
                                        refine aw_iadd C dL_law_780 ?_
                                        obtain ⟨v180, hv180, h⟩ := bindE h
                                        refine aw_xs C hX hv180 dL_law_781 ?_
                                        obtain ⟨g181, hg181, h⟩ := bindE h
                                        obtain ⟨z182, hz182, h⟩ := bindE h
                                        refine aw_cV_I C [.int v178, .int v179, .int v180] _ (mt_X10_loss hz182) cs_X10_loss ml_L_81 im_X10_loss se_X10_loss (ci := 10) rfl rfl hg181 ⟨by decide, by decide⟩ ⟨rfl, rfl⟩ ⟨by decide, by decide⟩ rfl rfl (Nat.le_of_ble_eq_true rfl) dL_law_782 ?_
                                        refine aw_aload_n C 2 dL_law_785 rfl rfl ?_
                                        refine aw_aload_n C 0 dL_law_786 rfl rfl ?_
                                        refine aw_iload_n C 3 dL_law_787 rfl rfl ?_
                                        refine aw_iconst C 1 dL_law_788 (by decide) ?_
                                        refine aw_iadd C dL_law_789 ?_
                                        obtain ⟨v183, hv183, h⟩ := bindE h
                                        refine aw_xs C hX hv183 dL_law_790 ?_
                                        refine aw_aload_n C 0 dL_law_791 rfl rfl ?_
                                        refine aw_iload_n C 3 dL_law_792 rfl rfl ?_
                                        refine aw_iconst C 2 dL_law_793 (by decide) ?_
                                        refine aw_iadd C dL_law_794 ?_
                                        obtain ⟨v184, hv184, h⟩ := bindE h
                                        refine aw_xs C hX hv184 dL_law_795 ?_
                                        refine aw_aload_n C 0 dL_law_796 rfl rfl ?_
                                        refine aw_iload_n C 3 dL_law_797 rfl rfl ?_
                                        refine aw_iconst C 3 dL_law_798 (by decide) ?_
                                        refine aw_iadd C dL_law_799 ?_
                                        obtain ⟨v185, hv185, h⟩ := bindE h
                                        refine aw_xs C hX hv185 dL_law_800 ?_
                                        obtain ⟨g186, hg186, h⟩ := bindE h
                                        obtain ⟨z187, hz187, h⟩ := bindE h
                                        refine aw_cV_I C [.int v183, .int v184, .int v185] _ (mt_X11_loss hz187) cs_X11_loss ml_L_84 im_X11_loss se_X11_loss (ci := 11) rfl rfl hg186 ⟨by decide, by decide⟩ ⟨rfl, rfl⟩ ⟨by decide, by decide⟩ rfl rfl (Nat.le_of_ble_eq_true rfl) dL_law_801 ?_
                                        refine aw_icmp_eq C 1265 dL_law_804 (by decide) (fun c188 => ?_) (fun c188 => ?_)
                                        · rw [if_pos c188] at h
                                          refine aw_iinc C (x3 + 8) 3 [(3, .int (x3 + 8)), (0, .ref b), (1, .ref (gZ G + a1)), (2, .ref (gZ G + a2))] dL_law_1265 rfl rfl (by decide) rfl ?_
                                          refine aw_goto C 18 dL_law_1268 (by decide) ?_
                                          exact aw_sub [1, 2, 3, 0] rfl (ih _ _ h)
                                        · rw [if_neg c188] at h
                                          refine aw_iconst C 0 dL_law_807 (by decide) ?_
                                          exact absurd (inj2 h).1 (by decide)
                                      · rw [if_neg c177] at h
                                        by_cases c189 : (v2 &&& 31) = Int32.ofNat 17
                                        · rw [if_pos c189] at h
                                          refine aw_tin C (17) 809 c189 dL_law_33 (by decide) (by decide) rfl (by decide) ?_
                                          refine aw_aload_n C 1 dL_law_809 rfl rfl ?_
                                          refine aw_aload_n C 0 dL_law_810 rfl rfl ?_
                                          refine aw_iload_n C 3 dL_law_811 rfl rfl ?_
                                          refine aw_iconst C 1 dL_law_812 (by decide) ?_
                                          refine aw_iadd C dL_law_813 ?_
                                          obtain ⟨v190, hv190, h⟩ := bindE h
                                          refine aw_xs C hX hv190 dL_law_814 ?_
                                          obtain ⟨g191, hg191, h⟩ := bindE h
                                          obtain ⟨v192, hv192, h⟩ := bindE h
                                          refine aw_cV_I C [.int v190] _ (mt_X10_count hv192) cs_X10_count ml_L_85 im_X10_count se_X10_count (ci := 10) rfl rfl hg191 ⟨by decide, by decide⟩ ⟨rfl, rfl⟩ ⟨by decide, by decide⟩ rfl rfl (Nat.le_of_ble_eq_true rfl) dL_law_815 ?_
                                          refine aw_aload_n C 2 dL_law_818 rfl rfl ?_
                                          refine aw_aload_n C 0 dL_law_819 rfl rfl ?_
                                          refine aw_iload_n C 3 dL_law_820 rfl rfl ?_
                                          refine aw_iconst C 1 dL_law_821 (by decide) ?_
                                          refine aw_iadd C dL_law_822 ?_
                                          obtain ⟨v193, hv193, h⟩ := bindE h
                                          refine aw_xs C hX hv193 dL_law_823 ?_
                                          obtain ⟨g194, hg194, h⟩ := bindE h
                                          obtain ⟨v195, hv195, h⟩ := bindE h
                                          refine aw_cV_I C [.int v193] _ (mt_X11_count hv195) cs_X11_count ml_L_88 im_X11_count se_X11_count (ci := 11) rfl rfl hg194 ⟨by decide, by decide⟩ ⟨rfl, rfl⟩ ⟨by decide, by decide⟩ rfl rfl (Nat.le_of_ble_eq_true rfl) dL_law_824 ?_
                                          refine aw_icmp_eq C 1265 dL_law_827 (by decide) (fun c196 => ?_) (fun c196 => ?_)
                                          · rw [if_pos c196] at h
                                            refine aw_iinc C (x3 + 8) 3 [(3, .int (x3 + 8)), (0, .ref b), (1, .ref (gZ G + a1)), (2, .ref (gZ G + a2))] dL_law_1265 rfl rfl (by decide) rfl ?_
                                            refine aw_goto C 18 dL_law_1268 (by decide) ?_
                                            exact aw_sub [1, 2, 3, 0] rfl (ih _ _ h)
                                          · rw [if_neg c196] at h
                                            refine aw_iconst C 0 dL_law_830 (by decide) ?_
                                            exact absurd (inj2 h).1 (by decide)
                                        · rw [if_neg c189] at h
                                          by_cases c197 : (v2 &&& 31) = Int32.ofNat 18
                                          · rw [if_pos c197] at h
                                            refine aw_tin C (18) 832 c197 dL_law_33 (by decide) (by decide) rfl (by decide) ?_
                                            refine aw_aload_n C 1 dL_law_832 rfl rfl ?_
                                            refine aw_aload_n C 0 dL_law_833 rfl rfl ?_
                                            refine aw_iload_n C 3 dL_law_834 rfl rfl ?_
                                            refine aw_iconst C 1 dL_law_835 (by decide) ?_
                                            refine aw_iadd C dL_law_836 ?_
                                            obtain ⟨v198, hv198, h⟩ := bindE h
                                            refine aw_xs C hX hv198 dL_law_837 ?_
                                            refine aw_aload_n C 0 dL_law_838 rfl rfl ?_
                                            refine aw_iload_n C 3 dL_law_839 rfl rfl ?_
                                            refine aw_iconst C 2 dL_law_840 (by decide) ?_
                                            refine aw_iadd C dL_law_841 ?_
                                            obtain ⟨v199, hv199, h⟩ := bindE h
                                            refine aw_xs C hX hv199 dL_law_842 ?_
                                            refine aw_i2l C dL_law_843 ?_
                                            refine aw_bipush C 32 dL_law_844 (by decide) ?_
                                            refine aw_lshl C dL_law_846 ?_
                                            refine aw_aload_n C 0 dL_law_847 rfl rfl ?_
                                            refine aw_iload_n C 3 dL_law_848 rfl rfl ?_
                                            refine aw_iconst C 3 dL_law_849 (by decide) ?_
                                            refine aw_iadd C dL_law_850 ?_
                                            obtain ⟨v200, hv200, h⟩ := bindE h
                                            refine aw_xs C hX hv200 dL_law_851 ?_
                                            refine aw_i2l C dL_law_852 ?_
                                            refine aw_ldc2 C kl_L_89 dL_law_853 ?_
                                            refine aw_land C dL_law_856 ?_
                                            refine aw_lor C dL_law_857 ?_
                                            obtain ⟨g201, hg201, h⟩ := bindE h
                                            obtain ⟨z202, hz202, h⟩ := bindE h
                                            refine aw_cV_I C [.int v198, .long ((v199.toInt64 <<< ((32 : Int32).toInt64 &&& 63)) ||| (v200.toInt64 &&& 4294967295))] _ (mt_X10_feed hz202) cs_X10_feed ml_L_91 im_X10_feed se_X10_feed (ci := 10) rfl rfl hg201 ⟨by decide, by decide⟩ ⟨rfl, rfl⟩ ⟨by decide, by decide⟩ rfl rfl (Nat.le_of_ble_eq_true rfl) dL_law_858 ?_
                                            refine aw_aload_n C 2 dL_law_861 rfl rfl ?_
                                            refine aw_aload_n C 0 dL_law_862 rfl rfl ?_
                                            refine aw_iload_n C 3 dL_law_863 rfl rfl ?_
                                            refine aw_iconst C 1 dL_law_864 (by decide) ?_
                                            refine aw_iadd C dL_law_865 ?_
                                            obtain ⟨v203, hv203, h⟩ := bindE h
                                            refine aw_xs C hX hv203 dL_law_866 ?_
                                            refine aw_aload_n C 0 dL_law_867 rfl rfl ?_
                                            refine aw_iload_n C 3 dL_law_868 rfl rfl ?_
                                            refine aw_iconst C 2 dL_law_869 (by decide) ?_
                                            refine aw_iadd C dL_law_870 ?_
                                            obtain ⟨v204, hv204, h⟩ := bindE h
                                            refine aw_xs C hX hv204 dL_law_871 ?_
                                            refine aw_i2l C dL_law_872 ?_
                                            refine aw_bipush C 32 dL_law_873 (by decide) ?_
                                            refine aw_lshl C dL_law_875 ?_
                                            refine aw_aload_n C 0 dL_law_876 rfl rfl ?_
                                            refine aw_iload_n C 3 dL_law_877 rfl rfl ?_
                                            refine aw_iconst C 3 dL_law_878 (by decide) ?_
                                            refine aw_iadd C dL_law_879 ?_
                                            obtain ⟨v205, hv205, h⟩ := bindE h
                                            refine aw_xs C hX hv205 dL_law_880 ?_
                                            refine aw_i2l C dL_law_881 ?_
                                            refine aw_ldc2 C kl_L_89 dL_law_882 ?_
                                            refine aw_land C dL_law_885 ?_
                                            refine aw_lor C dL_law_886 ?_
                                            obtain ⟨g206, hg206, h⟩ := bindE h
                                            obtain ⟨z207, hz207, h⟩ := bindE h
                                            refine aw_cV_I C [.int v203, .long ((v204.toInt64 <<< ((32 : Int32).toInt64 &&& 63)) ||| (v205.toInt64 &&& 4294967295))] _ (mt_X11_feed hz207) cs_X11_feed ml_L_95 im_X11_feed se_X11_feed (ci := 11) rfl rfl hg206 ⟨by decide, by decide⟩ ⟨rfl, rfl⟩ ⟨by decide, by decide⟩ rfl rfl (Nat.le_of_ble_eq_true rfl) dL_law_887 ?_
                                            refine aw_icmp_eq C 1265 dL_law_890 (by decide) (fun c208 => ?_) (fun c208 => ?_)
                                            · rw [if_pos c208] at h
                                              refine aw_iinc C (x3 + 8) 3 [(3, .int (x3 + 8)), (0, .ref b), (1, .ref (gZ G + a1)), (2, .ref (gZ G + a2))] dL_law_1265 rfl rfl (by decide) rfl ?_
                                              refine aw_goto C 18 dL_law_1268 (by decide) ?_
                                              exact aw_sub [1, 2, 3, 0] rfl (ih _ _ h)
                                            · rw [if_neg c208] at h
                                              refine aw_iconst C 0 dL_law_893 (by decide) ?_
                                              exact absurd (inj2 h).1 (by decide)
                                          · rw [if_neg c197] at h
                                            by_cases c209 : (v2 &&& 31) = Int32.ofNat 19
                                            · rw [if_pos c209] at h
                                              refine aw_tin C (19) 895 c209 dL_law_33 (by decide) (by decide) rfl (by decide) ?_
                                              refine aw_aload_n C 1 dL_law_895 rfl rfl ?_
                                              refine aw_aload_n C 0 dL_law_896 rfl rfl ?_
                                              refine aw_iload_n C 3 dL_law_897 rfl rfl ?_
                                              refine aw_iconst C 1 dL_law_898 (by decide) ?_
                                              refine aw_iadd C dL_law_899 ?_
                                              obtain ⟨v210, hv210, h⟩ := bindE h
                                              refine aw_xs C hX hv210 dL_law_900 ?_
                                              obtain ⟨g211, hg211, h⟩ := bindE h
                                              obtain ⟨z212, hz212, h⟩ := bindE h
                                              refine aw_cV_I C [.int v210] _ (mt_X10_read hz212) cs_X10_read ml_L_96 im_X10_read se_X10_read (ci := 10) rfl rfl hg211 ⟨by decide, by decide⟩ ⟨rfl, rfl⟩ ⟨by decide, by decide⟩ rfl rfl (Nat.le_of_ble_eq_true rfl) dL_law_901 ?_
                                              refine aw_aload_n C 2 dL_law_904 rfl rfl ?_
                                              refine aw_aload_n C 0 dL_law_905 rfl rfl ?_
                                              refine aw_iload_n C 3 dL_law_906 rfl rfl ?_
                                              refine aw_iconst C 1 dL_law_907 (by decide) ?_
                                              refine aw_iadd C dL_law_908 ?_
                                              obtain ⟨v213, hv213, h⟩ := bindE h
                                              refine aw_xs C hX hv213 dL_law_909 ?_
                                              obtain ⟨g214, hg214, h⟩ := bindE h
                                              obtain ⟨z215, hz215, h⟩ := bindE h
                                              refine aw_cV_I C [.int v213] _ (mt_X11_read hz215) cs_X11_read ml_L_99 im_X11_read se_X11_read (ci := 11) rfl rfl hg214 ⟨by decide, by decide⟩ ⟨rfl, rfl⟩ ⟨by decide, by decide⟩ rfl rfl (Nat.le_of_ble_eq_true rfl) dL_law_910 ?_
                                              refine aw_icmp_eq C 1265 dL_law_913 (by decide) (fun c216 => ?_) (fun c216 => ?_)
                                              · rw [if_pos c216] at h
                                                refine aw_iinc C (x3 + 8) 3 [(3, .int (x3 + 8)), (0, .ref b), (1, .ref (gZ G + a1)), (2, .ref (gZ G + a2))] dL_law_1265 rfl rfl (by decide) rfl ?_
                                                refine aw_goto C 18 dL_law_1268 (by decide) ?_
                                                exact aw_sub [1, 2, 3, 0] rfl (ih _ _ h)
                                              · rw [if_neg c216] at h
                                                refine aw_iconst C 0 dL_law_916 (by decide) ?_
                                                exact absurd (inj2 h).1 (by decide)
                                            · rw [if_neg c209] at h
                                              by_cases c217 : (v2 &&& 31) = Int32.ofNat 20
                                              · rw [if_pos c217] at h
                                                refine aw_tin C (20) 918 c217 dL_law_33 (by decide) (by decide) rfl (by decide) ?_
                                                refine aw_aload_n C 1 dL_law_918 rfl rfl ?_
                                                obtain ⟨g218, hg218, h⟩ := bindE h
                                                obtain ⟨v219, hv219, h⟩ := bindE h
                                                refine aw_cV_I C [] _ (mt_X10_fault hv219) cs_X10_fault ml_L_100 im_X10_fault se_X10_fault (ci := 10) rfl rfl hg218 ⟨by decide, by decide⟩ ⟨rfl, rfl⟩ ⟨by decide, by decide⟩ rfl rfl (Nat.le_of_ble_eq_true rfl) dL_law_919 ?_
                                                refine aw_aload_n C 2 dL_law_922 rfl rfl ?_
                                                obtain ⟨g220, hg220, h⟩ := bindE h
                                                obtain ⟨v221, hv221, h⟩ := bindE h
                                                refine aw_cV_I C [] _ (mt_X11_fault hv221) cs_X11_fault ml_L_104 im_X11_fault se_X11_fault (ci := 11) rfl rfl hg220 ⟨by decide, by decide⟩ ⟨rfl, rfl⟩ ⟨by decide, by decide⟩ rfl rfl (Nat.le_of_ble_eq_true rfl) dL_law_923 ?_
                                                refine aw_icmp_eq C 1265 dL_law_926 (by decide) (fun c222 => ?_) (fun c222 => ?_)
                                                · rw [if_pos c222] at h
                                                  refine aw_iinc C (x3 + 8) 3 [(3, .int (x3 + 8)), (0, .ref b), (1, .ref (gZ G + a1)), (2, .ref (gZ G + a2))] dL_law_1265 rfl rfl (by decide) rfl ?_
                                                  refine aw_goto C 18 dL_law_1268 (by decide) ?_
                                                  exact aw_sub [1, 2, 3, 0] rfl (ih _ _ h)
                                                · rw [if_neg c222] at h
                                                  refine aw_iconst C 0 dL_law_929 (by decide) ?_
                                                  exact absurd (inj2 h).1 (by decide)
                                              · rw [if_neg c217] at h
                                                by_cases c223 : (v2 &&& 31) = Int32.ofNat 21
                                                · rw [if_pos c223] at h
                                                  refine aw_tin C (21) 931 c223 dL_law_33 (by decide) (by decide) rfl (by decide) ?_
                                                  refine aw_aload_n C 1 dL_law_931 rfl rfl ?_
                                                  refine aw_aload_n C 0 dL_law_932 rfl rfl ?_
                                                  refine aw_iload_n C 3 dL_law_933 rfl rfl ?_
                                                  refine aw_iconst C 1 dL_law_934 (by decide) ?_
                                                  refine aw_iadd C dL_law_935 ?_
                                                  obtain ⟨v224, hv224, h⟩ := bindE h
                                                  refine aw_xs C hX hv224 dL_law_936 ?_
                                                  refine aw_aload_n C 0 dL_law_937 rfl rfl ?_
                                                  refine aw_iload_n C 3 dL_law_938 rfl rfl ?_
                                                  refine aw_iconst C 2 dL_law_939 (by decide) ?_
                                                  refine aw_iadd C dL_law_940 ?_
                                                  obtain ⟨v225, hv225, h⟩ := bindE h
                                                  refine aw_xs C hX hv225 dL_law_941 ?_
                                                  refine aw_aload_n C 0 dL_law_942 rfl rfl ?_
                                                  refine aw_iload_n C 3 dL_law_943 rfl rfl ?_
                                                  refine aw_iconst C 3 dL_law_944 (by decide) ?_
                                                  refine aw_iadd C dL_law_945 ?_
                                                  obtain ⟨v226, hv226, h⟩ := bindE h
                                                  refine aw_xs C hX hv226 dL_law_946 ?_
                                                  obtain ⟨g227, hg227, h⟩ := bindE h
                                                  obtain ⟨z228, hz228, h⟩ := bindE h
                                                  refine aw_cV_I C [.int v224, .int v225, .int v226] _ (mt_X10_barred hz228) cs_X10_barred ml_L_105 im_X10_barred se_X10_barred (ci := 10) rfl rfl hg227 ⟨by decide, by decide⟩ ⟨rfl, rfl⟩ ⟨by decide, by decide⟩ rfl rfl (Nat.le_of_ble_eq_true rfl) dL_law_947 ?_
                                                  refine aw_aload_n C 2 dL_law_950 rfl rfl ?_
                                                  refine aw_aload_n C 0 dL_law_951 rfl rfl ?_
                                                  refine aw_iload_n C 3 dL_law_952 rfl rfl ?_
                                                  refine aw_iconst C 1 dL_law_953 (by decide) ?_
                                                  refine aw_iadd C dL_law_954 ?_
                                                  obtain ⟨v229, hv229, h⟩ := bindE h
                                                  refine aw_xs C hX hv229 dL_law_955 ?_
                                                  refine aw_aload_n C 0 dL_law_956 rfl rfl ?_
                                                  refine aw_iload_n C 3 dL_law_957 rfl rfl ?_
                                                  refine aw_iconst C 2 dL_law_958 (by decide) ?_
                                                  refine aw_iadd C dL_law_959 ?_
                                                  obtain ⟨v230, hv230, h⟩ := bindE h
                                                  refine aw_xs C hX hv230 dL_law_960 ?_
                                                  refine aw_aload_n C 0 dL_law_961 rfl rfl ?_
                                                  refine aw_iload_n C 3 dL_law_962 rfl rfl ?_
                                                  refine aw_iconst C 3 dL_law_963 (by decide) ?_
                                                  refine aw_iadd C dL_law_964 ?_
                                                  obtain ⟨v231, hv231, h⟩ := bindE h
                                                  refine aw_xs C hX hv231 dL_law_965 ?_
                                                  obtain ⟨g232, hg232, h⟩ := bindE h
                                                  obtain ⟨z233, hz233, h⟩ := bindE h
                                                  refine aw_cV_I C [.int v229, .int v230, .int v231] _ (mt_X11_barred hz233) cs_X11_barred ml_L_108 im_X11_barred se_X11_barred (ci := 11) rfl rfl hg232 ⟨by decide, by decide⟩ ⟨rfl, rfl⟩ ⟨by decide, by decide⟩ rfl rfl (Nat.le_of_ble_eq_true rfl) dL_law_966 ?_
                                                  refine aw_icmp_eq C 1265 dL_law_969 (by decide) (fun c234 => ?_) (fun c234 => ?_)
                                                  · rw [if_pos c234] at h
                                                    refine aw_iinc C (x3 + 8) 3 [(3, .int (x3 + 8)), (0, .ref b), (1, .ref (gZ G + a1)), (2, .ref (gZ G + a2))] dL_law_1265 rfl rfl (by decide) rfl ?_
                                                    refine aw_goto C 18 dL_law_1268 (by decide) ?_
                                                    exact aw_sub [1, 2, 3, 0] rfl (ih _ _ h)
                                                  · rw [if_neg c234] at h
                                                    refine aw_iconst C 0 dL_law_972 (by decide) ?_
                                                    exact absurd (inj2 h).1 (by decide)
                                                · rw [if_neg c223] at h
                                                  by_cases c235 : (v2 &&& 31) = Int32.ofNat 22
                                                  · rw [if_pos c235] at h
                                                    refine aw_tin C (22) 974 c235 dL_law_33 (by decide) (by decide) rfl (by decide) ?_
                                                    refine aw_aload_n C 1 dL_law_974 rfl rfl ?_
                                                    refine aw_aload_n C 0 dL_law_975 rfl rfl ?_
                                                    refine aw_iload_n C 3 dL_law_976 rfl rfl ?_
                                                    refine aw_iconst C 1 dL_law_977 (by decide) ?_
                                                    refine aw_iadd C dL_law_978 ?_
                                                    obtain ⟨v236, hv236, h⟩ := bindE h
                                                    refine aw_xs C hX hv236 dL_law_979 ?_
                                                    refine aw_aload_n C 0 dL_law_980 rfl rfl ?_
                                                    refine aw_iload_n C 3 dL_law_981 rfl rfl ?_
                                                    refine aw_iconst C 2 dL_law_982 (by decide) ?_
                                                    refine aw_iadd C dL_law_983 ?_
                                                    obtain ⟨v237, hv237, h⟩ := bindE h
                                                    refine aw_xs C hX hv237 dL_law_984 ?_
                                                    refine aw_aload_n C 0 dL_law_985 rfl rfl ?_
                                                    refine aw_iload_n C 3 dL_law_986 rfl rfl ?_
                                                    refine aw_iconst C 3 dL_law_987 (by decide) ?_
                                                    refine aw_iadd C dL_law_988 ?_
                                                    obtain ⟨v238, hv238, h⟩ := bindE h
                                                    refine aw_xs C hX hv238 dL_law_989 ?_
                                                    refine aw_aload_n C 0 dL_law_990 rfl rfl ?_
                                                    refine aw_iload_n C 3 dL_law_991 rfl rfl ?_
                                                    refine aw_iconst C 4 dL_law_992 (by decide) ?_
                                                    refine aw_iadd C dL_law_993 ?_
                                                    obtain ⟨v239, hv239, h⟩ := bindE h
                                                    refine aw_xs C hX hv239 dL_law_994 ?_
                                                    obtain ⟨g240, hg240, h⟩ := bindE h
                                                    obtain ⟨z241, hz241, h⟩ := bindE h
                                                    refine aw_cV_I C [.int v236, .int v237, .int v238, .int v239] _ (mt_X10_plan hz241) cs_X10_plan ml_L_109 im_X10_plan se_X10_plan (ci := 10) rfl rfl hg240 ⟨by decide, by decide⟩ ⟨rfl, rfl⟩ ⟨by decide, by decide⟩ rfl rfl (Nat.le_of_ble_eq_true rfl) dL_law_995 ?_
                                                    refine aw_aload_n C 2 dL_law_998 rfl rfl ?_
                                                    refine aw_aload_n C 0 dL_law_999 rfl rfl ?_
                                                    refine aw_iload_n C 3 dL_law_1000 rfl rfl ?_
                                                    refine aw_iconst C 1 dL_law_1001 (by decide) ?_
                                                    refine aw_iadd C dL_law_1002 ?_
                                                    obtain ⟨v242, hv242, h⟩ := bindE h
                                                    refine aw_xs C hX hv242 dL_law_1003 ?_
                                                    refine aw_aload_n C 0 dL_law_1004 rfl rfl ?_
                                                    refine aw_iload_n C 3 dL_law_1005 rfl rfl ?_
                                                    refine aw_iconst C 2 dL_law_1006 (by decide) ?_
                                                    refine aw_iadd C dL_law_1007 ?_
                                                    obtain ⟨v243, hv243, h⟩ := bindE h
                                                    refine aw_xs C hX hv243 dL_law_1008 ?_
                                                    refine aw_aload_n C 0 dL_law_1009 rfl rfl ?_
                                                    refine aw_iload_n C 3 dL_law_1010 rfl rfl ?_
                                                    refine aw_iconst C 3 dL_law_1011 (by decide) ?_
                                                    refine aw_iadd C dL_law_1012 ?_
                                                    obtain ⟨v244, hv244, h⟩ := bindE h
                                                    refine aw_xs C hX hv244 dL_law_1013 ?_
                                                    refine aw_aload_n C 0 dL_law_1014 rfl rfl ?_
                                                    refine aw_iload_n C 3 dL_law_1015 rfl rfl ?_
                                                    refine aw_iconst C 4 dL_law_1016 (by decide) ?_
                                                    refine aw_iadd C dL_law_1017 ?_
                                                    obtain ⟨v245, hv245, h⟩ := bindE h
                                                    refine aw_xs C hX hv245 dL_law_1018 ?_
                                                    obtain ⟨g246, hg246, h⟩ := bindE h
                                                    obtain ⟨z247, hz247, h⟩ := bindE h
                                                    refine aw_cV_I C [.int v242, .int v243, .int v244, .int v245] _ (mt_X11_plan hz247) cs_X11_plan ml_L_113 im_X11_plan se_X11_plan (ci := 11) rfl rfl hg246 ⟨by decide, by decide⟩ ⟨rfl, rfl⟩ ⟨by decide, by decide⟩ rfl rfl (Nat.le_of_ble_eq_true rfl) dL_law_1019 ?_
                                                    refine aw_icmp_eq C 1265 dL_law_1022 (by decide) (fun c248 => ?_) (fun c248 => ?_)
                                                    · rw [if_pos c248] at h
                                                      refine aw_iinc C (x3 + 8) 3 [(3, .int (x3 + 8)), (0, .ref b), (1, .ref (gZ G + a1)), (2, .ref (gZ G + a2))] dL_law_1265 rfl rfl (by decide) rfl ?_
                                                      refine aw_goto C 18 dL_law_1268 (by decide) ?_
                                                      exact aw_sub [1, 2, 3, 0] rfl (ih _ _ h)
                                                    · rw [if_neg c248] at h
                                                      refine aw_iconst C 0 dL_law_1025 (by decide) ?_
                                                      exact absurd (inj2 h).1 (by decide)
                                                  · rw [if_neg c235] at h
                                                    by_cases c249 : (v2 &&& 31) = Int32.ofNat 23
                                                    · rw [if_pos c249] at h
                                                      refine aw_tin C (23) 1027 c249 dL_law_33 (by decide) (by decide) rfl (by decide) ?_
                                                      refine aw_aload_n C 1 dL_law_1027 rfl rfl ?_
                                                      refine aw_aload_n C 0 dL_law_1028 rfl rfl ?_
                                                      refine aw_iload_n C 3 dL_law_1029 rfl rfl ?_
                                                      refine aw_iconst C 1 dL_law_1030 (by decide) ?_
                                                      refine aw_iadd C dL_law_1031 ?_
                                                      obtain ⟨v250, hv250, h⟩ := bindE h
                                                      refine aw_xs C hX hv250 dL_law_1032 ?_
                                                      refine aw_aload_n C 0 dL_law_1033 rfl rfl ?_
                                                      refine aw_iload_n C 3 dL_law_1034 rfl rfl ?_
                                                      refine aw_iconst C 2 dL_law_1035 (by decide) ?_
                                                      refine aw_iadd C dL_law_1036 ?_
                                                      obtain ⟨v251, hv251, h⟩ := bindE h
                                                      refine aw_xs C hX hv251 dL_law_1037 ?_
                                                      refine aw_aload_n C 0 dL_law_1038 rfl rfl ?_
                                                      refine aw_iload_n C 3 dL_law_1039 rfl rfl ?_
                                                      refine aw_iconst C 3 dL_law_1040 (by decide) ?_
                                                      refine aw_iadd C dL_law_1041 ?_
                                                      obtain ⟨v252, hv252, h⟩ := bindE h
                                                      refine aw_xs C hX hv252 dL_law_1042 ?_
                                                      obtain ⟨g253, hg253, h⟩ := bindE h
                                                      obtain ⟨z254, hz254, h⟩ := bindE h
                                                      refine aw_cV_I C [.int v250, .int v251, .int v252] _ (mt_X10_say hz254) cs_X10_say ml_L_114 im_X10_say se_X10_say (ci := 10) rfl rfl hg253 ⟨by decide, by decide⟩ ⟨rfl, rfl⟩ ⟨by decide, by decide⟩ rfl rfl (Nat.le_of_ble_eq_true rfl) dL_law_1043 ?_
                                                      refine aw_aload_n C 2 dL_law_1046 rfl rfl ?_
                                                      refine aw_aload_n C 0 dL_law_1047 rfl rfl ?_
                                                      refine aw_iload_n C 3 dL_law_1048 rfl rfl ?_
                                                      refine aw_iconst C 1 dL_law_1049 (by decide) ?_
                                                      refine aw_iadd C dL_law_1050 ?_
                                                      obtain ⟨v255, hv255, h⟩ := bindE h
                                                      refine aw_xs C hX hv255 dL_law_1051 ?_
                                                      refine aw_aload_n C 0 dL_law_1052 rfl rfl ?_
                                                      refine aw_iload_n C 3 dL_law_1053 rfl rfl ?_
                                                      refine aw_iconst C 2 dL_law_1054 (by decide) ?_
                                                      refine aw_iadd C dL_law_1055 ?_
                                                      obtain ⟨v256, hv256, h⟩ := bindE h
                                                      refine aw_xs C hX hv256 dL_law_1056 ?_
                                                      refine aw_aload_n C 0 dL_law_1057 rfl rfl ?_
                                                      refine aw_iload_n C 3 dL_law_1058 rfl rfl ?_
                                                      refine aw_iconst C 3 dL_law_1059 (by decide) ?_
                                                      refine aw_iadd C dL_law_1060 ?_
                                                      obtain ⟨v257, hv257, h⟩ := bindE h
                                                      refine aw_xs C hX hv257 dL_law_1061 ?_
                                                      obtain ⟨g258, hg258, h⟩ := bindE h
                                                      obtain ⟨z259, hz259, h⟩ := bindE h
                                                      refine aw_cV_I C [.int v255, .int v256, .int v257] _ (mt_X11_say hz259) cs_X11_say ml_L_117 im_X11_say se_X11_say (ci := 11) rfl rfl hg258 ⟨by decide, by decide⟩ ⟨rfl, rfl⟩ ⟨by decide, by decide⟩ rfl rfl (Nat.le_of_ble_eq_true rfl) dL_law_1062 ?_
                                                      refine aw_icmp_eq C 1265 dL_law_1065 (by decide) (fun c260 => ?_) (fun c260 => ?_)
                                                      · rw [if_pos c260] at h
                                                        refine aw_iinc C (x3 + 8) 3 [(3, .int (x3 + 8)), (0, .ref b), (1, .ref (gZ G + a1)), (2, .ref (gZ G + a2))] dL_law_1265 rfl rfl (by decide) rfl ?_
                                                        refine aw_goto C 18 dL_law_1268 (by decide) ?_
                                                        exact aw_sub [1, 2, 3, 0] rfl (ih _ _ h)
                                                      · rw [if_neg c260] at h
                                                        refine aw_iconst C 0 dL_law_1068 (by decide) ?_
                                                        exact absurd (inj2 h).1 (by decide)
                                                    · rw [if_neg c249] at h
                                                      by_cases c261 : (v2 &&& 31) = Int32.ofNat 24
                                                      · rw [if_pos c261] at h
                                                        refine aw_tin C (24) 1070 c261 dL_law_33 (by decide) (by decide) rfl (by decide) ?_
                                                        refine aw_aload_n C 1 dL_law_1070 rfl rfl ?_
                                                        refine aw_aload_n C 0 dL_law_1071 rfl rfl ?_
                                                        refine aw_iload_n C 3 dL_law_1072 rfl rfl ?_
                                                        refine aw_iconst C 1 dL_law_1073 (by decide) ?_
                                                        refine aw_iadd C dL_law_1074 ?_
                                                        obtain ⟨v262, hv262, h⟩ := bindE h
                                                        refine aw_xs C hX hv262 dL_law_1075 ?_
                                                        refine aw_aload_n C 0 dL_law_1076 rfl rfl ?_
                                                        refine aw_iload_n C 3 dL_law_1077 rfl rfl ?_
                                                        refine aw_iconst C 2 dL_law_1078 (by decide) ?_
                                                        refine aw_iadd C dL_law_1079 ?_
                                                        obtain ⟨v263, hv263, h⟩ := bindE h
                                                        refine aw_xs C hX hv263 dL_law_1080 ?_
                                                        obtain ⟨g264, hg264, h⟩ := bindE h
                                                        obtain ⟨z265, hz265, h⟩ := bindE h
                                                        refine aw_cV_I C [.int v262, .int v263] _ (mt_X10_came hz265) cs_X10_came ml_L_118 im_X10_came se_X10_came (ci := 10) rfl rfl hg264 ⟨by decide, by decide⟩ ⟨rfl, rfl⟩ ⟨by decide, by decide⟩ rfl rfl (Nat.le_of_ble_eq_true rfl) dL_law_1081 ?_
                                                        refine aw_aload_n C 2 dL_law_1084 rfl rfl ?_
                                                        refine aw_aload_n C 0 dL_law_1085 rfl rfl ?_
                                                        refine aw_iload_n C 3 dL_law_1086 rfl rfl ?_
                                                        refine aw_iconst C 1 dL_law_1087 (by decide) ?_
                                                        refine aw_iadd C dL_law_1088 ?_
                                                        obtain ⟨v266, hv266, h⟩ := bindE h
                                                        refine aw_xs C hX hv266 dL_law_1089 ?_
                                                        refine aw_aload_n C 0 dL_law_1090 rfl rfl ?_
                                                        refine aw_iload_n C 3 dL_law_1091 rfl rfl ?_
                                                        refine aw_iconst C 2 dL_law_1092 (by decide) ?_
                                                        refine aw_iadd C dL_law_1093 ?_
                                                        obtain ⟨v267, hv267, h⟩ := bindE h
                                                        refine aw_xs C hX hv267 dL_law_1094 ?_
                                                        obtain ⟨g268, hg268, h⟩ := bindE h
                                                        obtain ⟨z269, hz269, h⟩ := bindE h
                                                        refine aw_cV_I C [.int v266, .int v267] _ (mt_X11_came hz269) cs_X11_came ml_L_121 im_X11_came se_X11_came (ci := 11) rfl rfl hg268 ⟨by decide, by decide⟩ ⟨rfl, rfl⟩ ⟨by decide, by decide⟩ rfl rfl (Nat.le_of_ble_eq_true rfl) dL_law_1095 ?_
                                                        refine aw_icmp_eq C 1265 dL_law_1098 (by decide) (fun c270 => ?_) (fun c270 => ?_)
                                                        · rw [if_pos c270] at h
                                                          refine aw_iinc C (x3 + 8) 3 [(3, .int (x3 + 8)), (0, .ref b), (1, .ref (gZ G + a1)), (2, .ref (gZ G + a2))] dL_law_1265 rfl rfl (by decide) rfl ?_
                                                          refine aw_goto C 18 dL_law_1268 (by decide) ?_
                                                          exact aw_sub [1, 2, 3, 0] rfl (ih _ _ h)
                                                        · rw [if_neg c270] at h
                                                          refine aw_iconst C 0 dL_law_1101 (by decide) ?_
                                                          exact absurd (inj2 h).1 (by decide)
                                                      · rw [if_neg c261] at h
                                                        by_cases c271 : (v2 &&& 31) = Int32.ofNat 25
                                                        · rw [if_pos c271] at h
                                                          refine aw_tin C (25) 1103 c271 dL_law_33 (by decide) (by decide) rfl (by decide) ?_
                                                          refine aw_aload_n C 1 dL_law_1103 rfl rfl ?_
                                                          refine aw_aload_n C 0 dL_law_1104 rfl rfl ?_
                                                          refine aw_iload_n C 3 dL_law_1105 rfl rfl ?_
                                                          refine aw_iconst C 1 dL_law_1106 (by decide) ?_
                                                          refine aw_iadd C dL_law_1107 ?_
                                                          obtain ⟨v272, hv272, h⟩ := bindE h
                                                          refine aw_xs C hX hv272 dL_law_1108 ?_
                                                          refine aw_aload_n C 0 dL_law_1109 rfl rfl ?_
                                                          refine aw_iload_n C 3 dL_law_1110 rfl rfl ?_
                                                          refine aw_iconst C 2 dL_law_1111 (by decide) ?_
                                                          refine aw_iadd C dL_law_1112 ?_
                                                          obtain ⟨v273, hv273, h⟩ := bindE h
                                                          refine aw_xs C hX hv273 dL_law_1113 ?_
                                                          obtain ⟨g274, hg274, h⟩ := bindE h
                                                          obtain ⟨v275, hv275, h⟩ := bindE h
                                                          refine aw_cV_I C [.int v272, .int v273] _ (mt_X10_saying hv275) cs_X10_saying ml_L_122 im_X10_saying se_X10_saying (ci := 10) rfl rfl hg274 ⟨by decide, by decide⟩ ⟨rfl, rfl⟩ ⟨by decide, by decide⟩ rfl rfl (Nat.le_of_ble_eq_true rfl) dL_law_1114 ?_
                                                          refine aw_aload_n C 2 dL_law_1117 rfl rfl ?_
                                                          refine aw_aload_n C 0 dL_law_1118 rfl rfl ?_
                                                          refine aw_iload_n C 3 dL_law_1119 rfl rfl ?_
                                                          refine aw_iconst C 1 dL_law_1120 (by decide) ?_
                                                          refine aw_iadd C dL_law_1121 ?_
                                                          obtain ⟨v276, hv276, h⟩ := bindE h
                                                          refine aw_xs C hX hv276 dL_law_1122 ?_
                                                          refine aw_aload_n C 0 dL_law_1123 rfl rfl ?_
                                                          refine aw_iload_n C 3 dL_law_1124 rfl rfl ?_
                                                          refine aw_iconst C 2 dL_law_1125 (by decide) ?_
                                                          refine aw_iadd C dL_law_1126 ?_
                                                          obtain ⟨v277, hv277, h⟩ := bindE h
                                                          refine aw_xs C hX hv277 dL_law_1127 ?_
                                                          obtain ⟨g278, hg278, h⟩ := bindE h
                                                          obtain ⟨v279, hv279, h⟩ := bindE h
                                                          refine aw_cV_I C [.int v276, .int v277] _ (mt_X11_saying hv279) cs_X11_saying ml_L_125 im_X11_saying se_X11_saying (ci := 11) rfl rfl hg278 ⟨by decide, by decide⟩ ⟨rfl, rfl⟩ ⟨by decide, by decide⟩ rfl rfl (Nat.le_of_ble_eq_true rfl) dL_law_1128 ?_
                                                          refine aw_icmp_eq C 1265 dL_law_1131 (by decide) (fun c280 => ?_) (fun c280 => ?_)
                                                          · rw [if_pos c280] at h
                                                            refine aw_iinc C (x3 + 8) 3 [(3, .int (x3 + 8)), (0, .ref b), (1, .ref (gZ G + a1)), (2, .ref (gZ G + a2))] dL_law_1265 rfl rfl (by decide) rfl ?_
                                                            refine aw_goto C 18 dL_law_1268 (by decide) ?_
                                                            exact aw_sub [1, 2, 3, 0] rfl (ih _ _ h)
                                                          · rw [if_neg c280] at h
                                                            refine aw_iconst C 0 dL_law_1134 (by decide) ?_
                                                            exact absurd (inj2 h).1 (by decide)
                                                        · rw [if_neg c271] at h
                                                          by_cases c281 : (v2 &&& 31) = Int32.ofNat 26
                                                          · rw [if_pos c281] at h
                                                            refine aw_tin C (26) 1136 c281 dL_law_33 (by decide) (by decide) rfl (by decide) ?_
                                                            refine aw_aload_n C 1 dL_law_1136 rfl rfl ?_
                                                            refine aw_aload_n C 0 dL_law_1137 rfl rfl ?_
                                                            refine aw_iload_n C 3 dL_law_1138 rfl rfl ?_
                                                            refine aw_iconst C 1 dL_law_1139 (by decide) ?_
                                                            refine aw_iadd C dL_law_1140 ?_
                                                            obtain ⟨v282, hv282, h⟩ := bindE h
                                                            refine aw_xs C hX hv282 dL_law_1141 ?_
                                                            refine aw_aload_n C 0 dL_law_1142 rfl rfl ?_
                                                            refine aw_iload_n C 3 dL_law_1143 rfl rfl ?_
                                                            refine aw_iconst C 2 dL_law_1144 (by decide) ?_
                                                            refine aw_iadd C dL_law_1145 ?_
                                                            obtain ⟨v283, hv283, h⟩ := bindE h
                                                            refine aw_xs C hX hv283 dL_law_1146 ?_
                                                            refine aw_aload_n C 0 dL_law_1147 rfl rfl ?_
                                                            refine aw_iload_n C 3 dL_law_1148 rfl rfl ?_
                                                            refine aw_iconst C 3 dL_law_1149 (by decide) ?_
                                                            refine aw_iadd C dL_law_1150 ?_
                                                            obtain ⟨v284, hv284, h⟩ := bindE h
                                                            refine aw_xs C hX hv284 dL_law_1151 ?_
                                                            obtain ⟨g285, hg285, h⟩ := bindE h
                                                            obtain ⟨v286, hv286, h⟩ := bindE h
                                                            refine aw_cV_I C [.int v282, .int v283, .int v284] _ (mt_X10_learnt hv286) cs_X10_learnt ml_L_126 im_X10_learnt se_X10_learnt (ci := 10) rfl rfl hg285 ⟨by decide, by decide⟩ ⟨rfl, rfl⟩ ⟨by decide, by decide⟩ rfl rfl (Nat.le_of_ble_eq_true rfl) dL_law_1152 ?_
                                                            refine aw_aload_n C 2 dL_law_1155 rfl rfl ?_
                                                            refine aw_aload_n C 0 dL_law_1156 rfl rfl ?_
                                                            refine aw_iload_n C 3 dL_law_1157 rfl rfl ?_
                                                            refine aw_iconst C 1 dL_law_1158 (by decide) ?_
                                                            refine aw_iadd C dL_law_1159 ?_
                                                            obtain ⟨v287, hv287, h⟩ := bindE h
                                                            refine aw_xs C hX hv287 dL_law_1160 ?_
                                                            refine aw_aload_n C 0 dL_law_1161 rfl rfl ?_
                                                            refine aw_iload_n C 3 dL_law_1162 rfl rfl ?_
                                                            refine aw_iconst C 2 dL_law_1163 (by decide) ?_
                                                            refine aw_iadd C dL_law_1164 ?_
                                                            obtain ⟨v288, hv288, h⟩ := bindE h
                                                            refine aw_xs C hX hv288 dL_law_1165 ?_
                                                            refine aw_aload_n C 0 dL_law_1166 rfl rfl ?_
                                                            refine aw_iload_n C 3 dL_law_1167 rfl rfl ?_
                                                            refine aw_iconst C 3 dL_law_1168 (by decide) ?_
                                                            refine aw_iadd C dL_law_1169 ?_
                                                            obtain ⟨v289, hv289, h⟩ := bindE h
                                                            refine aw_xs C hX hv289 dL_law_1170 ?_
                                                            obtain ⟨g290, hg290, h⟩ := bindE h
                                                            obtain ⟨v291, hv291, h⟩ := bindE h
                                                            refine aw_cV_I C [.int v287, .int v288, .int v289] _ (mt_X11_learnt hv291) cs_X11_learnt ml_L_129 im_X11_learnt se_X11_learnt (ci := 11) rfl rfl hg290 ⟨by decide, by decide⟩ ⟨rfl, rfl⟩ ⟨by decide, by decide⟩ rfl rfl (Nat.le_of_ble_eq_true rfl) dL_law_1171 ?_
                                                            refine aw_icmp_eq C 1265 dL_law_1174 (by decide) (fun c292 => ?_) (fun c292 => ?_)
                                                            · rw [if_pos c292] at h
                                                              refine aw_iinc C (x3 + 8) 3 [(3, .int (x3 + 8)), (0, .ref b), (1, .ref (gZ G + a1)), (2, .ref (gZ G + a2))] dL_law_1265 rfl rfl (by decide) rfl ?_
                                                              refine aw_goto C 18 dL_law_1268 (by decide) ?_
                                                              exact aw_sub [1, 2, 3, 0] rfl (ih _ _ h)
                                                            · rw [if_neg c292] at h
                                                              refine aw_iconst C 0 dL_law_1177 (by decide) ?_
                                                              exact absurd (inj2 h).1 (by decide)
                                                          · rw [if_neg c281] at h
                                                            by_cases c293 : (v2 &&& 31) = Int32.ofNat 27
                                                            · rw [if_pos c293] at h
                                                              refine aw_tin C (27) 1179 c293 dL_law_33 (by decide) (by decide) rfl (by decide) ?_
                                                              refine aw_aload_n C 1 dL_law_1179 rfl rfl ?_
                                                              refine aw_aload_n C 0 dL_law_1180 rfl rfl ?_
                                                              refine aw_iload_n C 3 dL_law_1181 rfl rfl ?_
                                                              refine aw_iconst C 1 dL_law_1182 (by decide) ?_
                                                              refine aw_iadd C dL_law_1183 ?_
                                                              obtain ⟨v294, hv294, h⟩ := bindE h
                                                              refine aw_xs C hX hv294 dL_law_1184 ?_
                                                              refine aw_aload_n C 0 dL_law_1185 rfl rfl ?_
                                                              refine aw_iload_n C 3 dL_law_1186 rfl rfl ?_
                                                              refine aw_iconst C 2 dL_law_1187 (by decide) ?_
                                                              refine aw_iadd C dL_law_1188 ?_
                                                              obtain ⟨v295, hv295, h⟩ := bindE h
                                                              refine aw_xs C hX hv295 dL_law_1189 ?_
                                                              obtain ⟨g296, hg296, h⟩ := bindE h
                                                              obtain ⟨z297, hz297, h⟩ := bindE h
                                                              refine aw_cV_I C [.int v294, .int v295] _ (mt_X10_who hz297) cs_X10_who ml_L_130 im_X10_who se_X10_who (ci := 10) rfl rfl hg296 ⟨by decide, by decide⟩ ⟨rfl, rfl⟩ ⟨by decide, by decide⟩ rfl rfl (Nat.le_of_ble_eq_true rfl) dL_law_1190 ?_
                                                              refine aw_aload_n C 2 dL_law_1193 rfl rfl ?_
                                                              refine aw_aload_n C 0 dL_law_1194 rfl rfl ?_
                                                              refine aw_iload_n C 3 dL_law_1195 rfl rfl ?_
                                                              refine aw_iconst C 1 dL_law_1196 (by decide) ?_
                                                              refine aw_iadd C dL_law_1197 ?_
                                                              obtain ⟨v298, hv298, h⟩ := bindE h
                                                              refine aw_xs C hX hv298 dL_law_1198 ?_
                                                              refine aw_aload_n C 0 dL_law_1199 rfl rfl ?_
                                                              refine aw_iload_n C 3 dL_law_1200 rfl rfl ?_
                                                              refine aw_iconst C 2 dL_law_1201 (by decide) ?_
                                                              refine aw_iadd C dL_law_1202 ?_
                                                              obtain ⟨v299, hv299, h⟩ := bindE h
                                                              refine aw_xs C hX hv299 dL_law_1203 ?_
                                                              obtain ⟨g300, hg300, h⟩ := bindE h
                                                              obtain ⟨z301, hz301, h⟩ := bindE h
                                                              refine aw_cV_I C [.int v298, .int v299] _ (mt_X11_who hz301) cs_X11_who ml_L_133 im_X11_who se_X11_who (ci := 11) rfl rfl hg300 ⟨by decide, by decide⟩ ⟨rfl, rfl⟩ ⟨by decide, by decide⟩ rfl rfl (Nat.le_of_ble_eq_true rfl) dL_law_1204 ?_
                                                              refine aw_icmp_eq C 1265 dL_law_1207 (by decide) (fun c302 => ?_) (fun c302 => ?_)
                                                              · rw [if_pos c302] at h
                                                                refine aw_iinc C (x3 + 8) 3 [(3, .int (x3 + 8)), (0, .ref b), (1, .ref (gZ G + a1)), (2, .ref (gZ G + a2))] dL_law_1265 rfl rfl (by decide) rfl ?_
                                                                refine aw_goto C 18 dL_law_1268 (by decide) ?_
                                                                exact aw_sub [1, 2, 3, 0] rfl (ih _ _ h)
                                                              · rw [if_neg c302] at h
                                                                refine aw_iconst C 0 dL_law_1210 (by decide) ?_
                                                                exact absurd (inj2 h).1 (by decide)
                                                            · rw [if_neg c293] at h
                                                              by_cases c303 : (v2 &&& 31) = Int32.ofNat 28
                                                              · rw [if_pos c303] at h
                                                                refine aw_tin C (28) 1212 c303 dL_law_33 (by decide) (by decide) rfl (by decide) ?_
                                                                refine aw_aload_n C 1 dL_law_1212 rfl rfl ?_
                                                                refine aw_aload_n C 0 dL_law_1213 rfl rfl ?_
                                                                refine aw_iload_n C 3 dL_law_1214 rfl rfl ?_
                                                                refine aw_iconst C 1 dL_law_1215 (by decide) ?_
                                                                refine aw_iadd C dL_law_1216 ?_
                                                                obtain ⟨v304, hv304, h⟩ := bindE h
                                                                refine aw_xs C hX hv304 dL_law_1217 ?_
                                                                refine aw_aload_n C 0 dL_law_1218 rfl rfl ?_
                                                                refine aw_iload_n C 3 dL_law_1219 rfl rfl ?_
                                                                refine aw_iconst C 2 dL_law_1220 (by decide) ?_
                                                                refine aw_iadd C dL_law_1221 ?_
                                                                obtain ⟨v305, hv305, h⟩ := bindE h
                                                                refine aw_xs C hX hv305 dL_law_1222 ?_
                                                                refine aw_aload_n C 0 dL_law_1223 rfl rfl ?_
                                                                refine aw_iload_n C 3 dL_law_1224 rfl rfl ?_
                                                                refine aw_iconst C 3 dL_law_1225 (by decide) ?_
                                                                refine aw_iadd C dL_law_1226 ?_
                                                                obtain ⟨v306, hv306, h⟩ := bindE h
                                                                refine aw_xs C hX hv306 dL_law_1227 ?_
                                                                refine aw_aload_n C 0 dL_law_1228 rfl rfl ?_
                                                                refine aw_iload_n C 3 dL_law_1229 rfl rfl ?_
                                                                refine aw_iconst C 4 dL_law_1230 (by decide) ?_
                                                                refine aw_iadd C dL_law_1231 ?_
                                                                obtain ⟨v307, hv307, h⟩ := bindE h
                                                                refine aw_xs C hX hv307 dL_law_1232 ?_
                                                                obtain ⟨g308, hg308, h⟩ := bindE h
                                                                obtain ⟨z309, hz309, h⟩ := bindE h
                                                                refine aw_cV_I C [.int v304, .int v305, .int v306, .int v307] _ (mt_X10_tried hz309) cs_X10_tried ml_L_134 im_X10_tried se_X10_tried (ci := 10) rfl rfl hg308 ⟨by decide, by decide⟩ ⟨rfl, rfl⟩ ⟨by decide, by decide⟩ rfl rfl (Nat.le_of_ble_eq_true rfl) dL_law_1233 ?_
                                                                refine aw_aload_n C 2 dL_law_1236 rfl rfl ?_
                                                                refine aw_aload_n C 0 dL_law_1237 rfl rfl ?_
                                                                refine aw_iload_n C 3 dL_law_1238 rfl rfl ?_
                                                                refine aw_iconst C 1 dL_law_1239 (by decide) ?_
                                                                refine aw_iadd C dL_law_1240 ?_
                                                                obtain ⟨v310, hv310, h⟩ := bindE h
                                                                refine aw_xs C hX hv310 dL_law_1241 ?_
                                                                refine aw_aload_n C 0 dL_law_1242 rfl rfl ?_
                                                                refine aw_iload_n C 3 dL_law_1243 rfl rfl ?_
                                                                refine aw_iconst C 2 dL_law_1244 (by decide) ?_
                                                                refine aw_iadd C dL_law_1245 ?_
                                                                obtain ⟨v311, hv311, h⟩ := bindE h
                                                                refine aw_xs C hX hv311 dL_law_1246 ?_
                                                                refine aw_aload_n C 0 dL_law_1247 rfl rfl ?_
                                                                refine aw_iload_n C 3 dL_law_1248 rfl rfl ?_
                                                                refine aw_iconst C 3 dL_law_1249 (by decide) ?_
                                                                refine aw_iadd C dL_law_1250 ?_
                                                                obtain ⟨v312, hv312, h⟩ := bindE h
                                                                refine aw_xs C hX hv312 dL_law_1251 ?_
                                                                refine aw_aload_n C 0 dL_law_1252 rfl rfl ?_
                                                                refine aw_iload_n C 3 dL_law_1253 rfl rfl ?_
                                                                refine aw_iconst C 4 dL_law_1254 (by decide) ?_
                                                                refine aw_iadd C dL_law_1255 ?_
                                                                obtain ⟨v313, hv313, h⟩ := bindE h
                                                                refine aw_xs C hX hv313 dL_law_1256 ?_
                                                                obtain ⟨g314, hg314, h⟩ := bindE h
                                                                obtain ⟨z315, hz315, h⟩ := bindE h
                                                                refine aw_cV_I C [.int v310, .int v311, .int v312, .int v313] _ (mt_X11_tried hz315) cs_X11_tried ml_L_137 im_X11_tried se_X11_tried (ci := 11) rfl rfl hg314 ⟨by decide, by decide⟩ ⟨rfl, rfl⟩ ⟨by decide, by decide⟩ rfl rfl (Nat.le_of_ble_eq_true rfl) dL_law_1257 ?_
                                                                refine aw_icmp_eq C 1265 dL_law_1260 (by decide) (fun c316 => ?_) (fun c316 => ?_)
                                                                · rw [if_pos c316] at h
                                                                  refine aw_iinc C (x3 + 8) 3 [(3, .int (x3 + 8)), (0, .ref b), (1, .ref (gZ G + a1)), (2, .ref (gZ G + a2))] dL_law_1265 rfl rfl (by decide) rfl ?_
                                                                  refine aw_goto C 18 dL_law_1268 (by decide) ?_
                                                                  exact aw_sub [1, 2, 3, 0] rfl (ih _ _ h)
                                                                · rw [if_neg c316] at h
                                                                  refine aw_iconst C 0 dL_law_1263 (by decide) ?_
                                                                  exact absurd (inj2 h).1 (by decide)
                                                              · rw [if_neg c303] at h
                                                                refine aw_tout C 1265 dL_law_33 (tsw_out 29 (by decide) (fun k hk => by rcases (show k = 0 ∨ k = 1 ∨ k = 2 ∨ k = 3 ∨ k = 4 ∨ k = 5 ∨ k = 6 ∨ k = 7 ∨ k = 8 ∨ k = 9 ∨ k = 10 ∨ k = 11 ∨ k = 12 ∨ k = 13 ∨ k = 14 ∨ k = 15 ∨ k = 16 ∨ k = 17 ∨ k = 18 ∨ k = 19 ∨ k = 20 ∨ k = 21 ∨ k = 22 ∨ k = 23 ∨ k = 24 ∨ k = 25 ∨ k = 26 ∨ k = 27 ∨ k = 28 by omega) with rfl | rfl | rfl | rfl | rfl | rfl | rfl | rfl | rfl | rfl | rfl | rfl | rfl | rfl | rfl | rfl | rfl | rfl | rfl | rfl | rfl | rfl | rfl | rfl | rfl | rfl | rfl | rfl | rfl <;> assumption)) (by decide) ?_
                                                                refine aw_iinc C (x3 + 8) 3 [(3, .int (x3 + 8)), (0, .ref b), (1, .ref (gZ G + a1)), (2, .ref (gZ G + a2))] dL_law_1265 rfl rfl (by decide) rfl ?_
                                                                refine aw_goto C 18 dL_law_1268 (by decide) ?_
                                                                exact aw_sub [1, 2, 3, 0] rfl (ih _ _ h)
set_option maxRecDepth 100000 in
set_option maxHeartbeats 4000000 in
theorem wk_L_law {G : GL} {X : CX} {b nx : Nat} {xs : Nat → Int32} {μ μ9 : Mem} (C : Ctx G X cL_law 4 RLw room_1) (hX : SX G X b nx xs) (hb : (xS X).heap.size = gZ G + mN μ) (h : L_law xs nx μ = some (1, μ9)) (hret : ∀ (pc : Nat) (L : List (Nat × Value)), decode cL_law pc = .ok (.ireturn, 1) → AW G 4 X 175 36770 pc L [.int 1] μ9) : AW G 4 X 0 0 0 [(0, .ref b)] [] μ := by
  unfold L_law at h
  obtain ⟨μ1, hμ1, h⟩ := bindE h
  refine aw_new C 1 11 tyX10 rfl ingX10 tyX10_ok rfl dfX10 cl_L_7 it_X10 ii_X10 hb hμ1 (by decide) (by decide) rfl rfl dL_law_0 ?_
  refine aw_dup C dL_law_3 rfl ?_
  obtain ⟨g2, hg2, h⟩ := bindE h
  obtain ⟨μ3, hμ3, h⟩ := bindE h
  refine aw_cI_V C 134 6331 [] _ (mt_X10_init hμ3) cs_X10_init ml_L_9 im_X10_init rfl ⟨by decide, by decide⟩ hb hg2 (by decide) (by decide) rfl rfl rfl rfl (Nat.le_of_ble_eq_true rfl) dL_law_4 ?_
  refine aw_astore_n C [(1, .ref (gZ G + (mN μ + 0))), (0, .ref b)] dL_law_7 rfl (by decide) rfl ?_
  obtain ⟨μ4, hμ4, h⟩ := bindE h
  refine aw_new C 135 6382 tyX11 rfl ingX11 tyX11_ok rfl dfX11 cl_L_10 it_X11 ii_X11 hb hμ4 (by decide) (by decide) rfl rfl dL_law_8 ?_
  refine aw_dup C dL_law_11 rfl ?_
  obtain ⟨g5, hg5, h⟩ := bindE h
  obtain ⟨μ6, hμ6, h⟩ := bindE h
  refine aw_cI_V C 175 36770 [] _ (mt_X11_init hμ6) cs_X11_init ml_L_12 im_X11_init rfl ⟨by decide, by decide⟩ hb hg5 (by decide) (by decide) rfl rfl rfl rfl (Nat.le_of_ble_eq_true rfl) dL_law_12 ?_
  refine aw_astore_n C [(2, .ref (gZ G + (mN μ + 134))), (1, .ref (gZ G + (mN μ + 0))), (0, .ref b)] dL_law_15 rfl (by decide) rfl ?_
  refine aw_iconst C 0 dL_law_16 (by decide) ?_
  refine aw_istore_n C [(3, .int 0), (2, .ref (gZ G + (mN μ + 134))), (1, .ref (gZ G + (mN μ + 0))), (0, .ref b)] dL_law_17 rfl (by decide) rfl ?_
  refine aw_sub [3, 2, 1, 0] rfl ?_
  exact L_law_L18_ok C hX hret _ _ _ _ _ h
