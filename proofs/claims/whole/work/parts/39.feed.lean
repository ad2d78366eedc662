/-! ===== feed ===== -/
def byt (j : Int64) (i : Nat) : Int32 := (((j.toUInt64 >>> ((8 * nI i).toInt64.toUInt64 &&& Int64.toUInt64 63)).toInt64).toInt32) &&& 255
theorem hs1 : ∀ i, i < 8 → ((8 * nI i).toInt64.toUInt64 &&& Int64.toUInt64 63).toBitVec % 64 = BitVec.ofNat 64 (8 * i) := by decide +kernel
theorem hs2 : ∀ i, i < 8 → (((8 * nI i).toInt64 &&& 63).toBitVec.smod 64).toNat = 8 * i := by decide +kernel
theorem m32 : ∀ k, k < 32 → (255#32).getLsbD k = decide (k < 8) := by decide +kernel
theorem m64 : ∀ k, k < 32 → (255#64).getLsbD k = decide (k < 8) := by decide +kernel
theorem bytEq (j : Int64) {i : Nat} (hi : i < 8) : ((j >>> ((8 * nI i).toInt64 &&& 63)) &&& 255).toInt32 = byt j i := by
  apply Int32.toBitVec_inj.1
  apply BitVec.eq_of_getLsbD_eq
  intro k hk
  unfold byt
  have e1 : (((j.toUInt64 >>> ((8 * nI i).toInt64.toUInt64 &&& Int64.toUInt64 63)).toInt64).toInt32 &&& 255).toBitVec = ((j.toBitVec >>> (((8 * nI i).toInt64.toUInt64 &&& Int64.toUInt64 63).toBitVec % 64)).signExtend 32) &&& 255#32 := rfl
  have e2 : ((j >>> ((8 * nI i).toInt64 &&& 63)) &&& 255).toInt32.toBitVec = ((j.toBitVec.sshiftRight ((((8 * nI i).toInt64 &&& 63).toBitVec.smod 64).toNat)) &&& 255#64).signExtend 32 := rfl
  rw [e1, e2, hs1 i hi, hs2 i hi]
  rw [BitVec.getLsbD_signExtend, BitVec.getLsbD_and, BitVec.getLsbD_and, BitVec.getLsbD_signExtend, m32 k hk, m64 k hk, BitVec.getLsbD_sshiftRight]
  have e3 : (j.toBitVec >>> BitVec.ofNat 64 (8 * i)).getLsbD k = j.toBitVec.getLsbD (8 * i + k) := by
    have e4 : j.toBitVec >>> BitVec.ofNat 64 (8 * i) = j.toBitVec >>> (8 * i) := by
      show j.toBitVec >>> (BitVec.ofNat 64 (8 * i)).toNat = _
      rw [BitVec.toNat_ofNat, Nat.mod_eq_of_lt (by omega)]
    rw [e4, BitVec.getLsbD_ushiftRight]
  rw [e3]
  by_cases q : k < 8
  · have q1 : k < 64 := by omega
    have q2 : 8 * i + k < 64 := by omega
    have q3 : ¬ 64 ≤ k := by omega
    simp only [q, q1, q2, q3, hk, decide_true, decide_false, if_true, Bool.not_false, Bool.true_and, Bool.and_true]
  · simp only [q, decide_false, Bool.and_false, ite_self]
    by_cases q1 : k < 64
    · simp only [q1, if_true, Bool.and_false]
    · omega
theorem byt_le (j : Int64) (i : Nat) : ∃ b, b ≤ 255 ∧ byt j i = nI b := by
  unfold byt
  refine ⟨_, ?_, pk_and _ 8 (by decide)⟩
  have := Nat.mod_lt ((((j.toUInt64 >>> ((8 * nI i).toInt64.toUInt64 &&& Int64.toUInt64 63)).toInt64).toInt32).toBitVec.toNat) (show 0 < 2 ^ 8 by decide)
  omega
theorem feed_c (j : Int64) : ∀ r k μ L, Ok μ → mI μ 90 0 = nI L → L + r ≤ 160 → r ≤ 8 → ∃ μ', (Ok μ' ∧ mI μ' 90 0 = nI (L + r) ∧ (∀ i, i < r → mI μ' 91 (L + i) = byt j (r - 1 - i)) ∧ (∀ a k, ¬ (a = 91 ∧ L ≤ k ∧ k < L + r) → ¬ (a = 90 ∧ k = 0) → mI μ' a k = mI μ a k) ∧ mR μ' = mR μ) ∧ X10_feed_L38 0 j (k + r + 1) (nI r + (-1)) μ = some (-1, μ')
  | 0, k, μ, L, o, hL, hb, h8 => by
    refine ⟨μ, ⟨o, hL, fun i hi => absurd hi (by omega), fun _ _ _ _ => rfl, rfl⟩, ?_⟩
    rw [X10_feed_L38, if_pos (by decide)]
    rfl
  | r + 1, k, μ, L, o, hL, hb, h8 => by
    have o1 : Ok (wI (wI μ 91 L (byt j r)) 90 0 (nI (L + 1))) := o
    obtain ⟨μ', ⟨q1, q2, q3, q4, q5⟩, e⟩ := feed_c j r k (wI (wI μ 91 L (byt j r)) 90 0 (nI (L + 1))) (L + 1) o fld_eq (by omega) (by omega)
    have ha : X2_append 90 (byt j r) μ = some (wI (wI μ 91 L (byt j r)) 90 0 (nI (L + 1))) := by
      unfold X2_append
      rw [gi_90 o, hL, Option.bind_some, if_neg (show ¬ (160 : Int32) ≤ _ from nI_ge (b := 160) (by omega) (by decide)), r_90_3 o, Option.bind_some, Option.bind_some, si_91 o (by omega), Option.bind_some, gi_90 o.wI, row_ne (by omega), hL, Option.bind_some, pi_90 o.wI, Option.bind_some, Option.bind_some, nI_add1]
    refine ⟨μ', ⟨q1, by rw [q2, show L + 1 + r = L + (r + 1) by omega], fun i hi => ?_, fun a k2 h1 h2 => ?_, by rw [q5]; rfl⟩, ?_⟩
    · by_cases z : i = 0
      · subst z
        rw [q4 91 (L + 0) (by omega) (by omega), fld_ne (by omega)]
        exact fld_eq
      · rw [show L + i = L + 1 + (i - 1) by omega, q3 (i - 1) (by omega), show r - 1 - (i - 1) = r + 1 - 1 - i by omega]
    · rw [q4 a k2 (by omega) h2, fld_ne h2, fld_ne (by omega)]
    · rw [show k + (r + 1) + 1 = k + r + 1 + 1 by omega, X10_feed_L38, pk_m1, if_neg (nI_pos (by omega)), r_0_3 o, Option.bind_some, vo_90 o, Option.bind_some]
      rw [show X2_append 90 ((((j.toUInt64 >>> ((8 * nI r).toInt64.toUInt64 &&& Int64.toUInt64 63)).toInt64).toInt32) &&& 255) μ = _ from ha, Option.bind_some]
      exact e
theorem feed_m (j : Int64) : ∀ r k μ L, Ok μ → mI μ 134 34 = nI L → L + r ≤ 160 → r ≤ 8 → ∃ μ', (Ok μ' ∧ mI μ' 134 34 = nI (L + r) ∧ (∀ i, i < r → mI μ' 165 (L + i) = byt j (r - 1 - i)) ∧ (∀ a k, ¬ (a = 165 ∧ L ≤ k ∧ k < L + r) → ¬ (a = 134 ∧ k = 34) → mI μ' a k = mI μ a k) ∧ mR μ' = mR μ) ∧ X11_feed_L37 134 j (k + r + 1) (nI r + (-1)) μ = some (-1, μ')
  | 0, k, μ, L, o, hL, hb, h8 => by
    refine ⟨μ, ⟨o, hL, fun i hi => absurd hi (by omega), fun _ _ _ _ => rfl, rfl⟩, ?_⟩
    rw [X11_feed_L37, if_pos (by decide)]
    rfl
  | r + 1, k, μ, L, o, hL, hb, h8 => by
    obtain ⟨μ', ⟨q1, q2, q3, q4, q5⟩, e⟩ := feed_m j r k (wI (wI μ 165 L (byt j r)) 134 34 (nI (L + 1))) (L + 1) o fld_eq (by omega) (by omega)
    refine ⟨μ', ⟨q1, by rw [q2, show L + 1 + r = L + (r + 1) by omega], fun i hi => ?_, fun a k2 h1 h2 => ?_, by rw [q5]; rfl⟩, ?_⟩
    · by_cases z : i = 0
      · subst z
        rw [q4 165 (L + 0) (by omega) (by omega), fld_ne (by omega)]
        exact fld_eq
      · rw [show L + i = L + 1 + (i - 1) by omega, q3 (i - 1) (by omega), show r - 1 - (i - 1) = r + 1 - 1 - i by omega]
    · rw [q4 a k2 (by omega) h2, fld_ne h2, fld_ne (by omega)]
    · rw [show k + (r + 1) + 1 = k + r + 1 + 1 by omega, X11_feed_L37, pk_m1, if_neg (nI_pos (by omega)), r_134_33 o, Option.bind_some, gi_134 o, hL, Option.bind_some, bytEq j (by omega), si_165 o (by omega), Option.bind_some, gi_134 o.wI, row_ne (by omega), hL, Option.bind_some, pi_134 o.wI, Option.bind_some, nI_add1]
      exact e
/-- the other parts of the invariant, where only the text is written -/
theorem Inv.setX {μ μ' : Mem} (h : Inv μ) (o : Ok μ') (eR : mR μ' 92 = mR μ 92) (e : ∀ a k, a ≠ 91 → a ≠ 165 → ¬ (a = 90 ∧ k = 0) → ¬ (a = 134 ∧ k = 34) → mI μ' a k = mI μ a k) (X : RelX μ') : Inv μ' := by
  obtain ⟨o0, ⟨w1, w2, w3, w4, w5, w6⟩, hC, hT, hS, hX, hL⟩ := h
  have er : ∀ a, a ≠ 91 → a ≠ 165 → a ≠ 90 → a ≠ 134 → mI μ' a = mI μ a := fun a q1 q2 q3 q4 => funext fun k => e a k q1 q2 (fun z => q3 z.1) (fun z => q4 z.1)
  exact ⟨o, ⟨w1.cg (fun q hq => er _ (by omega) (by omega) (by omega) (by omega)) (er _ (by omega) (by omega) (by omega) (by omega)), w2.cg (fun q hq => er _ (by omega) (by omega) (by omega) (by omega)) (er _ (by omega) (by omega) (by omega) (by omega)), w3.cg (er _ (by omega) (by omega) (by omega) (by omega)) (er _ (by omega) (by omega) (by omega) (by omega)), w4.cg (e _ _ (by omega) (by omega) (by omega) (by omega)) (e _ _ (by omega) (by omega) (by omega) (by omega)), w5.cg (fun q hq => er _ (by omega) (by omega) (by omega) (by omega)) (er _ (by omega) (by omega) (by omega) (by omega)), w6.cg (e _ _ (by omega) (by omega) (by omega) (by omega)) (e _ _ (by omega) (by omega) (by omega) (by omega))⟩, hC.cg (fun q hq => er _ (by omega) (by omega) (by omega) (by omega)) (er _ (by omega) (by omega) (by omega) (by omega)) (er _ (by omega) (by omega) (by omega) (by omega)) (er _ (by omega) (by omega) (by omega) (by omega)), hT.cg (e _ _ (by omega) (by omega) (by omega) (by omega)) (e _ _ (by omega) (by omega) (by omega) (by omega)) (fun q hq => er _ (by omega) (by omega) (by omega) (by omega)) (fun q hq => er _ (by omega) (by omega) (by omega) (by omega)) (nw_le (e _ _ (by omega) (by omega) (by omega) (by omega))), hS.cg (e _ _ (by omega) (by omega) (by omega) (by omega)) (e _ _ (by omega) (by omega) (by omega) (by omega)) (fun q hq => er _ (by omega) (by omega) (by omega) (by omega)) (fun q hq => er _ (by omega) (by omega) (by omega) (by omega)) (nw_le (e _ _ (by omega) (by omega) (by omega) (by omega))), X, hL.cg o0 eR (fun l c hl hc => er _ (by unfold isLw at hl; omega) (by unfold isLw at hl; omega) (by unfold isLw at hl; omega) (by unfold isLw at hl; omega)) (fun c hc => er _ (by omega) (by omega) (by omega) (by omega))⟩
theorem p_feed (x1 : Int32) (j : Int64) : Pair (X10_feed 0 x1 j) (X11_feed 134 x1 j) := by
  intro μ h
  have h0 := h
  obtain ⟨o, W, hC, hT, hS, hX, hL⟩ := h
  have hl := hX.1.2.2
  have e0 : X11_in x1.toInt64 1 8 = X10_within x1 1 8 := in_eq x1 1 8
  by_cases g0 : X10_within x1 1 8 = 0
  · exact pairR h0 (r := -1002) (by unfold X10_feed; rw [if_pos g0]) (by unfold X11_feed; rw [e0, if_pos g0])
  obtain ⟨n, n1, n8, rfl⟩ := win2 (a := 1) (b := 8) (by decide) (by decide) g0
  by_cases q : tl μ + n ≤ 160
  · have c : nI (tl μ) + nI n ≤ 160 := by
      rw [nI_add]
      exact nI_le (b := 160) q (by decide)
    have en : nI n - 1 = nI n + (-1) := Int32.sub_eq_add_neg ..
    obtain ⟨μ1, ⟨o1, a1, b1, c1, d1⟩, e1⟩ := feed_c j n (99999 - n) μ (tl μ) o hX.1.1 q n8
    have t1 : mI μ1 134 34 = nI (tl μ) := by
      rw [c1 _ _ (by omega) (by omega)]
      exact hX.1.2.1
    obtain ⟨μ2, ⟨o2, a2, b2, c2, d2⟩, e2⟩ := feed_m j n (99999 - n) μ1 (tl μ) o1 t1 q n8
    rw [show 99999 - n + n + 1 = FU by unfold FU; omega] at e1 e2
    refine ⟨nI (tl μ + n), μ1, μ2, ?_, o1, ?_, ?_⟩
    · unfold X10_feed
      rw [if_neg g0, r_0_3 o, Option.bind_some, gi_90 o, hX.1.1, Option.bind_some, if_pos c, Option.bind_some, en, e1, Option.bind_some, r_0_3 o1, Option.bind_some, gi_90 o1, a1, Option.bind_some]
    · unfold X11_feed
      rw [e0, if_neg g0, gi_134 o1, t1, Option.bind_some, if_pos c, Option.bind_some, en, e2, Option.bind_some, gi_134 o2, a2, Option.bind_some]
    · have et : tl μ2 = tl μ + n := by
        unfold tl
        rw [a2, vN_nI]
        · rfl
        · show tl μ + n < 2 ^ 31
          omega
      refine h0.setX o2 (by rw [d2, d1]) (fun a k q1 q2 q3 q4 => by rw [c2 a k (by omega) q4, c1 a k (by omega) q3]) ⟨?_, fun k hk => ?_, ?_⟩
      · rw [et]
        exact ⟨(c2 90 0 (by omega) (by omega)).trans a1, a2, q⟩
      · by_cases z : tl μ ≤ k ∧ k < tl μ + n
        · obtain ⟨i, rfl⟩ : ∃ i, k = tl μ + i := ⟨k - tl μ, by omega⟩
          obtain ⟨b, hb, eb⟩ := byt_le j (n - 1 - i)
          have x1 := b1 i (by omega)
          have x2 := b2 i (by omega)
          have ex : tx μ2 (tl μ + i) = b := by
            unfold tx
            rw [x2, eb, vN_nI (by omega)]
          rw [ex, c2 91 _ (by omega) (by omega), x1, x2]
          exact ⟨eb, eb, hb⟩
        · have ex : tx μ2 k = tx μ k := by
            unfold tx
            rw [c2 165 k (by omega) (by omega), c1 165 k (by omega) (by omega)]
          rw [ex, c2 91 k (by omega) (by omega), c1 91 k (by omega) (by omega), c2 165 k (by omega) (by omega), c1 165 k (by omega) (by omega)]
          exact hX.2.1 k hk
      · rw [c2 90 2 (by omega) (by omega), c1 90 2 (by omega) (by omega), c2 134 35 (by omega) (by omega), c1 134 35 (by omega) (by omega)]
        exact hX.2.2
  · have c : ¬ nI (tl μ) + nI n ≤ 160 := by
      rw [nI_add]
      exact nI_ge (a := 160) (by omega) (by omega)
    exact pairR h0 (r := -1004) (by unfold X10_feed; rw [if_neg g0, r_0_3 o, Option.bind_some, gi_90 o, hX.1.1, Option.bind_some, if_neg c]) (by unfold X11_feed; rw [e0, if_neg g0, gi_134 o, hX.1.2.1, Option.bind_some, if_neg c])
