/-! ===== bits of sets ===== -/
theorem fa_and (a b : Nat) : nI a &&& nI b = nI (a &&& b) := by
  apply Int32.toBitVec_inj.1
  show BitVec.ofNat 32 a &&& BitVec.ofNat 32 b = BitVec.ofNat 32 (a &&& b)
  apply BitVec.eq_of_getLsbD_eq
  intro i hi
  simp [hi]
theorem fa_or (a b : Nat) : nI a ||| nI b = nI (a ||| b) := by
  apply Int32.toBitVec_inj.1
  show BitVec.ofNat 32 a ||| BitVec.ofNat 32 b = BitVec.ofNat 32 (a ||| b)
  apply BitVec.eq_of_getLsbD_eq
  intro i hi
  simp [hi]
/-- a without b -/
def nd (a b : Nat) : Nat := a &&& (b ^^^ (2 ^ 31 - 1))
theorem nd_eq {a b : Nat} (ha : a < 2 ^ 31) : nI a &&& (nI b ^^^ (-1)) = nI (nd a b) := by
  apply Int32.toBitVec_inj.1
  show BitVec.ofNat 32 a &&& (BitVec.ofNat 32 b ^^^ (-1 : Int32).toBitVec) = BitVec.ofNat 32 (nd a b)
  rw [show (-1 : Int32).toBitVec = BitVec.allOnes 32 from rfl]
  apply BitVec.eq_of_getLsbD_eq
  intro i hi
  have h31 : i = 31 → a.testBit i = false := fun e => by
    subst e
    exact Nat.testBit_lt_two_pow ha
  unfold nd
  simp only [BitVec.getLsbD_and, BitVec.getLsbD_xor, BitVec.getLsbD_ofNat, BitVec.getLsbD_allOnes, Nat.testBit_and, Nat.testBit_xor, Nat.testBit_two_pow_sub_one, hi, decide_true, Bool.true_and]
  by_cases q : i < 31
  · simp only [q, decide_true]
  · rw [h31 (by omega)]
    simp
theorem nd_bit {a b i : Nat} (hi : i < 31) : (nd a b).testBit i = (a.testBit i && !b.testBit i) := by
  unfold nd
  simp only [Nat.testBit_and, Nat.testBit_xor, Nat.testBit_two_pow_sub_one, hi, decide_true]
  cases a.testBit i <;> cases b.testBit i <;> rfl
theorem nd_le (a b : Nat) : nd a b ≤ a := Nat.and_le_left
theorem sh31 : ∀ t, t < 31 → (1 : Int32) <<< (nI t &&& 31) = nI (2 ^ t) := by decide +kernel
theorem sm31 : ∀ t, t < 31 → ((nI t &&& 31).toBitVec.smod 32).toNat = t := by decide +kernel
theorem bt_n {m t : Nat} (hm : m < 2 ^ 31) (ht : t < 31) : bt (nI m) t = m / 2 ^ t % 2 := by
  unfold bt
  have hd : m / 2 ^ t < 2 ^ 31 := Nat.lt_of_le_of_lt (Nat.div_le_self _ _) hm
  rw [pk_shrN hm _ t (sm31 t ht), show (1 : Int32) = nI 1 from rfl, fa_and, Nat.and_one_is_mod]
  have hl := Nat.mod_lt (m / 2 ^ t) (show 0 < 2 by decide)
  have c : nI (m / 2 ^ t % 2) = 0 ↔ m / 2 ^ t % 2 = 0 := nI_eq (b := 0) (by omega) (by decide)
  by_cases q : m / 2 ^ t % 2 = 0
  · rw [if_pos (c.mpr q), q]
  · rw [if_neg (fun z => q (c.mp z))]
    omega
theorem bt_t {m t : Nat} (hm : m < 2 ^ 31) (ht : t < 31) : (bt (nI m) t = 0) = (m.testBit t = false) := by
  rw [bt_n hm ht, Nat.testBit_eq_decide_div_mod_eq, decide_eq_false_iff_not]
  have hl := Nat.mod_lt (m / 2 ^ t) (show 0 < 2 by decide)
  exact propext ⟨fun z => by omega, fun z => by omega⟩
theorem bt_t1 {m t : Nat} (hm : m < 2 ^ 31) (ht : t < 31) : (bt (nI m) t = 1) = (m.testBit t = true) := by
  rw [bt_n hm ht, Nat.testBit_eq_decide_div_mod_eq, decide_eq_true_eq]
theorem has_t {m t : Nat} (hm : m < 2 ^ 31) (ht : t < 31) : (X10_contains (nI m) (nI t) = 0) = (m.testBit t = false) := by
  rw [has_z, bt_t hm ht]
theorem or_put {m t : Nat} (ht : t < 31) : nI m ||| ((1 : Int32) <<< (nI t &&& 31)) = nI (m ||| 2 ^ t) := by rw [sh31 t ht, fa_or]
theorem or_put_lt {m t n : Nat} (hm : m < 2 ^ n) (ht : t < n) : m ||| 2 ^ t < 2 ^ n := Nat.or_lt_two_pow hm (Nat.pow_lt_pow_right (by decide) ht)
theorem or_put_bit {m t i : Nat} : (m ||| 2 ^ t).testBit i = (m.testBit i || decide (t = i)) := by rw [Nat.testBit_or, Nat.testBit_two_pow]
theorem win2 {x : Int32} {a b : Nat} (ha : a < 2 ^ 31) (hb : b < 2 ^ 31) (h : ¬ X10_within x (nI a) (nI b) = 0) : ∃ i, a ≤ i ∧ i ≤ b ∧ x = nI i := by
  unfold X10_within at h
  by_cases q : x < nI a
  · rw [if_pos q] at h
    exact absurd rfl h
  · rw [if_neg q] at h
    by_cases q2 : nI b < x
    · rw [if_pos q2] at h
      exact absurd rfl h
    · have q0 : ¬ x < 0 := fun z => q (by
        rw [Int32.lt_iff_toInt_lt, nI_toInt ha]
        rw [Int32.lt_iff_toInt_lt] at z
        have : (0 : Int32).toInt = 0 := rfl
        omega)
      obtain ⟨j, hj, rfl⟩ := nI_of q0
      rw [n_lt hj ha] at q
      rw [n_lt hb hj] at q2
      exact ⟨j, by omega, by omega, rfl⟩
/-! ===== the THINGS and SAYINGS behind a change ===== -/
theorem RelT.mk' {μ' : Mem} {n : Nat} (g : Nat → Nat → Nat) (e1 : mI μ' 37 2 = nI n) (e2 : mI μ' 134 12 = nI n) (hn : n ≤ 10) (ec : ∀ c t, c < 9 → t < 10 → mI μ' (40 + t) c = nI (g c t) ∧ mI μ' (145 + c) t = nI (g c t) ∧ g c t ≤ tbd c) (h7 : ∀ t, t < 10 → g 7 t ≤ nw μ') (h8 : ∀ t, n ≤ t → t < 10 → g 8 t = 0) : RelT μ' := by
  have et : tn μ' = n := by
    unfold tn
    rw [e2, vN_nI (by omega)]
  have bd : ∀ c, c < 9 → tbd c ≤ 999 := by decide
  have ev : ∀ c t, c < 9 → t < 10 → tv μ' c t = g c t := fun c t hc ht => by
    obtain ⟨-, q, r⟩ := ec c t hc ht
    have := bd c hc
    unfold tv
    rw [q, vN_nI (by omega)]
  refine ⟨?_, fun c t hc ht => ?_, fun t ht => ?_, fun t q ht => ?_⟩
  · rw [et]
    exact ⟨e1, e2, hn⟩
  · rw [ev c t hc ht]
    exact ec c t hc ht
  · rw [ev 7 t (by decide) ht]
    exact h7 t ht
  · rw [et] at q
    rw [ev 8 t (by decide) ht]
    exact h8 t q ht
theorem RelS.mk' {μ' : Mem} {n : Nat} (g : Nat → Nat → Nat) (e1 : mI μ' 37 3 = nI n) (e2 : mI μ' 134 45 = nI n) (hn : n ≤ 40) (ec : ∀ c t, c < 5 → t < 40 → mI μ' (50 + t) c = nI (g c t) ∧ mI μ' (170 + c) t = nI (g c t) ∧ g c t ≤ sbd c) (h7 : ∀ t, t < 40 → g 3 t ≤ nw μ') (h8 : ∀ t, n ≤ t → t < 40 → g 4 t = 0) : RelS μ' := by
  have et : sc μ' = n := by
    unfold sc
    rw [e2, vN_nI (by omega)]
  have bd : ∀ c, c < 5 → sbd c ≤ 1023 := by decide
  have ev : ∀ c t, c < 5 → t < 40 → sv μ' c t = g c t := fun c t hc ht => by
    obtain ⟨-, q, r⟩ := ec c t hc ht
    have := bd c hc
    unfold sv
    rw [q, vN_nI (by omega)]
  refine ⟨?_, fun c t hc ht => ?_, fun t ht => ?_, fun t q ht => ?_⟩
  · rw [et]
    exact ⟨e1, e2, hn⟩
  · rw [ev c t hc ht]
    exact ec c t hc ht
  · rw [ev 3 t (by decide) ht]
    exact h7 t ht
  · rw [et] at q
    rw [ev 4 t (by decide) ht]
    exact h8 t q ht
/-- the other parts of the invariant, where only rows of THINGS are written -/
theorem Inv.setT {μ μ' : Mem} (h : Inv μ) (o : Ok μ') (eR : mR μ' 92 = mR μ 92) (e : ∀ a k, ¬ (40 ≤ a ∧ a < 50) → ¬ (145 ≤ a ∧ a < 154) → ¬ (a = 37 ∧ k = 2) → ¬ (a = 134 ∧ k = 12) → mI μ' a k = mI μ a k) (T : RelT μ') : Inv μ' := by
  obtain ⟨o0, ⟨w1, w2, w3, w4, w5, w6⟩, hC, hT, hS, hX, hL⟩ := h
  have er : ∀ a, ¬ (40 ≤ a ∧ a < 50) → ¬ (145 ≤ a ∧ a < 154) → a ≠ 37 → a ≠ 134 → mI μ' a = mI μ a := fun a q1 q2 q3 q4 => funext fun k => e a k q1 q2 (fun z => q3 z.1) (fun z => q4 z.1)
  exact ⟨o, ⟨w1.cg (fun q hq => er _ (by omega) (by omega) (by omega) (by omega)) (er _ (by omega) (by omega) (by omega) (by omega)), w2.cg (fun q hq => er _ (by omega) (by omega) (by omega) (by omega)) (er _ (by omega) (by omega) (by omega) (by omega)), w3.cg (er _ (by omega) (by omega) (by omega) (by omega)) (er _ (by omega) (by omega) (by omega) (by omega)), w4.cg (e _ _ (by omega) (by omega) (by omega) (by omega)) (e _ _ (by omega) (by omega) (by omega) (by omega)), w5.cg (fun q hq => er _ (by omega) (by omega) (by omega) (by omega)) (er _ (by omega) (by omega) (by omega) (by omega)), w6.cg (e _ _ (by omega) (by omega) (by omega) (by omega)) (e _ _ (by omega) (by omega) (by omega) (by omega))⟩, hC.cg (fun q hq => er _ (by omega) (by omega) (by omega) (by omega)) (er _ (by omega) (by omega) (by omega) (by omega)) (er _ (by omega) (by omega) (by omega) (by omega)) (er _ (by omega) (by omega) (by omega) (by omega)), T, hS.cg (e _ _ (by omega) (by omega) (by omega) (by omega)) (e _ _ (by omega) (by omega) (by omega) (by omega)) (fun q hq => er _ (by omega) (by omega) (by omega) (by omega)) (fun q hq => er _ (by omega) (by omega) (by omega) (by omega)) (nw_le (e _ _ (by omega) (by omega) (by omega) (by omega))), hX.cg (e _ _ (by omega) (by omega) (by omega) (by omega)) (e _ _ (by omega) (by omega) (by omega) (by omega)) (er _ (by omega) (by omega) (by omega) (by omega)) (er _ (by omega) (by omega) (by omega) (by omega)) (e _ _ (by omega) (by omega) (by omega) (by omega)) (e _ _ (by omega) (by omega) (by omega) (by omega)), hL.cg o0 eR (fun l c hl hc => er _ (by unfold isLw at hl; omega) (by unfold isLw at hl; omega) (by unfold isLw at hl; omega) (by unfold isLw at hl; omega)) (fun c hc => er _ (by omega) (by omega) (by omega) (by omega))⟩
theorem Inv.setS {μ μ' : Mem} (h : Inv μ) (o : Ok μ') (eR : mR μ' 92 = mR μ 92) (e : ∀ a k, ¬ (50 ≤ a ∧ a < 90) → ¬ (170 ≤ a ∧ a < 175) → ¬ (a = 37 ∧ k = 3) → ¬ (a = 134 ∧ k = 45) → mI μ' a k = mI μ a k) (S : RelS μ') : Inv μ' := by
  obtain ⟨o0, ⟨w1, w2, w3, w4, w5, w6⟩, hC, hT, hS, hX, hL⟩ := h
  have er : ∀ a, ¬ (50 ≤ a ∧ a < 90) → ¬ (170 ≤ a ∧ a < 175) → a ≠ 37 → a ≠ 134 → mI μ' a = mI μ a := fun a q1 q2 q3 q4 => funext fun k => e a k q1 q2 (fun z => q3 z.1) (fun z => q4 z.1)
  exact ⟨o, ⟨w1.cg (fun q hq => er _ (by omega) (by omega) (by omega) (by omega)) (er _ (by omega) (by omega) (by omega) (by omega)), w2.cg (fun q hq => er _ (by omega) (by omega) (by omega) (by omega)) (er _ (by omega) (by omega) (by omega) (by omega)), w3.cg (er _ (by omega) (by omega) (by omega) (by omega)) (er _ (by omega) (by omega) (by omega) (by omega)), w4.cg (e _ _ (by omega) (by omega) (by omega) (by omega)) (e _ _ (by omega) (by omega) (by omega) (by omega)), w5.cg (fun q hq => er _ (by omega) (by omega) (by omega) (by omega)) (er _ (by omega) (by omega) (by omega) (by omega)), w6.cg (e _ _ (by omega) (by omega) (by omega) (by omega)) (e _ _ (by omega) (by omega) (by omega) (by omega))⟩, hC.cg (fun q hq => er _ (by omega) (by omega) (by omega) (by omega)) (er _ (by omega) (by omega) (by omega) (by omega)) (er _ (by omega) (by omega) (by omega) (by omega)) (er _ (by omega) (by omega) (by omega) (by omega)), hT.cg (e _ _ (by omega) (by omega) (by omega) (by omega)) (e _ _ (by omega) (by omega) (by omega) (by omega)) (fun q hq => er _ (by omega) (by omega) (by omega) (by omega)) (fun q hq => er _ (by omega) (by omega) (by omega) (by omega)) (nw_le (e _ _ (by omega) (by omega) (by omega) (by omega))), S, hX.cg (e _ _ (by omega) (by omega) (by omega) (by omega)) (e _ _ (by omega) (by omega) (by omega) (by omega)) (er _ (by omega) (by omega) (by omega) (by omega)) (er _ (by omega) (by omega) (by omega) (by omega)) (e _ _ (by omega) (by omega) (by omega) (by omega)) (e _ _ (by omega) (by omega) (by omega) (by omega)), hL.cg o0 eR (fun l c hl hc => er _ (by unfold isLw at hl; omega) (by unfold isLw at hl; omega) (by unfold isLw at hl; omega) (by unfold isLw at hl; omega)) (fun c hc => er _ (by omega) (by omega) (by omega) (by omega))⟩
theorem p_dead (x1 : Int32) : Pair (X10_dead 0 x1) (X11_dead 134 x1) := by
  intro μ h
  have h0 := h
  obtain ⟨o, W, hC, hT, hS, hX, hL⟩ := h
  have hn := hT.1.2.2
  rcases gT o hT x1 with ⟨g1, k1⟩ | ⟨g1, k1, t, ht, rfl⟩
  · exact pairR h0 (r := -1001) (by unfold X10_dead; simp only [r_0_2 o, vo_37 o, Option.bind_some, g1, if_true]) (by unfold X11_dead; simp only [vo_134 o, Option.bind_some, k1, if_true])
  have t10 : t < 10 := by omega
  have f8 := (hT.2.1 8 t (by decide) t10).1
  have m8 := (hT.2.1 8 t (by decide) t10).2.1
  have b8 : tv μ 8 t ≤ 1 := (hT.2.1 8 t (by decide) t10).2.2
  have c8 : (nI (tv μ 8 t) = 0) = (tv μ 8 t = 0) := propext (nI_eq (b := 0) (by omega) (by decide))
  by_cases q : tv μ 8 t = 0
  · have o1 : Ok (wI μ (40 + t) 8 1) := o
    have o2 : Ok (wI (wI μ (40 + t) 8 1) 153 t 1) := o
    have S1 : RelS (wI μ (40 + t) 8 1) := hS.cg (by rw [fld_ne (by omega)]) (by rw [fld_ne (by omega)]) (fun q hq => row_ne (by omega)) (fun q hq => row_ne (by omega)) (by unfold nw; rw [row_ne (by omega)]; exact Nat.le_refl _)
    have S2 : RelS (wI (wI μ (40 + t) 8 1) 153 t 1) := S1.cg (by rw [fld_ne (by omega)]) (by rw [fld_ne (by omega)]) (fun q hq => row_ne (by omega)) (fun q hq => row_ne (by omega)) (nw_le (by rw [row_ne (by omega)]))
    have ec : cnS (wI (wI μ (40 + t) 8 1) 153 t 1) t = cnS (wI μ (40 + t) 8 1) t := by
      unfold cnS sc
      rw [row_ne (by omega)]
      exact itr_congr _ _ _ (fun j x _ _ => by unfold sv; rw [row_ne (by omega)])
    refine ⟨nI (cnS (wI μ (40 + t) 8 1) t), wI μ (40 + t) 8 1, wI (wI μ (40 + t) 8 1) 153 t 1, ?_, o, ?_, ?_⟩
    · unfold X10_dead
      simp only [r_0_2 o, vo_37 o, Option.bind_some, g1, show ((1 : Int32) = 0) = False from by decide, if_false, r_37_0 o, ar_things o t10, gi_T o t10, f8, c8, nI_0, q, if_true, pz_T o t10 (Or.inr rfl), r_0_2 o1, vo_37 o1, with_c o1 S1]
    · have k1a : X11_isThing 134 (nI t) (wI μ (40 + t) 8 1) = X11_isThing 134 (nI t) μ := by
        unfold X11_isThing
        rw [gi_134 o1, gi_134 o, row_ne (by omega)]
      unfold X11_dead
      simp only [vo_134 o1, Option.bind_some, k1a, k1, show ((1 : Int32) = 0) = False from by decide, if_false, r_134_21 o1, az_153 o1 t10, row_ne (μ := μ) (a := 40 + t) (b := 153) (k := 8) (v := 1) (by omega), show mI μ 153 t = _ from m8, c8, nI_0, q, if_true, sz_153 o1 t10 (Or.inr rfl), vo_134 o2, with_m o2 S2, ec]
    · refine h0.setT o rfl (fun a k q1 q2 q3 q4 => ?_) (RelT.mk' (n := tn μ) (fun c t' => if c = 8 ∧ t' = t then 1 else tv μ c t') ?_ ?_ hn (fun c t' hc ht' => ?_) (fun t' ht' => ?_) (fun t' q1 ht' => ?_))
      · rw [fld_ne (by omega), fld_ne (by omega)]
      · rw [row_ne (by omega), row_ne (by omega)]
        exact hT.1.1
      · rw [row_ne (by omega), row_ne (by omega)]
        exact hT.1.2.1
      · obtain ⟨z1, z2, z3⟩ := hT.2.1 c t' hc ht'
        by_cases z : c = 8 ∧ t' = t
        · obtain ⟨rfl, rfl⟩ := z
          simp only [and_self, if_true]
          rw [row_ne (by omega), fld_eq, fld_eq]
          exact ⟨rfl, rfl, Nat.le_refl _⟩
        · rw [if_neg z, row_ne (by omega), fld_ne (by omega), fld_ne (by omega), row_ne (by omega)]
          exact ⟨z1, z2, z3⟩
      · rw [if_neg (by omega)]
        unfold nw
        rw [row_ne (by omega), row_ne (by omega)]
        exact hT.2.2.1 t' ht'
      · rw [if_neg (by omega)]
        exact hT.2.2.2 t' q1 ht'
  · refine pairR h0 (r := -1003) ?_ ?_
    · unfold X10_dead
      simp only [r_0_2 o, vo_37 o, Option.bind_some, g1, show ((1 : Int32) = 0) = False from by decide, if_false, r_37_0 o, ar_things o t10, gi_T o t10, f8, c8, q]
    · unfold X11_dead
      simp only [vo_134 o, Option.bind_some, k1, show ((1 : Int32) = 0) = False from by decide, if_false, r_134_21 o, az_153 o t10, show mI μ 153 t = _ from m8, c8, q]
