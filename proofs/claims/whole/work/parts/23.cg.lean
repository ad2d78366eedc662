/-! ===== a part of the invariant rests on its own rows alone ===== -/
section CG
variable {μ μ' : Mem}
theorem row_ne {a k b : Nat} {v : Int32} (h : b ≠ a) : mI (wI μ a k v) b = mI μ b := funext fun j => by rw [mI_wI, if_neg (fun q => h q.1)]
theorem fld_ne {a k b j : Nat} {v : Int32} (h : ¬ (b = a ∧ j = k)) : mI (wI μ a k v) b j = mI μ b j := by rw [mI_wI, if_neg h]
theorem fld_eq {a k : Nat} {v : Int32} : mI (wI μ a k v) a k = v := by rw [mI_wI, if_pos ⟨rfl, rfl⟩]
theorem RW1.cg (h : RW1 μ) (e1 : ∀ i, i < 4 → mI μ' (3 + i) = mI μ (3 + i)) (e2 : mI μ' 135 = mI μ 135) : RW1 μ' := by
  have e : mv μ' = mv μ := by
    funext i j
    unfold mv
    rw [e2]
  intro i j hi hj
  rw [e1 i hi, e2, e]
  exact h i j hi hj
theorem RW2.cg (h : RW2 μ) (e1 : ∀ i, i < 4 → mI μ' (8 + i) = mI μ (8 + i)) (e2 : mI μ' 136 = mI μ 136) : RW2 μ' := by
  have e : sw μ' = sw μ := by
    funext i j
    unfold sw
    rw [e2]
  intro i j hi hj
  rw [e1 i hi, e2, e]
  exact h i j hi hj
theorem RW3.cg (h : RW3 μ) (e1 : mI μ' 12 = mI μ 12) (e2 : mI μ' 137 = mI μ 137) : RW3 μ' := by
  have e : bg μ' = bg μ := by
    funext i
    unfold bg
    rw [e2]
  intro i hi
  rw [e1, e2, e]
  exact h i hi
theorem RW4.cg (h : RW4 μ) (e1 : mI μ' 1 5 = mI μ 1 5) (e2 : mI μ' 134 3 = mI μ 134 3) : RW4 μ' := by
  have e : ss μ' = ss μ := e2
  unfold RW4
  rw [e1, e]
  exact h
theorem RW5.cg (h : RW5 μ) (e1 : ∀ i, i < 4 → mI μ' (14 + i) = mI μ (14 + i)) (e2 : mI μ' 138 = mI μ 138) : RW5 μ' := by
  have e : sg μ' = sg μ := by
    funext i j
    unfold sg
    rw [e2]
  intro i j hi hj
  rw [e1 i hi, e]
  exact h i j hi hj
theorem RW6.cg (h : RW6 μ) (e1 : mI μ' 0 10 = mI μ 0 10) (e2 : mI μ' 134 5 = mI μ 134 5) : RW6 μ' := by
  have e : nw μ' = nw μ := by
    unfold nw
    rw [e2]
  unfold RW6
  rw [e1, e2, e]
  exact h
theorem RelC.cg (h : RelC μ) (e1 : ∀ i, i < 4 → mI μ' (32 + i) = mI μ (32 + i)) (e2 : mI μ' 154 = mI μ 154) (e3 : mI μ' 36 = mI μ 36) (e4 : mI μ' 155 = mI μ 155) : RelC μ' := by
  have ea : cs μ' = cs μ := by
    funext i j
    unfold cs
    rw [e2]
  have eb : sn μ' = sn μ := by
    funext i
    unfold sn
    rw [e4]
  refine ⟨fun i j hi hj => ?_, fun i hi => ?_⟩
  · rw [e1 i hi, e2, ea]
    exact h.1 i j hi hj
  · rw [e3, e4, eb]
    exact h.2 i hi
theorem RelT.cg (h : RelT μ) (e1 : mI μ' 37 2 = mI μ 37 2) (e2 : mI μ' 134 12 = mI μ 134 12) (e3 : ∀ t, t < 10 → mI μ' (40 + t) = mI μ (40 + t)) (e4 : ∀ c, c < 9 → mI μ' (145 + c) = mI μ (145 + c)) (e5 : nw μ ≤ nw μ') : RelT μ' := by
  have ea : tn μ' = tn μ := by
    unfold tn
    rw [e2]
  have eb : ∀ c t, c < 9 → tv μ' c t = tv μ c t := fun c t hc => by
    unfold tv
    rw [e4 c hc]
  refine ⟨?_, fun c t hc ht => ?_, fun t ht => ?_, fun t q ht => ?_⟩
  · rw [e1, e2, ea]
    exact h.1
  · rw [e3 t ht, e4 c hc, eb c t hc]
    exact h.2.1 c t hc ht
  · rw [eb 7 t (by decide)]
    exact Nat.le_trans (h.2.2.1 t ht) e5
  · rw [ea] at q
    rw [eb 8 t (by decide)]
    exact h.2.2.2 t q ht
theorem RelS.cg (h : RelS μ) (e1 : mI μ' 37 3 = mI μ 37 3) (e2 : mI μ' 134 45 = mI μ 134 45) (e3 : ∀ t, t < 40 → mI μ' (50 + t) = mI μ (50 + t)) (e4 : ∀ c, c < 5 → mI μ' (170 + c) = mI μ (170 + c)) (e5 : nw μ ≤ nw μ') : RelS μ' := by
  have ea : sc μ' = sc μ := by
    unfold sc
    rw [e2]
  have eb : ∀ c t, c < 5 → sv μ' c t = sv μ c t := fun c t hc => by
    unfold sv
    rw [e4 c hc]
  refine ⟨?_, fun c t hc ht => ?_, fun t ht => ?_, fun t q ht => ?_⟩
  · rw [e1, e2, ea]
    exact h.1
  · rw [e3 t ht, e4 c hc, eb c t hc]
    exact h.2.1 c t hc ht
  · rw [eb 3 t (by decide)]
    exact Nat.le_trans (h.2.2.1 t ht) e5
  · rw [ea] at q
    rw [eb 4 t (by decide)]
    exact h.2.2.2 t q ht
theorem RelX.cg (h : RelX μ) (e1 : mI μ' 90 0 = mI μ 90 0) (e2 : mI μ' 134 34 = mI μ 134 34) (e3 : mI μ' 91 = mI μ 91) (e4 : mI μ' 165 = mI μ 165) (e5 : mI μ' 90 2 = mI μ 90 2) (e6 : mI μ' 134 35 = mI μ 134 35) : RelX μ' := by
  have ea : tl μ' = tl μ := by
    unfold tl
    rw [e2]
  have eb : tx μ' = tx μ := by
    funext k
    unfold tx
    rw [e4]
  refine ⟨?_, fun k hk => ?_, ?_⟩
  · rw [e1, e2, ea]
    exact h.1
  · rw [e3, e4, eb]
    exact h.2.1 k hk
  · rw [e5, e6]
    exact h.2.2
theorem RelL.cg (o : Ok μ) (h : RelL μ) (e0 : mR μ' 92 = mR μ 92) (e1 : ∀ l c, isLw l → c < 5 → mI μ' (l + c) = mI μ (l + c)) (e2 : ∀ c, c < 5 → mI μ' (156 + c) = mI μ (156 + c)) : RelL μ' := by
  intro p hp
  have il := (o.2.2.2.2.1 p hp).2
  have ea : lwA μ' p = lwA μ p := by
    unfold lwA
    rw [e0]
  have eb : lc μ' p = lc μ p := by
    unfold lc
    rw [show (156 : Nat) = 156 + 0 from rfl, e2 0 (by decide)]
  have ec : ∀ c k, c < 4 → lv μ' c p k = lv μ c p k := fun c k hc => by
    unfold lv
    rw [show 157 + c = 156 + (c + 1) by omega, e2 (c + 1) (by omega)]
  have r0 := e1 (lwA μ p) 0 il (by decide)
  rw [Nat.add_zero] at r0
  have q0 := e2 0 (by decide)
  have q1 := e2 1 (by decide)
  have q2 := e2 2 (by decide)
  have q3 := e2 3 (by decide)
  have q4 := e2 4 (by decide)
  rw [ea, eb, r0, e1 _ 1 il (by decide), e1 _ 2 il (by decide), e1 _ 3 il (by decide), e1 _ 4 il (by decide), q0, q1, q2, q3, q4]
  refine ⟨(h p hp).1, fun k hk => ?_⟩
  rw [ec 0 k (by decide), ec 1 k (by decide), ec 2 k (by decide), ec 3 k (by decide)]
  exact (h p hp).2 k hk
end CG
/-! ===== bounds are looked at alike ===== -/
theorem i64_lt (x y : Int32) : (x.toInt64 < y.toInt64) = (x < y) := by
  rw [Int64.lt_iff_toInt_lt, Int32.lt_iff_toInt_lt, Int32.toInt_toInt64, Int32.toInt_toInt64]
theorem in_eq (x a b : Int32) : X11_in x.toInt64 a.toInt64 b.toInt64 = X10_within x a b := by
  unfold X11_in X10_within
  simp only [lg_cmp_lt, lg_cmp_gt, i64_lt]
theorem gd (x : Int32) (n : Nat) (hn : n < 2 ^ 31) : (X10_within x 0 (nI n) = 0 ∧ X11_in x.toInt64 0 (nI n).toInt64 = 0) ∨ (¬ X10_within x 0 (nI n) = 0 ∧ ¬ X11_in x.toInt64 0 (nI n).toInt64 = 0 ∧ ∃ i, i ≤ n ∧ x = nI i) := by
  have e : X11_in x.toInt64 0 (nI n).toInt64 = X10_within x 0 (nI n) := in_eq x 0 (nI n)
  rw [e]
  by_cases h : X10_within x 0 (nI n) = 0
  · exact Or.inl ⟨h, h⟩
  · refine Or.inr ⟨h, h, ?_⟩
    unfold X10_within at h
    split at h
    · exact absurd rfl h
    · split at h
      · exact absurd rfl h
      · rename_i h1 h2
        exact win hn h1 h2
theorem exch {μ : Mem} {a n j : Nat} {v : Int32} (h : Ok μ) (ha : a < 175) (hs : S0 a = (1, n)) (hj : j < n) (hn : n < 2 ^ 31) : X10_exchange a (nI j) v μ = some (mI μ a j, wI μ a j v) := by
  unfold X10_exchange
  rw [if_neg (nI_pos (by omega)), aL_eq h ha hs (by decide) (by decide), Option.bind_some, if_pos (by rw [n_lt (by omega) hn]; exact hj), aI_eq h ha hs hj hn, Option.bind_some, sI_eq h ha hs hj hn, Option.bind_some]
