/-! ===== the layout: 175 cells, their shapes, the references that stay ===== -/
def shp : List (Nat × Nat) := [(0, 10), (0, 9), (7, 4), (1, 4), (1, 4), (1, 4), (1, 4), (7, 4), (1, 4), (1, 4), (1, 4), (1, 4), (1, 4), (7, 4), (1, 61), (1, 61), (1, 61), (1, 61), (7, 9), (1, 4), (1, 4), (1, 4), (1, 4), (1, 4), (1, 4), (1, 4), (1, 4), (1, 4), (2, 4), (2, 4), (0, 8), (7, 4), (1, 4), (1, 4), (1, 4), (1, 4), (1, 4), (0, 0), (6, 10), (5, 40), (0, 6), (0, 6), (0, 6), (0, 6), (0, 6), (0, 6), (0, 6), (0, 6), (0, 6), (0, 6), (0, 5), (0, 5), (0, 5), (0, 5), (0, 5), (0, 5), (0, 5), (0, 5), (0, 5), (0, 5), (0, 5), (0, 5), (0, 5), (0, 5), (0, 5), (0, 5), (0, 5), (0, 5), (0, 5), (0, 5), (0, 5), (0, 5), (0, 5), (0, 5), (0, 5), (0, 5), (0, 5), (0, 5), (0, 5), (0, 5), (0, 5), (0, 5), (0, 5), (0, 5), (0, 5), (0, 5), (0, 5), (0, 5), (0, 5), (0, 5), (0, 2), (1, 160), (4, 4), (0, 1), (0, 4), (1, 6), (1, 6), (0, 1), (1, 6), (1, 64), (1, 64), (1, 64), (1, 4), (1, 384), (1, 384), (1, 4096), (1, 66), (0, 7), (1, 66), (0, 3), (1, 8), (1, 8), (1, 8), (1, 8), (0, 3), (1, 8), (1, 8), (1, 8), (1, 8), (0, 3), (1, 8), (1, 8), (1, 8), (1, 8), (0, 3), (1, 8), (1, 8), (1, 8), (1, 8), (0, 3), (1, 8), (1, 8), (1, 8), (1, 8), (0, 11), (1, 16), (1, 16), (1, 4), (1, 244), (2, 4), (2, 4), (1, 4), (1, 4), (1, 4), (1, 4), (1, 10), (1, 10), (1, 10), (1, 10), (1, 10), (1, 10), (1, 10), (1, 10), (3, 10), (1, 16), (1, 4), (1, 4), (1, 32), (1, 32), (1, 32), (1, 32), (1, 9), (1, 9), (1, 9), (1, 9), (1, 160), (1, 6), (1, 28672), (1, 384), (1, 384), (1, 40), (1, 40), (1, 40), (1, 40), (1, 40)]
def S0 (a : Nat) : Nat × Nat := shp.getD a (9, 0)
def R0 : Nat → Nat → Option Nat := fun a k => match a with
  | 2 => if k < 4 then some (3 + k) else none
  | 7 => if k < 4 then some (8 + k) else none
  | 13 => if k < 4 then some (14 + k) else none
  | 18 => if k < 9 then some (19 + k) else none
  | 31 => if k < 4 then some (32 + k) else none
  | 38 => if k < 10 then some (40 + k) else none
  | 39 => if k < 40 then some (50 + k) else none
  | 0 => [some 1, some 30, some 37, some 90, some 92, some 93, some 94, some 107, some 108, some 109, none].getD k none
  | 1 => [some 2, some 7, some 12, some 13, some 18, none, some 28, some 29].getD k none
  | 30 => [some 31, some 36].getD k none
  | 37 => [some 38, some 39, none, none].getD k none
  | 90 => [none, none, none, some 91, none].getD k none
  | 94 => [none, some 95, some 96, some 1, some 30, some 37, some 97, some 98, some 99, some 100, some 101, some 102, some 103, some 104, some 105, some 106, none, none, none].getD k none
  | 107 => [none, none, none, none, some 1, some 30, some 37, none].getD k none
  | 109 => [none, some 110, some 111, some 112, some 113].getD k none
  | 114 => [none, some 115, some 116, some 117, some 118].getD k none
  | 119 => [none, some 120, some 121, some 122, some 123].getD k none
  | 124 => [none, some 125, some 126, some 127, some 128].getD k none
  | 129 => [none, some 130, some 131, some 132, some 133].getD k none
  | 134 => [some 135, some 136, some 137, none, some 138, none, some 139, some 140, some 141, some 142, some 143, some 144, none, some 145, some 146, some 147, some 148, some 149, some 150, some 151, some 152, some 153, some 154, some 155, some 156, some 157, some 158, some 159, some 160, some 161, some 162, some 163, some 164, some 165, none, none, none, none, none, none, some 166, none, some 167, some 168, some 169, none, some 170, some 171, some 172, some 173, some 174].getD k none
  | _ => none
def dynR (a k : Nat) : Bool := (a == 1 && (k == 6 || k == 7)) || a == 92 || (a == 0 && k == 9)
def isLw (l : Nat) : Prop := l = 109 ∨ l = 114 ∨ l = 119 ∨ l = 124 ∨ l = 129
/-- the LAWS' cell of a person, the spare one -/
def lwA (μ : Mem) (p : Nat) : Nat := (mR μ 92 p).getD 0
def spA (μ : Mem) : Nat := (mR μ 0 9).getD 0
def wtA (μ : Mem) : Nat := (mR μ 1 6).getD 0
def wtB (μ : Mem) : Nat := (mR μ 1 7).getD 0
/-- the form of the memory behind the two constructors, kept by all calls -/
def Ok (μ : Mem) : Prop := mN μ = 175 ∧ mS μ = S0 ∧ (∀ a k, dynR a k = false → mR μ a k = R0 a k) ∧ (mR μ 1 6 = some (wtA μ) ∧ mR μ 1 7 = some (wtB μ) ∧ ((wtA μ = 28 ∧ wtB μ = 29) ∨ (wtA μ = 29 ∧ wtB μ = 28))) ∧ ((∀ p, p < 4 → mR μ 92 p = some (lwA μ p) ∧ isLw (lwA μ p)) ∧ mR μ 0 9 = some (spA μ) ∧ isLw (spA μ) ∧ (∀ p q, p < 4 → q < 4 → lwA μ p = lwA μ q → p = q) ∧ ∀ p, p < 4 → lwA μ p ≠ spA μ)
theorem mI_wI {μ : Mem} {a k : Nat} {v : Int32} {b j : Nat} : mI (wI μ a k v) b j = if b = a ∧ j = k then v else mI μ b j := rfl
theorem mJ_wJ {μ : Mem} {a k : Nat} {v : Int64} {b j : Nat} : mJ (wJ μ a k v) b j = if b = a ∧ j = k then v else mJ μ b j := rfl
theorem mR_wR {μ : Mem} {a k v : Nat} {b j : Nat} : mR (wR μ a k v) b j = if b = a ∧ j = k then some v else mR μ b j := rfl
theorem mI_wJ {μ : Mem} {a k : Nat} {v : Int64} : mI (wJ μ a k v) = mI μ := rfl
theorem mI_wR {μ : Mem} {a k v : Nat} : mI (wR μ a k v) = mI μ := rfl
theorem mJ_wI {μ : Mem} {a k : Nat} {v : Int32} : mJ (wI μ a k v) = mJ μ := rfl
theorem mJ_wR {μ : Mem} {a k v : Nat} : mJ (wR μ a k v) = mJ μ := rfl
theorem mR_wI {μ : Mem} {a k : Nat} {v : Int32} : mR (wI μ a k v) = mR μ := rfl
theorem mR_wJ {μ : Mem} {a k : Nat} {v : Int64} : mR (wJ μ a k v) = mR μ := rfl
theorem Ok.wI {μ : Mem} {a k : Nat} {v : Int32} (h : Ok μ) : Ok (wI μ a k v) := h
theorem Ok.wJ {μ : Mem} {a k : Nat} {v : Int64} (h : Ok μ) : Ok (wJ μ a k v) := h
theorem gI_eq {μ : Mem} {c k a : Nat} (h : Ok μ) (ha : a < 175) (hs : S0 a = (0, c)) : gI c k a μ = some (mI μ a k) := if_pos ⟨h.1 ▸ ha, by rw [h.2.1]; exact hs⟩
theorem gJ_eq {μ : Mem} {c k a : Nat} (h : Ok μ) (ha : a < 175) (hs : S0 a = (0, c)) : gJ c k a μ = some (mJ μ a k) := if_pos ⟨h.1 ▸ ha, by rw [h.2.1]; exact hs⟩
theorem gR_eq {μ : Mem} {c k a : Nat} (h : Ok μ) (ha : a < 175) (hs : S0 a = (0, c)) : gR c k a μ = mR μ a k := if_pos ⟨h.1 ▸ ha, by rw [h.2.1]; exact hs⟩
theorem gRS {μ : Mem} {c k a : Nat} (h : Ok μ) (ha : a < 175) (hs : S0 a = (0, c)) (hd : dynR a k = false) : gR c k a μ = R0 a k := (gR_eq h ha hs).trans (h.2.2.1 a k hd)
theorem vO_eq {μ : Mem} {c a : Nat} (h : Ok μ) (ha : a < 175) (hs : S0 a = (0, c)) : vO c a μ = some () := if_pos ⟨h.1 ▸ ha, by rw [h.2.1]; exact hs⟩
theorem pI_eq {μ : Mem} {c k a : Nat} {x : Int32} (h : Ok μ) (ha : a < 175) (hs : S0 a = (0, c)) : pI c k a x μ = some (wI μ a k x) := if_pos ⟨h.1 ▸ ha, by rw [h.2.1]; exact hs⟩
theorem pZ_eq {μ : Mem} {c k a : Nat} {x : Int32} (h : Ok μ) (ha : a < 175) (hs : S0 a = (0, c)) (hx : x = 0 ∨ x = 1) : pZ c k a x μ = some (wI μ a k x) := if_pos ⟨⟨h.1 ▸ ha, by rw [h.2.1]; exact hs⟩, hx⟩
theorem pJ_eq {μ : Mem} {c k a : Nat} {x : Int64} (h : Ok μ) (ha : a < 175) (hs : S0 a = (0, c)) : pJ c k a x μ = some (wJ μ a k x) := if_pos ⟨h.1 ▸ ha, by rw [h.2.1]; exact hs⟩
theorem pR_eq {μ : Mem} {c k a x : Nat} (h : Ok μ) (ha : a < 175) (hs : S0 a = (0, c)) : pR c k a x μ = some (wR μ a k x) := if_pos ⟨h.1 ▸ ha, by rw [h.2.1]; exact hs⟩
theorem ix_ok {i n : Nat} (hi : i < n) (hn : n < 2 ^ 31) : ¬ (nI i < 0 ∨ n ≤ (nI i).toNatClampNeg) := vp_in_nI hi hn
theorem aI_eq {μ : Mem} {a n i : Nat} (h : Ok μ) (ha : a < 175) (hs : S0 a = (1, n)) (hi : i < n) (hn : n < 2 ^ 31) : aI a (nI i) μ = some (mI μ a i) := by
  unfold aI
  rw [h.1, h.2.1, hs, if_pos ⟨ha, rfl, ix_ok hi hn⟩, nI_clamp (Nat.lt_trans hi hn)]
theorem aJ_eq {μ : Mem} {a n i : Nat} (h : Ok μ) (ha : a < 175) (hs : S0 a = (2, n)) (hi : i < n) (hn : n < 2 ^ 31) : aJ a (nI i) μ = some (mJ μ a i) := by
  unfold aJ
  rw [h.1, h.2.1, hs, if_pos ⟨ha, rfl, ix_ok hi hn⟩, nI_clamp (Nat.lt_trans hi hn)]
theorem aZ_eq {μ : Mem} {a n i : Nat} (h : Ok μ) (ha : a < 175) (hs : S0 a = (3, n)) (hi : i < n) (hn : n < 2 ^ 31) : aZ a (nI i) μ = some (mI μ a i) := by
  unfold aZ
  rw [h.1, h.2.1, hs, if_pos ⟨ha, rfl, ix_ok hi hn⟩, nI_clamp (Nat.lt_trans hi hn)]
theorem aR_eq {μ : Mem} {kd a n i : Nat} (h : Ok μ) (ha : a < 175) (hs : S0 a = (kd, n)) (hi : i < n) (hn : n < 2 ^ 31) : aR kd a (nI i) μ = mR μ a i := by
  unfold aR
  rw [h.1, h.2.1, hs, if_pos ⟨ha, rfl, ix_ok hi hn⟩, nI_clamp (Nat.lt_trans hi hn)]
theorem sI_eq {μ : Mem} {a n i : Nat} {x : Int32} (h : Ok μ) (ha : a < 175) (hs : S0 a = (1, n)) (hi : i < n) (hn : n < 2 ^ 31) : sI a (nI i) x μ = some (wI μ a i x) := by
  unfold sI
  rw [h.1, h.2.1, hs, if_pos ⟨ha, rfl, ix_ok hi hn⟩, nI_clamp (Nat.lt_trans hi hn)]
theorem sJ_eq {μ : Mem} {a n i : Nat} {x : Int64} (h : Ok μ) (ha : a < 175) (hs : S0 a = (2, n)) (hi : i < n) (hn : n < 2 ^ 31) : sJ a (nI i) x μ = some (wJ μ a i x) := by
  unfold sJ
  rw [h.1, h.2.1, hs, if_pos ⟨ha, rfl, ix_ok hi hn⟩, nI_clamp (Nat.lt_trans hi hn)]
theorem sZ_eq {μ : Mem} {a n i : Nat} {x : Int32} (h : Ok μ) (ha : a < 175) (hs : S0 a = (3, n)) (hi : i < n) (hn : n < 2 ^ 31) (hx : x = 0 ∨ x = 1) : sZ a (nI i) x μ = some (wI μ a i x) := by
  unfold sZ
  rw [h.1, h.2.1, hs, if_pos ⟨⟨ha, rfl, ix_ok hi hn⟩, hx⟩, nI_clamp (Nat.lt_trans hi hn)]
theorem aL_eq {μ : Mem} {kd a n : Nat} (h : Ok μ) (ha : a < 175) (hs : S0 a = (kd, n)) (hk : kd ≠ 0) (h7 : kd ≤ 7) : aL a μ = some (nI n) := by
  unfold aL
  rw [h.1, h.2.1, hs, if_pos ⟨ha, hk, h7⟩]
  rfl
theorem r_0_0 {μ : Mem} (h : Ok μ) : gR 10 0 0 μ = some 1 := gRS h (by decide) rfl rfl
theorem r_0_1 {μ : Mem} (h : Ok μ) : gR 10 1 0 μ = some 30 := gRS h (by decide) rfl rfl
theorem r_0_2 {μ : Mem} (h : Ok μ) : gR 10 2 0 μ = some 37 := gRS h (by decide) rfl rfl
theorem r_0_3 {μ : Mem} (h : Ok μ) : gR 10 3 0 μ = some 90 := gRS h (by decide) rfl rfl
theorem r_0_4 {μ : Mem} (h : Ok μ) : gR 10 4 0 μ = some 92 := gRS h (by decide) rfl rfl
theorem r_0_5 {μ : Mem} (h : Ok μ) : gR 10 5 0 μ = some 93 := gRS h (by decide) rfl rfl
theorem r_0_6 {μ : Mem} (h : Ok μ) : gR 10 6 0 μ = some 94 := gRS h (by decide) rfl rfl
theorem r_0_7 {μ : Mem} (h : Ok μ) : gR 10 7 0 μ = some 107 := gRS h (by decide) rfl rfl
theorem r_0_8 {μ : Mem} (h : Ok μ) : gR 10 8 0 μ = some 108 := gRS h (by decide) rfl rfl
theorem r_1_0 {μ : Mem} (h : Ok μ) : gR 9 0 1 μ = some 2 := gRS h (by decide) rfl rfl
theorem r_1_1 {μ : Mem} (h : Ok μ) : gR 9 1 1 μ = some 7 := gRS h (by decide) rfl rfl
theorem r_1_2 {μ : Mem} (h : Ok μ) : gR 9 2 1 μ = some 12 := gRS h (by decide) rfl rfl
theorem r_1_3 {μ : Mem} (h : Ok μ) : gR 9 3 1 μ = some 13 := gRS h (by decide) rfl rfl
theorem r_1_4 {μ : Mem} (h : Ok μ) : gR 9 4 1 μ = some 18 := gRS h (by decide) rfl rfl
theorem r_30_0 {μ : Mem} (h : Ok μ) : gR 8 0 30 μ = some 31 := gRS h (by decide) rfl rfl
theorem r_30_1 {μ : Mem} (h : Ok μ) : gR 8 1 30 μ = some 36 := gRS h (by decide) rfl rfl
theorem r_37_0 {μ : Mem} (h : Ok μ) : gR 0 0 37 μ = some 38 := gRS h (by decide) rfl rfl
theorem r_37_1 {μ : Mem} (h : Ok μ) : gR 0 1 37 μ = some 39 := gRS h (by decide) rfl rfl
theorem r_90_3 {μ : Mem} (h : Ok μ) : gR 2 3 90 μ = some 91 := gRS h (by decide) rfl rfl
theorem r_94_1 {μ : Mem} (h : Ok μ) : gR 4 1 94 μ = some 95 := gRS h (by decide) rfl rfl
theorem r_94_2 {μ : Mem} (h : Ok μ) : gR 4 2 94 μ = some 96 := gRS h (by decide) rfl rfl
theorem r_94_3 {μ : Mem} (h : Ok μ) : gR 4 3 94 μ = some 1 := gRS h (by decide) rfl rfl
theorem r_94_4 {μ : Mem} (h : Ok μ) : gR 4 4 94 μ = some 30 := gRS h (by decide) rfl rfl
theorem r_94_5 {μ : Mem} (h : Ok μ) : gR 4 5 94 μ = some 37 := gRS h (by decide) rfl rfl
theorem r_94_6 {μ : Mem} (h : Ok μ) : gR 4 6 94 μ = some 97 := gRS h (by decide) rfl rfl
theorem r_94_7 {μ : Mem} (h : Ok μ) : gR 4 7 94 μ = some 98 := gRS h (by decide) rfl rfl
theorem r_94_8 {μ : Mem} (h : Ok μ) : gR 4 8 94 μ = some 99 := gRS h (by decide) rfl rfl
theorem r_94_9 {μ : Mem} (h : Ok μ) : gR 4 9 94 μ = some 100 := gRS h (by decide) rfl rfl
theorem r_94_10 {μ : Mem} (h : Ok μ) : gR 4 10 94 μ = some 101 := gRS h (by decide) rfl rfl
theorem r_94_11 {μ : Mem} (h : Ok μ) : gR 4 11 94 μ = some 102 := gRS h (by decide) rfl rfl
theorem r_94_12 {μ : Mem} (h : Ok μ) : gR 4 12 94 μ = some 103 := gRS h (by decide) rfl rfl
theorem r_94_13 {μ : Mem} (h : Ok μ) : gR 4 13 94 μ = some 104 := gRS h (by decide) rfl rfl
theorem r_94_14 {μ : Mem} (h : Ok μ) : gR 4 14 94 μ = some 105 := gRS h (by decide) rfl rfl
theorem r_94_15 {μ : Mem} (h : Ok μ) : gR 4 15 94 μ = some 106 := gRS h (by decide) rfl rfl
theorem r_107_4 {μ : Mem} (h : Ok μ) : gR 7 4 107 μ = some 1 := gRS h (by decide) rfl rfl
theorem r_107_5 {μ : Mem} (h : Ok μ) : gR 7 5 107 μ = some 30 := gRS h (by decide) rfl rfl
theorem r_107_6 {μ : Mem} (h : Ok μ) : gR 7 6 107 μ = some 37 := gRS h (by decide) rfl rfl
theorem r_109_1 {μ : Mem} (h : Ok μ) : gR 3 1 109 μ = some 110 := gRS h (by decide) rfl rfl
theorem r_109_2 {μ : Mem} (h : Ok μ) : gR 3 2 109 μ = some 111 := gRS h (by decide) rfl rfl
theorem r_109_3 {μ : Mem} (h : Ok μ) : gR 3 3 109 μ = some 112 := gRS h (by decide) rfl rfl
theorem r_109_4 {μ : Mem} (h : Ok μ) : gR 3 4 109 μ = some 113 := gRS h (by decide) rfl rfl
theorem r_114_1 {μ : Mem} (h : Ok μ) : gR 3 1 114 μ = some 115 := gRS h (by decide) rfl rfl
theorem r_114_2 {μ : Mem} (h : Ok μ) : gR 3 2 114 μ = some 116 := gRS h (by decide) rfl rfl
theorem r_114_3 {μ : Mem} (h : Ok μ) : gR 3 3 114 μ = some 117 := gRS h (by decide) rfl rfl
theorem r_114_4 {μ : Mem} (h : Ok μ) : gR 3 4 114 μ = some 118 := gRS h (by decide) rfl rfl
theorem r_119_1 {μ : Mem} (h : Ok μ) : gR 3 1 119 μ = some 120 := gRS h (by decide) rfl rfl
theorem r_119_2 {μ : Mem} (h : Ok μ) : gR 3 2 119 μ = some 121 := gRS h (by decide) rfl rfl
theorem r_119_3 {μ : Mem} (h : Ok μ) : gR 3 3 119 μ = some 122 := gRS h (by decide) rfl rfl
theorem r_119_4 {μ : Mem} (h : Ok μ) : gR 3 4 119 μ = some 123 := gRS h (by decide) rfl rfl
theorem r_124_1 {μ : Mem} (h : Ok μ) : gR 3 1 124 μ = some 125 := gRS h (by decide) rfl rfl
theorem r_124_2 {μ : Mem} (h : Ok μ) : gR 3 2 124 μ = some 126 := gRS h (by decide) rfl rfl
theorem r_124_3 {μ : Mem} (h : Ok μ) : gR 3 3 124 μ = some 127 := gRS h (by decide) rfl rfl
theorem r_124_4 {μ : Mem} (h : Ok μ) : gR 3 4 124 μ = some 128 := gRS h (by decide) rfl rfl
theorem r_129_1 {μ : Mem} (h : Ok μ) : gR 3 1 129 μ = some 130 := gRS h (by decide) rfl rfl
theorem r_129_2 {μ : Mem} (h : Ok μ) : gR 3 2 129 μ = some 131 := gRS h (by decide) rfl rfl
theorem r_129_3 {μ : Mem} (h : Ok μ) : gR 3 3 129 μ = some 132 := gRS h (by decide) rfl rfl
theorem r_129_4 {μ : Mem} (h : Ok μ) : gR 3 4 129 μ = some 133 := gRS h (by decide) rfl rfl
theorem r_134_0 {μ : Mem} (h : Ok μ) : gR 11 0 134 μ = some 135 := gRS h (by decide) rfl rfl
theorem r_134_1 {μ : Mem} (h : Ok μ) : gR 11 1 134 μ = some 136 := gRS h (by decide) rfl rfl
theorem r_134_2 {μ : Mem} (h : Ok μ) : gR 11 2 134 μ = some 137 := gRS h (by decide) rfl rfl
theorem r_134_4 {μ : Mem} (h : Ok μ) : gR 11 4 134 μ = some 138 := gRS h (by decide) rfl rfl
theorem r_134_6 {μ : Mem} (h : Ok μ) : gR 11 6 134 μ = some 139 := gRS h (by decide) rfl rfl
theorem r_134_7 {μ : Mem} (h : Ok μ) : gR 11 7 134 μ = some 140 := gRS h (by decide) rfl rfl
theorem r_134_8 {μ : Mem} (h : Ok μ) : gR 11 8 134 μ = some 141 := gRS h (by decide) rfl rfl
theorem r_134_9 {μ : Mem} (h : Ok μ) : gR 11 9 134 μ = some 142 := gRS h (by decide) rfl rfl
theorem r_134_10 {μ : Mem} (h : Ok μ) : gR 11 10 134 μ = some 143 := gRS h (by decide) rfl rfl
theorem r_134_11 {μ : Mem} (h : Ok μ) : gR 11 11 134 μ = some 144 := gRS h (by decide) rfl rfl
theorem r_134_13 {μ : Mem} (h : Ok μ) : gR 11 13 134 μ = some 145 := gRS h (by decide) rfl rfl
theorem r_134_14 {μ : Mem} (h : Ok μ) : gR 11 14 134 μ = some 146 := gRS h (by decide) rfl rfl
theorem r_134_15 {μ : Mem} (h : Ok μ) : gR 11 15 134 μ = some 147 := gRS h (by decide) rfl rfl
theorem r_134_16 {μ : Mem} (h : Ok μ) : gR 11 16 134 μ = some 148 := gRS h (by decide) rfl rfl
theorem r_134_17 {μ : Mem} (h : Ok μ) : gR 11 17 134 μ = some 149 := gRS h (by decide) rfl rfl
theorem r_134_18 {μ : Mem} (h : Ok μ) : gR 11 18 134 μ = some 150 := gRS h (by decide) rfl rfl
theorem r_134_19 {μ : Mem} (h : Ok μ) : gR 11 19 134 μ = some 151 := gRS h (by decide) rfl rfl
theorem r_134_20 {μ : Mem} (h : Ok μ) : gR 11 20 134 μ = some 152 := gRS h (by decide) rfl rfl
theorem r_134_21 {μ : Mem} (h : Ok μ) : gR 11 21 134 μ = some 153 := gRS h (by decide) rfl rfl
theorem r_134_22 {μ : Mem} (h : Ok μ) : gR 11 22 134 μ = some 154 := gRS h (by decide) rfl rfl
theorem r_134_23 {μ : Mem} (h : Ok μ) : gR 11 23 134 μ = some 155 := gRS h (by decide) rfl rfl
theorem r_134_24 {μ : Mem} (h : Ok μ) : gR 11 24 134 μ = some 156 := gRS h (by decide) rfl rfl
theorem r_134_25 {μ : Mem} (h : Ok μ) : gR 11 25 134 μ = some 157 := gRS h (by decide) rfl rfl
theorem r_134_26 {μ : Mem} (h : Ok μ) : gR 11 26 134 μ = some 158 := gRS h (by decide) rfl rfl
theorem r_134_27 {μ : Mem} (h : Ok μ) : gR 11 27 134 μ = some 159 := gRS h (by decide) rfl rfl
theorem r_134_28 {μ : Mem} (h : Ok μ) : gR 11 28 134 μ = some 160 := gRS h (by decide) rfl rfl
theorem r_134_29 {μ : Mem} (h : Ok μ) : gR 11 29 134 μ = some 161 := gRS h (by decide) rfl rfl
theorem r_134_30 {μ : Mem} (h : Ok μ) : gR 11 30 134 μ = some 162 := gRS h (by decide) rfl rfl
theorem r_134_31 {μ : Mem} (h : Ok μ) : gR 11 31 134 μ = some 163 := gRS h (by decide) rfl rfl
theorem r_134_32 {μ : Mem} (h : Ok μ) : gR 11 32 134 μ = some 164 := gRS h (by decide) rfl rfl
theorem r_134_33 {μ : Mem} (h : Ok μ) : gR 11 33 134 μ = some 165 := gRS h (by decide) rfl rfl
theorem r_134_40 {μ : Mem} (h : Ok μ) : gR 11 40 134 μ = some 166 := gRS h (by decide) rfl rfl
theorem r_134_42 {μ : Mem} (h : Ok μ) : gR 11 42 134 μ = some 167 := gRS h (by decide) rfl rfl
theorem r_134_43 {μ : Mem} (h : Ok μ) : gR 11 43 134 μ = some 168 := gRS h (by decide) rfl rfl
theorem r_134_44 {μ : Mem} (h : Ok μ) : gR 11 44 134 μ = some 169 := gRS h (by decide) rfl rfl
theorem r_134_46 {μ : Mem} (h : Ok μ) : gR 11 46 134 μ = some 170 := gRS h (by decide) rfl rfl
theorem r_134_47 {μ : Mem} (h : Ok μ) : gR 11 47 134 μ = some 171 := gRS h (by decide) rfl rfl
theorem r_134_48 {μ : Mem} (h : Ok μ) : gR 11 48 134 μ = some 172 := gRS h (by decide) rfl rfl
theorem r_134_49 {μ : Mem} (h : Ok μ) : gR 11 49 134 μ = some 173 := gRS h (by decide) rfl rfl
theorem r_134_50 {μ : Mem} (h : Ok μ) : gR 11 50 134 μ = some 174 := gRS h (by decide) rfl rfl
theorem ar_next {μ : Mem} {i : Nat} (h : Ok μ) (hi : i < 4) : aR 7 2 (nI i) μ = some (3 + i) := (aR_eq h (by decide) rfl hi (by decide)).trans ((h.2.2.1 2 i rfl).trans (if_pos hi))
theorem s_next {i : Nat} (hi : i < 4) : S0 (3 + i) = (1, 4) := by
  revert i
  decide
theorem ar_shown {μ : Mem} {i : Nat} (h : Ok μ) (hi : i < 4) : aR 7 7 (nI i) μ = some (8 + i) := (aR_eq h (by decide) rfl hi (by decide)).trans ((h.2.2.1 7 i rfl).trans (if_pos hi))
theorem s_shown {i : Nat} (hi : i < 4) : S0 (8 + i) = (1, 4) := by
  revert i
  decide
theorem ar_signs {μ : Mem} {i : Nat} (h : Ok μ) (hi : i < 4) : aR 7 13 (nI i) μ = some (14 + i) := (aR_eq h (by decide) rfl hi (by decide)).trans ((h.2.2.1 13 i rfl).trans (if_pos hi))
theorem s_signs {i : Nat} (hi : i < 4) : S0 (14 + i) = (1, 61) := by
  revert i
  decide
theorem ar_ahead {μ : Mem} {i : Nat} (h : Ok μ) (hi : i < 9) : aR 7 18 (nI i) μ = some (19 + i) := (aR_eq h (by decide) rfl hi (by decide)).trans ((h.2.2.1 18 i rfl).trans (if_pos hi))
theorem s_ahead {i : Nat} (hi : i < 9) : S0 (19 + i) = (1, 4) := by
  revert i
  decide
theorem ar_costs {μ : Mem} {i : Nat} (h : Ok μ) (hi : i < 4) : aR 7 31 (nI i) μ = some (32 + i) := (aR_eq h (by decide) rfl hi (by decide)).trans ((h.2.2.1 31 i rfl).trans (if_pos hi))
theorem s_costs {i : Nat} (hi : i < 4) : S0 (32 + i) = (1, 4) := by
  revert i
  decide
theorem ar_things {μ : Mem} {i : Nat} (h : Ok μ) (hi : i < 10) : aR 6 38 (nI i) μ = some (40 + i) := (aR_eq h (by decide) rfl hi (by decide)).trans ((h.2.2.1 38 i rfl).trans (if_pos hi))
theorem s_things {i : Nat} (hi : i < 10) : S0 (40 + i) = (0, 6) := by
  revert i
  decide
theorem ar_sayings {μ : Mem} {i : Nat} (h : Ok μ) (hi : i < 40) : aR 5 39 (nI i) μ = some (50 + i) := (aR_eq h (by decide) rfl hi (by decide)).trans ((h.2.2.1 39 i rfl).trans (if_pos hi))
theorem s_sayings {i : Nat} (hi : i < 40) : S0 (50 + i) = (0, 5) := by
  revert i
  decide
theorem r_w6 {μ : Mem} (h : Ok μ) : gR 9 6 1 μ = some (wtA μ) := (gR_eq h (by decide) rfl).trans h.2.2.2.1.1
theorem r_w7 {μ : Mem} (h : Ok μ) : gR 9 7 1 μ = some (wtB μ) := (gR_eq h (by decide) rfl).trans h.2.2.2.1.2.1
theorem r_sp {μ : Mem} (h : Ok μ) : gR 10 9 0 μ = some (spA μ) := (gR_eq h (by decide) rfl).trans h.2.2.2.2.2.1
theorem ar_laws {μ : Mem} {p : Nat} (h : Ok μ) (hp : p < 4) : aR 4 92 (nI p) μ = some (lwA μ p) := (aR_eq h (by decide) rfl hp (by decide)).trans (h.2.2.2.2.1 p hp).1
theorem isLw.s0 {l : Nat} (h : isLw l) : S0 l = (0, 3) ∧ l < 129 + 1 ∧ S0 (l + 1) = (1, 8) ∧ S0 (l + 2) = (1, 8) ∧ S0 (l + 3) = (1, 8) ∧ S0 (l + 4) = (1, 8) ∧ (∀ k, dynR l k = false) ∧ R0 l 1 = some (l + 1) ∧ R0 l 2 = some (l + 2) ∧ R0 l 3 = some (l + 3) ∧ R0 l 4 = some (l + 4) := by
  rcases h with rfl | rfl | rfl | rfl | rfl <;> exact ⟨rfl, by decide, rfl, rfl, rfl, rfl, fun _ => rfl, rfl, rfl, rfl, rfl⟩
theorem r_l {μ : Mem} {l : Nat} (h : Ok μ) (hl : isLw l) : gR 3 1 l μ = some (l + 1) ∧ gR 3 2 l μ = some (l + 2) ∧ gR 3 3 l μ = some (l + 3) ∧ gR 3 4 l μ = some (l + 4) := by
  obtain ⟨h1, h2, -, -, -, -, hd, e1, e2, e3, e4⟩ := hl.s0
  exact ⟨(gRS h (by omega) h1 (hd 1)).trans e1, (gRS h (by omega) h1 (hd 2)).trans e2, (gRS h (by omega) h1 (hd 3)).trans e3, (gRS h (by omega) h1 (hd 4)).trans e4⟩
