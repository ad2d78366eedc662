/-! ===== the law: every call answers alike ===== -/
theorem xa_n {xs : Nat → Int32} {nx i : Nat} (h : i < nx) (hn : nx ≤ 4096) : xsA xs nx (nI i) = some (xs i) := by
  unfold xsA
  have e : (nI i).toNatClampNeg = i := nI_clamp (by omega)
  rw [e, if_pos (fun w => w.elim (fun z => nI_pos (by omega) z) (fun z => by omega))]
section LW
variable {xs : Nat → Int32} {nx : Nat}
theorem stepP {fC fM : Mem → Option (Int32 × Mem)} (h : Pair fC fM) {μ : Mem} (I : Inv μ) {K : Mem → Option (Int32 × Mem)} (hK : ∀ μ', Inv μ' → ∃ μ9, K μ' = some (1, μ9)) : ∃ μ9, ((fC μ).bind fun z => (vO 11 134 z.2).bind fun _ => (fM z.2).bind fun z' => if z.1 = z'.1 then K z'.2 else some (0, z'.2)) = some (1, μ9) := by
  obtain ⟨r, μ1, μ2, e1, o1, e2, I2⟩ := h μ I
  obtain ⟨μ9, e9⟩ := hK μ2 I2
  refine ⟨μ9, ?_⟩
  rw [e1, Option.bind_some, vo_134 o1, Option.bind_some, e2, Option.bind_some, if_pos rfl]
  exact e9
theorem stepV {fC fM : Mem → Option Int32} (h : PairV fC fM) {μ : Mem} (I : Inv μ) {K : Mem → Option (Int32 × Mem)} (hK : ∀ μ', Inv μ' → ∃ μ9, K μ' = some (1, μ9)) : ∃ μ9, ((fC μ).bind fun v => (vO 11 134 μ).bind fun _ => (fM μ).bind fun v' => if v = v' then K μ else some (0, μ)) = some (1, μ9) := by
  obtain ⟨r, e1, e2⟩ := h μ I
  obtain ⟨μ9, e9⟩ := hK μ I
  refine ⟨μ9, ?_⟩
  rw [e1, Option.bind_some, vo_134 I.1, Option.bind_some, e2, Option.bind_some, if_pos rfl]
  exact e9
set_option maxRecDepth 10000 in
set_option maxHeartbeats 4000000 in
theorem law18 (hx : nx ≤ 4096) : ∀ d k i μ, 8 * i ≤ 4104 → nx ≤ 8 * (i + d) → Inv μ → ∃ μ9, L_law_L18 xs nx 0 134 (k + d + 1) (nI (8 * i)) μ = some (1, μ9) := by
  have cnd : ∀ i, 8 * i ≤ 4104 → ((Int32.ofNat nx - 8 < nI (8 * i)) = (nx < 8 * i + 8)) := fun i hi => by
    refine propext ?_
    rw [show Int32.ofNat nx - 8 = nI nx - nI 8 from rfl, Int32.lt_iff_toInt_lt, pk_sub_toInt (by omega) (by omega), nI_toInt (by omega)]
    omega
  intro d
  induction d with
  | zero =>
    intro k i μ hi hd I
    refine ⟨μ, ?_⟩
    rw [L_law_L18, if_pos ((cnd i hi).mpr (by omega))]
  | succ d ih =>
    intro k i μ hi hd I
    by_cases z : nx < 8 * i + 8
    · refine ⟨μ, ?_⟩
      rw [L_law_L18, if_pos ((cnd i hi).mpr z)]
    · have o := I.1
      have hK : ∀ μ', Inv μ' → ∃ μ9, L_law_L18 xs nx 0 134 (k + d + 1) (nI (8 * i) + 8) μ' = some (1, μ9) := fun μ' I' => by
        rw [show nI (8 * i) + 8 = nI (8 * (i + 1)) from nI_add (8 * i) 8]
        exact ih k (i + 1) μ' (by omega) (by omega) I'
      have b0 : xsA xs nx (nI (8 * i)) = some (xs (8 * i)) := xa_n (by omega) hx
      have b1 : xsA xs nx (nI (8 * i) + 1) = some (xs (8 * i + 1)) := by rw [show nI (8 * i) + 1 = nI (8 * i + 1) from nI_add (8 * i) 1]; exact xa_n (by omega) hx
      have b2 : xsA xs nx (nI (8 * i) + 2) = some (xs (8 * i + 2)) := by rw [show nI (8 * i) + 2 = nI (8 * i + 2) from nI_add (8 * i) 2]; exact xa_n (by omega) hx
      have b3 : xsA xs nx (nI (8 * i) + 3) = some (xs (8 * i + 3)) := by rw [show nI (8 * i) + 3 = nI (8 * i + 3) from nI_add (8 * i) 3]; exact xa_n (by omega) hx
      have b4 : xsA xs nx (nI (8 * i) + 4) = some (xs (8 * i + 4)) := by rw [show nI (8 * i) + 4 = nI (8 * i + 4) from nI_add (8 * i) 4]; exact xa_n (by omega) hx
      have b5 : xsA xs nx (nI (8 * i) + 5) = some (xs (8 * i + 5)) := by rw [show nI (8 * i) + 5 = nI (8 * i + 5) from nI_add (8 * i) 5]; exact xa_n (by omega) hx
      have b6 : xsA xs nx (nI (8 * i) + 6) = some (xs (8 * i + 6)) := by rw [show nI (8 * i) + 6 = nI (8 * i + 6) from nI_add (8 * i) 6]; exact xa_n (by omega) hx
      have b7 : xsA xs nx (nI (8 * i) + 7) = some (xs (8 * i + 7)) := by rw [show nI (8 * i) + 7 = nI (8 * i + 7) from nI_add (8 * i) 7]; exact xa_n (by omega) hx
      rw [show k + (d + 1) + 1 = k + d + 1 + 1 by omega, L_law_L18, if_neg (fun w => z ((cnd i hi).mp w)), b0, Option.bind_some]
      by_cases c0 : xs (8 * i) &&& 31 = Int32.ofNat 0
      · rw [if_pos c0]
        simp only [b1, b2, b3, b4, b5, b6, b7, Option.bind_some, vo_0 o]
        exact stepP (p_move _ _ _) I hK
      rw [if_neg c0]
      by_cases c1 : xs (8 * i) &&& 31 = Int32.ofNat 1
      · rw [if_pos c1]
        simp only [b1, b2, b3, b4, b5, b6, b7, Option.bind_some, vo_0 o]
        exact stepP (p_shows _ _ _) I hK
      rw [if_neg c1]
      by_cases c2 : xs (8 * i) &&& 31 = Int32.ofNat 2
      · rw [if_pos c2]
        simp only [b1, b2, b3, b4, b5, b6, b7, Option.bind_some, vo_0 o]
        exact stepP (p_begins _ _) I hK
      rw [if_neg c2]
      by_cases c3 : xs (8 * i) &&& 31 = Int32.ofNat 3
      · rw [if_pos c3]
        simp only [b1, b2, b3, b4, b5, b6, b7, Option.bind_some, vo_0 o]
        exact stepP (p_seams _) I hK
      rw [if_neg c3]
      by_cases c4 : xs (8 * i) &&& 31 = Int32.ofNat 4
      · rw [if_pos c4]
        simp only [b1, b2, b3, b4, b5, b6, b7, Option.bind_some, vo_0 o]
        exact stepP (p_sign _ _) I hK
      rw [if_neg c4]
      by_cases c5 : xs (8 * i) &&& 31 = Int32.ofNat 5
      · rw [if_pos c5]
        simp only [b1, b2, b3, b4, b5, b6, b7, Option.bind_some, vo_0 o]
        exact stepP (p_go _) I hK
      rw [if_neg c5]
      by_cases c6 : xs (8 * i) &&& 31 = Int32.ofNat 6
      · rw [if_pos c6]
        simp only [b1, b2, b3, b4, b5, b6, b7, Option.bind_some, vo_0 o]
        exact stepP (p_fits _ _) I hK
      rw [if_neg c6]
      by_cases c7 : xs (8 * i) &&& 31 = Int32.ofNat 7
      · rw [if_pos c7]
        simp only [b1, b2, b3, b4, b5, b6, b7, Option.bind_some, vo_0 o]
        exact stepP (p_odds _ _ _) I hK
      rw [if_neg c7]
      by_cases c8 : xs (8 * i) &&& 31 = Int32.ofNat 8
      · rw [if_pos c8]
        simp only [b1, b2, b3, b4, b5, b6, b7, Option.bind_some, vo_0 o]
        exact stepP (p_seam _ _) I hK
      rw [if_neg c8]
      by_cases c9 : xs (8 * i) &&& 31 = Int32.ofNat 9
      · rw [if_pos c9]
        simp only [b1, b2, b3, b4, b5, b6, b7, Option.bind_some, vo_0 o]
        exact stepP (p_until _ _) I hK
      rw [if_neg c9]
      by_cases c10 : xs (8 * i) &&& 31 = Int32.ofNat 10
      · rw [if_pos c10]
        simp only [b1, b2, b3, b4, b5, b6, b7, Option.bind_some, vo_0 o]
        exact stepP (p_thing _ _ _ _ _ _ _) I hK
      rw [if_neg c10]
      by_cases c11 : xs (8 * i) &&& 31 = Int32.ofNat 11
      · rw [if_pos c11]
        simp only [b1, b2, b3, b4, b5, b6, b7, Option.bind_some, vo_0 o]
        exact stepP (p_dead _) I hK
      rw [if_neg c11]
      by_cases c12 : xs (8 * i) &&& 31 = Int32.ofNat 12
      · rw [if_pos c12]
        simp only [b1, b2, b3, b4, b5, b6, b7, Option.bind_some, vo_0 o]
        exact stepV (p_told _ _) I hK
      rw [if_neg c12]
      by_cases c13 : xs (8 * i) &&& 31 = Int32.ofNat 13
      · rw [if_pos c13]
        simp only [b1, b2, b3, b4, b5, b6, b7, Option.bind_some, vo_0 o]
        exact stepP (p_value _ _ _) I hK
      rw [if_neg c13]
      by_cases c14 : xs (8 * i) &&& 31 = Int32.ofNat 14
      · rw [if_pos c14]
        simp only [b1, b2, b3, b4, b5, b6, b7, Option.bind_some, vo_0 o]
        exact stepP (p_cost _ _ _) I hK
      rw [if_neg c14]
      by_cases c15 : xs (8 * i) &&& 31 = Int32.ofNat 15
      · rw [if_pos c15]
        simp only [b1, b2, b3, b4, b5, b6, b7, Option.bind_some, vo_0 o]
        exact stepP (p_seen _ _) I hK
      rw [if_neg c15]
      by_cases c16 : xs (8 * i) &&& 31 = Int32.ofNat 16
      · rw [if_pos c16]
        simp only [b1, b2, b3, b4, b5, b6, b7, Option.bind_some, vo_0 o]
        exact stepP (p_loss _ _ _) I hK
      rw [if_neg c16]
      by_cases c17 : xs (8 * i) &&& 31 = Int32.ofNat 17
      · rw [if_pos c17]
        simp only [b1, b2, b3, b4, b5, b6, b7, Option.bind_some, vo_0 o]
        exact stepV (p_count _) I hK
      rw [if_neg c17]
      by_cases c18 : xs (8 * i) &&& 31 = Int32.ofNat 18
      · rw [if_pos c18]
        simp only [b1, b2, b3, b4, b5, b6, b7, Option.bind_some, vo_0 o]
        exact stepP (p_feed _ _) I hK
      rw [if_neg c18]
      by_cases c19 : xs (8 * i) &&& 31 = Int32.ofNat 19
      · rw [if_pos c19]
        simp only [b1, b2, b3, b4, b5, b6, b7, Option.bind_some, vo_0 o]
        exact stepP (p_read _) I hK
      rw [if_neg c19]
      by_cases c20 : xs (8 * i) &&& 31 = Int32.ofNat 20
      · rw [if_pos c20]
        simp only [b1, b2, b3, b4, b5, b6, b7, Option.bind_some, vo_0 o]
        exact stepV (p_fault) I hK
      rw [if_neg c20]
      by_cases c21 : xs (8 * i) &&& 31 = Int32.ofNat 21
      · rw [if_pos c21]
        simp only [b1, b2, b3, b4, b5, b6, b7, Option.bind_some, vo_0 o]
        exact stepP (p_barred _ _ _) I hK
      rw [if_neg c21]
      by_cases c22 : xs (8 * i) &&& 31 = Int32.ofNat 22
      · rw [if_pos c22]
        simp only [b1, b2, b3, b4, b5, b6, b7, Option.bind_some, vo_0 o]
        exact stepP (p_plan _ _ _ _) I hK
      rw [if_neg c22]
      by_cases c23 : xs (8 * i) &&& 31 = Int32.ofNat 23
      · rw [if_pos c23]
        simp only [b1, b2, b3, b4, b5, b6, b7, Option.bind_some, vo_0 o]
        exact stepP (p_say _ _ _) I hK
      rw [if_neg c23]
      by_cases c24 : xs (8 * i) &&& 31 = Int32.ofNat 24
      · rw [if_pos c24]
        simp only [b1, b2, b3, b4, b5, b6, b7, Option.bind_some, vo_0 o]
        exact stepP (p_came _ _) I hK
      rw [if_neg c24]
      by_cases c25 : xs (8 * i) &&& 31 = Int32.ofNat 25
      · rw [if_pos c25]
        simp only [b1, b2, b3, b4, b5, b6, b7, Option.bind_some, vo_0 o]
        exact stepV (p_saying _ _) I hK
      rw [if_neg c25]
      by_cases c26 : xs (8 * i) &&& 31 = Int32.ofNat 26
      · rw [if_pos c26]
        simp only [b1, b2, b3, b4, b5, b6, b7, Option.bind_some, vo_0 o]
        exact stepV (p_learnt _ _ _) I hK
      rw [if_neg c26]
      by_cases c27 : xs (8 * i) &&& 31 = Int32.ofNat 27
      · rw [if_pos c27]
        simp only [b1, b2, b3, b4, b5, b6, b7, Option.bind_some, vo_0 o]
        exact stepP (p_who _ _) I hK
      rw [if_neg c27]
      by_cases c28 : xs (8 * i) &&& 31 = Int32.ofNat 28
      · rw [if_pos c28]
        simp only [b1, b2, b3, b4, b5, b6, b7, Option.bind_some, vo_0 o]
        exact stepP (p_tried _ _ _ _) I hK
      rw [if_neg c28]
      exact hK μ I
end LW
