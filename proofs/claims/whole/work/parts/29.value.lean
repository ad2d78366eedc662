/-! ===== which THINGS and SAYINGS there are ===== -/
theorem zz1 : zz 1 = some 1 := rfl
theorem zz0 : zz 0 = some 0 := rfl
/-- a count that both hold: bounds are looked at alike -/
theorem gcnt (x : Int32) {n : Nat} (hn : n < 1000) : ((((if x < 0 then some 0 else if nI n ≤ x then some 0 else some 1) : Option Int32)) = some 0 ∧ X11_in x.toInt64 0 (nI n - 1).toInt64 = 0) ∨ ((((if x < 0 then some 0 else if nI n ≤ x then some 0 else some 1) : Option Int32)) = some 1 ∧ X11_in x.toInt64 0 (nI n - 1).toInt64 = 1 ∧ ∃ t, t < n ∧ x = nI t) := by
  have e : X11_in x.toInt64 0 (nI n - 1).toInt64 = X10_within x 0 (nI n - 1) := in_eq x 0 (nI n - 1)
  rw [e]
  unfold X10_within
  by_cases h0 : x < 0
  · left
    rw [if_pos h0, if_pos h0]
    exact ⟨rfl, rfl⟩
  · obtain ⟨t, ht, rfl⟩ := nI_of h0
    have c1 : nI n ≤ nI t ↔ n ≤ t := nI_leI (by omega) ht
    rw [if_neg h0, if_neg h0]
    by_cases h1 : n ≤ t
    · left
      rw [if_pos (c1.mpr h1)]
      refine ⟨rfl, ?_⟩
      rw [if_pos]
      cases n with
      | zero =>
        rw [show nI 0 - 1 = -1 from rfl, Int32.lt_iff_toInt_lt, nI_toInt ht]
        have : (-1 : Int32).toInt = -1 := rfl
        omega
      | succ n =>
        rw [nI_pred, n_lt (by omega) ht]
        omega
    · right
      rw [if_neg (fun q => h1 (c1.mp q))]
      refine ⟨rfl, ?_, t, by omega, rfl⟩
      rw [if_neg]
      cases n with
      | zero => omega
      | succ n =>
        rw [nI_pred, n_lt (by omega) ht]
        omega
theorem gT {μ : Mem} (h : Ok μ) (T : RelT μ) (x : Int32) : (X0_hasThing 37 x μ = some 0 ∧ X11_isThing 134 x μ = some 0) ∨ (X0_hasThing 37 x μ = some 1 ∧ X11_isThing 134 x μ = some 1 ∧ ∃ t, t < tn μ ∧ x = nI t) := by
  have hn := T.1.2.2
  unfold X0_hasThing X11_isThing
  rw [gI_eq (a := 37) h (by decide) rfl, T.1.1, gI_eq (a := 134) h (by decide) rfl, T.1.2.1, Option.bind_some, Option.bind_some]
  rcases gcnt x (n := tn μ) (by omega) with ⟨e1, e2⟩ | ⟨e1, e2, e3⟩
  · left
    rw [e1, e2]
    exact ⟨rfl, rfl⟩
  · right
    rw [e1, e2]
    exact ⟨rfl, rfl, e3⟩
theorem gS {μ : Mem} (h : Ok μ) (S : RelS μ) (x : Int32) : (X0_hasSaying 37 x μ = some 0 ∧ X11_isSaying 134 x μ = some 0) ∨ (X0_hasSaying 37 x μ = some 1 ∧ X11_isSaying 134 x μ = some 1 ∧ ∃ t, t < sc μ ∧ x = nI t) := by
  have hn := S.1.2.2
  unfold X0_hasSaying X11_isSaying
  rw [gI_eq (a := 37) h (by decide) rfl, S.1.1, gI_eq (a := 134) h (by decide) rfl, S.1.2.1, Option.bind_some, Option.bind_some]
  rcases gcnt x (n := sc μ) (by omega) with ⟨e1, e2⟩ | ⟨e1, e2, e3⟩
  · left
    rw [e1, e2]
    exact ⟨rfl, rfl⟩
  · right
    rw [e1, e2]
    exact ⟨rfl, rfl, e3⟩
/-- VALUE of a THING in a TICK with seam odds -/
def valD (μ : Mem) (t k : Nat) : Int32 := nI (tv μ 4 t) - nI (tv μ 5 t) * (nI (nw μ + k) - nI (tv μ 7 t))
def valV (μ : Mem) (t k s : Nat) : Int32 := if tv μ 8 t = 0 then (if nw μ + k ≤ tv μ 6 t then (if 0 < valD μ t k then (if tv μ 1 t = 2 then ((valD μ t k).toInt64 * (nI s).toInt64 / 1000000).toInt32 else valD μ t k) else 0) else 0) else 0
theorem dvM (x : Int64) : dvJ x 1000000 = some (x / 1000000) := if_neg (by decide)
theorem val_c {μ : Mem} (h : Ok μ) (T : RelT μ) {t k s : Nat} (ht : t < 10) (hk : nw μ + k < 1000) : X6_valueIn (40 + t) (nI (nw μ + k)) (nI s) μ = some (valV μ t k s) := by
  have so := s_things ht
  have f := fun c hc => (T.2.1 c t hc ht).1
  have b6 : tv μ 6 t ≤ 60 := (T.2.1 6 t (by decide) ht).2.2
  have b8 : tv μ 8 t ≤ 1 := (T.2.1 8 t (by decide) ht).2.2
  have b1 : tv μ 1 t ≤ 3 := (T.2.1 1 t (by decide) ht).2.2
  unfold X6_valueIn valV
  rw [gI_eq h (by omega) so, gI_eq h (by omega) so, gI_eq h (by omega) so, gI_eq h (by omega) so, gI_eq h (by omega) so, gI_eq h (by omega) so, f 8 (by decide), f 6 (by decide), f 4 (by decide), f 5 (by decide), f 7 (by decide), f 1 (by decide)]
  simp only [Option.bind_some]
  have c8 : nI (tv μ 8 t) = 0 ↔ tv μ 8 t = 0 := nI_eq (b := 0) (by omega) (by decide)
  have c6 : nI (nw μ + k) ≤ nI (tv μ 6 t) ↔ nw μ + k ≤ tv μ 6 t := nI_leI (by omega) (by omega)
  have c1 : nI (tv μ 1 t) = 2 ↔ tv μ 1 t = 2 := nI_eq (b := 2) (by omega) (by decide)
  by_cases q8 : tv μ 8 t = 0
  · rw [if_pos (c8.mpr q8), if_pos q8]
    by_cases q6 : nw μ + k ≤ tv μ 6 t
    · rw [if_pos (c6.mpr q6), if_pos q6]
      by_cases q : 0 < valD μ t k
      · rw [if_pos q, if_pos (show 0 < nI (tv μ 4 t) - nI (tv μ 5 t) * (nI (nw μ + k) - nI (tv μ 7 t)) from q)]
        by_cases q1 : tv μ 1 t = 2
        · rw [if_pos (c1.mpr q1), if_pos q1, dvM, Option.bind_some, Option.bind_some]
          rfl
        · rw [if_neg (fun z => q1 (c1.mp z)), if_neg q1, Option.bind_some]
          rfl
      · rw [if_neg q, if_neg (show ¬ 0 < nI (tv μ 4 t) - nI (tv μ 5 t) * (nI (nw μ + k) - nI (tv μ 7 t)) from q)]
        by_cases q1 : tv μ 1 t = 2
        · rw [if_pos (c1.mpr q1), dvM, Option.bind_some, Option.bind_some, show (0 : Int32).toInt64 = 0 from rfl, Int64.zero_mul]
          rfl
        · rw [if_neg (fun z => q1 (c1.mp z)), Option.bind_some]
    · rw [if_neg (fun z => q6 (c6.mp z)), if_neg q6]
  · rw [if_neg (fun z => q8 (c8.mp z)), if_neg q8]
