/-! ===== TOLD ===== -/
/-- one saying more: how many of the THING are not wiped, who looked at one (a set) -/
def tdF (μ : Mem) (t : Nat) (s : Nat) (a : Nat × Nat) : Nat × Nat := if bt (nI (sv μ 1 s)) t = 0 then a else (if sv μ 4 s = 3 then a.1 else a.1 + 1, if sv μ 4 s = 1 then a.2 ||| 2 ^ sv μ 0 s else a.2)
def tdA (μ : Mem) (t : Nat) (i : Nat) : Nat × Nat := itr (tdF μ t) 0 i (0, 0)
theorem tdA_s (μ : Mem) (t i : Nat) : tdA μ t (i + 1) = tdF μ t i (tdA μ t i) := by
  unfold tdA
  rw [itr_succ, Nat.zero_add]
theorem or16 : ∀ m, m < 16 → ∀ k, k < 4 → nI m ||| (1 <<< (nI k &&& 31)) = nI (m ||| 2 ^ k) ∧ (m ||| 2 ^ k) < 16 := by decide +kernel
theorem tdA_ok {μ : Mem} (S : RelS μ) (t : Nat) : ∀ i, i ≤ 40 → (tdA μ t i).2 < 16 ∧ ((tdA μ t i).2 ≠ 0 → (tdA μ t i).1 ≠ 0) ∧ (tdA μ t i).1 ≤ i
  | 0, _ => ⟨(by decide : (0 : Nat) < 16), fun h => absurd rfl h, Nat.le_refl _⟩
  | i + 1, h => by
    obtain ⟨h1, h2, h3⟩ := tdA_ok S t i (by omega)
    rw [tdA_s]
    unfold tdF
    have b0 : sv μ 0 i ≤ 3 := (S.2.1 0 i (by decide) (by omega)).2.2
    by_cases q : bt (nI (sv μ 1 i)) t = 0
    · rw [if_pos q]
      exact ⟨h1, h2, by omega⟩
    · rw [if_neg q]
      refine ⟨?_, ?_, ?_⟩
      · show (if sv μ 4 i = 1 then (tdA μ t i).2 ||| 2 ^ sv μ 0 i else (tdA μ t i).2) < 16
        split
        · exact (or16 _ h1 _ (by omega)).2
        · exact h1
      · show (if sv μ 4 i = 1 then (tdA μ t i).2 ||| 2 ^ sv μ 0 i else (tdA μ t i).2) ≠ 0 → (if sv μ 4 i = 3 then (tdA μ t i).1 else (tdA μ t i).1 + 1) ≠ 0
        by_cases e3 : sv μ 4 i = 3
        · rw [if_pos e3, if_neg (by omega)]
          exact h2
        · rw [if_neg e3]
          intro _
          omega
      · show (if sv μ 4 i = 3 then (tdA μ t i).1 else (tdA μ t i).1 + 1) ≤ i + 1
        split <;> omega
theorem told_c7 {μ : Mem} (h : Ok μ) (S : RelS μ) (t : Nat) : X0_isTold_L7 37 (nI t) μ FU 0 0 0 = some (nI (tdA μ t (sc μ)).1, nI (tdA μ t (sc μ)).2, nI (sc μ)) := by
  have hc := S.1.2.2
  have key := loopP (F := fun k (a : Nat × Nat) i => X0_isTold_L7 37 (nI t) μ k (nI a.1) (nI a.2) (nI i)) (P := fun i a => a = tdA μ t i) (n := sc μ) (fun k a i hi P => by
    subst P
    obtain ⟨h1, h2, h3⟩ := tdA_ok S t i (by omega)
    have b0 : sv μ 0 i ≤ 3 := (S.2.1 0 i (by decide) (by omega)).2.2
    have b4 : sv μ 4 i ≤ 3 := (S.2.1 4 i (by decide) (by omega)).2.2
    have g : ¬ nI (sc μ) ≤ nI i := nI_ge hi (by omega)
    have c3 : nI (sv μ 4 i) = 3 ↔ sv μ 4 i = 3 := nI_eq (b := 3) (by omega) (by decide)
    have c1 : nI (sv μ 4 i) = 1 ↔ sv μ 4 i = 1 := nI_eq (b := 1) (by omega) (by decide)
    have f := fun c hc' => (S.2.1 c i hc' (by omega)).1
    have so := s_saying (s := i) (by omega)
    refine ⟨tdA μ t (i + 1), rfl, ?_⟩
    show X0_isTold_L7 37 (nI t) μ (k + 1) (nI (tdA μ t i).1) (nI (tdA μ t i).2) (nI i) = X0_isTold_L7 37 (nI t) μ k (nI (tdA μ t (i + 1)).1) (nI (tdA μ t (i + 1)).2) (nI (i + 1))
    rw [tdA_s]
    unfold tdF
    generalize tdA μ t i = a at *
    rw [X0_isTold_L7, gI_eq (a := 37) h (by decide) rfl, S.1.1, Option.bind_some, if_neg g]
    simp only [r_37_1 h, ar_sayings h (show i < 40 by omega), Option.bind_some, gI_eq (c := 5) h (show 50 + i < 175 by omega) so, f 1 (by decide), f 4 (by decide), f 0 (by decide)]
    by_cases q : bt (nI (sv μ 1 i)) t = 0
    · rw [if_pos (by rw [has_z]; exact q), if_pos q, Option.bind_some, nI_add1]
    · rw [if_neg (by rw [has_z]; exact q), if_neg q]
      by_cases e3 : sv μ 4 i = 3
      · rw [if_pos (c3.mpr e3), if_neg (fun z => by have := c1.mp z; omega), Option.bind_some, if_pos e3, if_neg (by omega), nI_add1]
      · rw [if_neg (fun z => e3 (c3.mp z)), if_neg e3]
        by_cases e1 : sv μ 4 i = 1
        · rw [if_pos (c1.mpr e1), Option.bind_some, if_pos e1, (or16 _ h1 _ (by omega)).1, nI_add1, nI_add1]
        · rw [if_neg (fun z => e1 (c1.mp z)), Option.bind_some, if_neg e1, nI_add1, nI_add1]) (sc μ) (99999 - sc μ + 1) (0, 0) 0 (by omega) rfl
  obtain ⟨a, P, e⟩ := key
  subst P
  rw [show FU = 99999 - sc μ + 1 + sc μ by unfold FU; omega]
  refine e.trans ?_
  show X0_isTold_L7 37 (nI t) μ (99999 - sc μ + 1) _ _ (nI (sc μ)) = _
  rw [X0_isTold_L7, gI_eq (a := 37) h (by decide) rfl, S.1.1, Option.bind_some, if_pos (nI_le (Nat.le_refl _) (by omega))]
