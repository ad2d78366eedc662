/-! ===== the class's weights ===== -/
def HJ (μ : Mem) (a n : Nat) (f : Nat → Nat) : Prop := ∀ i, i < n → mJ μ a i = lN (f i)
theorem wt_s {μ : Mem} (h : Ok μ) : S0 (wtA μ) = (2, 4) ∧ S0 (wtB μ) = (2, 4) ∧ wtA μ < 175 ∧ wtB μ < 175 ∧ wtA μ ≠ wtB μ := by
  rcases h.2.2.2.1.2.2 with ⟨a, b⟩ | ⟨a, b⟩ <;> rw [a, b] <;> exact ⟨rfl, rfl, by decide, by decide, by decide⟩
theorem HJ.put {μ : Mem} {a n : Nat} {f : Nat → Nat} {v : Int64} (h : HJ μ a n f) (hv : v = lN (f n)) : HJ (wJ μ a n v) a (n + 1) f := by
  intro i hi
  rw [mJ_wJ]
  by_cases e : i = n
  · subst e
    rw [if_pos ⟨rfl, rfl⟩, hv]
  · rw [if_neg (fun q => e q.2)]
    exact h i (by omega)
theorem HJ.oth {μ : Mem} {a b n k : Nat} {f : Nat → Nat} {v : Int64} (h : HJ μ a n f) (hb : a ≠ b) : HJ (wJ μ b k v) a n f := by
  intro i hi
  rw [mJ_wJ, if_neg (fun q => hb q.1)]
  exact h i hi
theorem weigh19 {μ : Mem} (h : Ok μ) (R : RelW μ) {p st : Nat} (hp : p < 4) (hst : st < 61) (c : Bool) (x2 : Int32) (k : Nat) : ∃ μ', (Sm μ μ' ∧ wtA μ' = wtA μ ∧ wtB μ' = wtB μ ∧ HJ μ' (wtA μ) 4 (wN μ c p st 0)) ∧ X9_weigh_L19 1 (nI p) x2 (cI c) (nI st) (k + 1 + 4) 0 μ = some (nI 4, μ') := by
  have key := loopP (F := fun k (a : Mem) i => X9_weigh_L19 1 (nI p) x2 (cI c) (nI st) k (nI i) a) (P := fun i a => Sm μ a ∧ wtA a = wtA μ ∧ wtB a = wtB μ ∧ HJ a (wtA μ) i (wN μ c p st 0)) (n := 4) (fun k a i hi P => by
    obtain ⟨s, ea, eb, hj⟩ := P
    have ha := s.1
    have Ra := R.sm s
    have w := wt_s ha
    have e1 := aI_eq (a := 12) ha (by decide) rfl hi (by decide)
    have e2 := aI_eq ha (by omega) (s_signs hp) hst (by decide)
    have e3 := signF (c := c) ha Ra.2.1 hi (Ra.2.2.2.2.1 p st hp hst).2
    refine ⟨wJ a (wtA a) i (X9_factor (mI a 12 i) (cI c) * lN (psi a c i (sg a p st))), ⟨s.wJ, ea, eb, ?_⟩, ?_⟩
    rotate_left 1
    · show X9_weigh_L19 1 (nI p) x2 (cI c) (nI st) (k + 1) (nI i) a = _
      rw [X9_weigh_L19, if_neg (by rw [show (4 : Int32) = nI 4 from rfl, n_le (by decide) (by omega)]; omega)]
      simp only [r_w6 ha, r_1_2 ha, r_1_3 ha, ar_signs ha hp, vO_eq (c := 9) (a := 1) ha (by decide) rfl, e1, e2, (Ra.2.2.2.2.1 p st hp hst).1, e3, Option.bind_some, sJ_eq ha w.2.2.1 w.1 hi (by decide), nI_add1]
    · rw [ea]
      refine hj.put ?_
      rw [(Ra.2.2.1 i hi).1, factor_eq (by have := (Ra.2.2.1 i hi).2.2; omega), lN_mul, bg_sm s, psi_sm s, sg_sm s]
      rfl) 4 (k + 1) μ 0 rfl ⟨Sm.rf h, rfl, rfl, fun i hi => absurd hi (Nat.not_lt_zero i)⟩
  obtain ⟨μ', P, e⟩ := key
  refine ⟨μ', P, ?_⟩
  rw [← nI_0]
  refine e.trans ?_
  show X9_weigh_L19 1 (nI p) x2 (cI c) (nI st) (k + 1) (nI 4) μ' = _
  rw [X9_weigh_L19, if_pos (by decide)]
