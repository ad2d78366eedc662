/-! ===== what the promises speak of (core), and what is only written and read within a call ===== -/
def coA (a : Nat) : Bool := decide ((3 ≤ a ∧ a ≤ 6) ∨ (8 ≤ a ∧ a ≤ 12) ∨ (14 ≤ a ∧ a ≤ 17) ∨ (32 ≤ a ∧ a ≤ 36) ∨ (40 ≤ a ∧ a ≤ 89) ∨ a = 91 ∨ (109 ≤ a ∧ a ≤ 133) ∨ (135 ≤ a ∧ a ≤ 138) ∨ (145 ≤ a ∧ a ≤ 160) ∨ a = 165 ∨ (170 ≤ a ∧ a ≤ 174))
def coF (a k : Nat) : Bool := match a with
  | 0 => k == 10
  | 1 => k == 5
  | 37 => k == 2 || k == 3
  | 90 => k == 0 || k == 2
  | 134 => k == 3 || (k == 5 || (k == 12 || (k == 34 || (k == 35 || k == 45))))
  | _ => false
def cor (a k : Nat) : Bool := coA a || coF a k
/-- the same but for scratch -/
def Sm (μ μ' : Mem) : Prop := Ok μ' ∧ (∀ a k, cor a k = true → mI μ' a k = mI μ a k) ∧ mR μ' 92 = mR μ 92 ∧ mR μ' 0 9 = mR μ 0 9
theorem Sm.rf {μ : Mem} (h : Ok μ) : Sm μ μ := ⟨h, fun _ _ _ => rfl, rfl, rfl⟩
theorem Sm.tr {μ μ' μ'' : Mem} (h : Sm μ μ') (h2 : Sm μ' μ'') : Sm μ μ'' := ⟨h2.1, fun a k q => (h2.2.1 a k q).trans (h.2.1 a k q), h2.2.2.1.trans h.2.2.1, h2.2.2.2.trans h.2.2.2⟩
theorem Sm.wI {μ μ' : Mem} {a k : Nat} {v : Int32} (h : Sm μ μ') (hc : cor a k = false) : Sm μ (wI μ' a k v) := by
  refine ⟨h.1, fun b j q => ?_, h.2.2.1, h.2.2.2⟩
  rw [mI_wI, if_neg (fun e => by rw [e.1, e.2, hc] at q; cases q)]
  exact h.2.1 b j q
theorem Sm.wJ {μ μ' : Mem} {a k : Nat} {v : Int64} (h : Sm μ μ') : Sm μ (wJ μ' a k v) := h
/-- a row that is scratch as a whole -/
theorem cor_no {a k : Nat} (h : coA a = false) (h2 : ∀ k, coF a k = false) : cor a k = false := by
  unfold cor
  rw [h, h2]
  rfl
