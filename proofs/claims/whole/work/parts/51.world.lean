/-- what the fields of a class are: 0 int or boolean, 1 long, 2 a reference -/
def fTab : Nat → List Nat := fun c => match c with
  | 0 => [2, 2, 0, 0]
  | 1 => [0, 0, 0]
  | 2 => [0, 0, 0, 2, 0]
  | 3 => [0, 2, 2, 2, 2]
  | 4 => [0, 2, 2, 2, 2, 2, 2, 2, 2, 2, 2, 2, 2, 2, 2, 2, 0, 0, 0]
  | 5 => [0, 0, 0, 0, 0]
  | 6 => [0, 0, 0, 0, 0, 0, 0, 0, 0]
  | 7 => [0, 0, 0, 0, 2, 2, 2, 0]
  | 8 => [2, 2]
  | 9 => [2, 2, 2, 2, 2, 0, 2, 2]
  | 10 => [2, 2, 2, 2, 2, 2, 2, 2, 2, 2, 0]
  | _ => [2, 2, 2, 0, 2, 0, 2, 2, 2, 2, 2, 2, 0, 2, 2, 2, 2, 2, 2, 2, 2, 2, 2, 2, 2, 2, 2, 2, 2, 2, 2, 2, 2, 2, 0, 0, 0, 1, 0, 0, 2, 0, 2, 2, 2, 0, 2, 2, 2, 2, 2]
def fN (c : Nat) : Nat := (fTab c).length
def fTy (c k : Nat) : Nat := (fTab c).getD k 0
/-- what all share: class numbers and slots, array classes by kind, the first new address, the text constants and their bytes -/
abbrev GL : Type := va_G × (Nat → ClassId) × Nat × (Nat → Nat) × (Nat → Nat)
def gD (G : GL) : va_G := G.1
def gC (G : GL) : Nat → ClassId := G.2.1
def gZ (G : GL) : Nat := G.2.2.1
def gK (G : GL) : Nat → Nat := G.2.2.2.1
def gVc (G : GL) : Nat → Nat := G.2.2.2.2
def gAd (G : GL) : Nat → Prop := fun q => gZ G ≤ q
def fv (G : GL) (μ : Mem) (a c k : Nat) : Value := match fTy c k with
  | 0 => .int (mI μ a k)
  | 1 => .long (mJ μ a k)
  | _ => va_rf ((mR μ a k).map (gZ G + ·))
def cel (G : GL) (μ : Mem) (a : Nat) : va_E := match mS μ a with
  | (0, c) => .inr (c, (List.range (fN c)).map (fv G μ a c))
  | (1, n) => .inl (gC G 1, n, .inl (mI μ a))
  | (2, n) => .inl (gC G 2, n, .inr (.inl (mJ μ a)))
  | (3, n) => .inl (gC G 3, n, .inl (mI μ a))
  | (k, n) => .inl (gC G k, n, .inr (.inr (.inr (.inr (fun j => (mR μ a j).map (gZ G + ·))))))
def wsOf (G : GL) (μ : Mem) : va_W := (List.range (mN μ)).map (fun a => (gZ G + a, cel G μ a))
/-- the heap holds the memory -/
def Wd (G : GL) (μ : Mem) (H : Heap) : Prop := va_P (gD G) vwCl (wsOf G μ) H
def tysOf (G : GL) : List (ClassId × FieldType) := [(gC G 1, .int), (gC G 2, .long), (gC G 3, .boolean), (gC G 4, .object RX3), (gC G 5, .object RX5), (gC G 6, .object RX6), (gC G 7, .array .int)]
theorem ws_at {G : GL} {μ : Mem} {a : Nat} (h : a < mN μ) : (wsOf G μ)[a]? = some (gZ G + a, cel G μ a) := by
  simp [wsOf, List.getElem?_map, List.getElem?_range h]
theorem ws_D (G : GL) (μ : Mem) : va_D (gAd G) (wsOf G μ) := by
  have h : ∀ (k : Nat) (q : Nat × va_E), (wsOf G μ)[k]? = some q → q.1 = gZ G + k := by
    intro k q hk
    have hl : k < mN μ := by
      have := (List.getElem?_eq_some_iff.mp hk).1
      simpa [wsOf] using this
    rw [ws_at hl] at hk
    cases hk
    rfl
  refine ⟨fun i j p q hi hj e => ?_, fun k q hk => ?_⟩
  · rw [h i p hi, h j q hj] at e
    omega
  · show gZ G ≤ q.1
    rw [h k q hk]
    omega
theorem ws_set {G : GL} {μ μ' : Mem} {a : Nat} (hn : mN μ' = mN μ) (h : ∀ b, b ≠ a → cel G μ' b = cel G μ b) : (wsOf G μ).set a (gZ G + a, cel G μ' a) = wsOf G μ' := by
  apply List.ext_getElem?
  intro i
  rw [List.getElem?_set]
  by_cases e : a = i
  · subst e
    by_cases hl : a < mN μ
    · rw [if_pos rfl, if_pos (by simpa [wsOf] using hl), ws_at (by rw [hn]; exact hl)]
    · rw [if_pos rfl, if_neg (by simpa [wsOf] using hl)]
      rw [List.getElem?_eq_none (by simpa [wsOf, hn] using hl)]
  · rw [if_neg e]
    by_cases hl : i < mN μ
    · rw [ws_at hl, ws_at (by rw [hn]; exact hl), h i (fun q => e q.symm)]
    · rw [List.getElem?_eq_none (by simpa [wsOf] using hl), List.getElem?_eq_none (by simpa [wsOf, hn] using hl)]
theorem ws_push {G : GL} {μ : Mem} {sh : Nat × Nat} : wsOf G (mNew μ sh) = wsOf G μ ++ [(gZ G + mN μ, cel G (mNew μ sh) (mN μ))] := by
  have hc : ∀ b, b < mN μ → cel G (mNew μ sh) b = cel G μ b := by
    intro b hb
    have hne : b ≠ μ.1 := Nat.ne_of_lt hb
    have e1 : mS (mNew μ sh) b = mS μ b := if_neg hne
    have e2 : mI (mNew μ sh) b = mI μ b := if_neg hne
    have e3 : mJ (mNew μ sh) b = mJ μ b := if_neg hne
    have e4 : mR (mNew μ sh) b = mR μ b := if_neg hne
    have e5 : fv G (mNew μ sh) b = fv G μ b := by
      funext c k
      simp only [fv, e2, e3, e4]
    simp only [cel, e1, e2, e3, e4, e5]
  have hN : mN (mNew μ sh) = mN μ + 1 := rfl
  simp only [wsOf, hN, List.range_succ, List.map_append, List.map_cons, List.map_nil]
  congr 1
  apply List.map_congr_left
  intro b hb
  rw [hc b (List.mem_range.mp hb)]
