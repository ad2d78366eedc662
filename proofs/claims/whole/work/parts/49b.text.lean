/-! ===== the text, read in numbers ===== -/
def scF (P : Nat → Bool) (n : Nat) (T : Nat → Nat) : Nat → Nat → Nat
  | 0, q => q
  | d + 1, q => if q < n ∧ P (T q) = true then scF P n T d (q + 1) else q
def scn (P : Nat → Bool) (n : Nat) (T : Nat → Nat) (q : Nat) : Nat := scF P n T (n - q) q
theorem scn_eq (P : Nat → Bool) (n : Nat) (T : Nat → Nat) (q : Nat) : scn P n T q = if q < n ∧ P (T q) = true then scn P n T (q + 1) else q := by
  unfold scn
  by_cases h : q < n
  · obtain ⟨d, hd⟩ : ∃ d, n - q = d + 1 := ⟨n - q - 1, by omega⟩
    rw [hd, scF, show n - (q + 1) = d by omega]
  · rw [show n - q = 0 by omega, scF, if_neg (fun z => h z.1)]
theorem scn_sp (P : Nat → Bool) (n : Nat) (T : Nat → Nat) : ∀ d q, n - q = d → q ≤ scn P n T q ∧ (q ≤ n → scn P n T q ≤ n) ∧ ¬ (scn P n T q < n ∧ P (T (scn P n T q)) = true) ∧ ∀ i, q ≤ i → i < scn P n T q → P (T i) = true
  | 0, q, h => by
    rw [scn_eq, if_neg (by omega)]
    exact ⟨Nat.le_refl _, fun h => h, by omega, fun i h1 h2 => by omega⟩
  | d + 1, q, h => by
    by_cases z : q < n ∧ P (T q) = true
    · obtain ⟨h1, h2, h3, h4⟩ := scn_sp P n T d (q + 1) (by omega)
      rw [scn_eq, if_pos z]
      refine ⟨by omega, fun _ => h2 (by omega), h3, fun i i1 i2 => ?_⟩
      by_cases e : i = q
      · subst e
        exact z.2
      · exact h4 i (by omega) i2
    · rw [scn_eq, if_neg z]
      exact ⟨Nat.le_refl _, fun h => h, z, fun i h1 h2 => by omega⟩
def isB (c : Nat) : Bool := decide (c = 32)
def isL (c : Nat) : Bool := decide (97 ≤ c ∧ c ≤ 122)
def isD (c : Nat) : Bool := decide (48 ≤ c ∧ c ≤ 57)
def sk (n : Nat) (T : Nat → Nat) (q : Nat) : Nat := scn isB n T q
def we (n : Nat) (T : Nat → Nat) (q : Nat) : Nat := scn isL n T q
def de (n : Nat) (T : Nat → Nat) (q : Nat) : Nat := scn isD n T q
theorem sk_le {n : Nat} {T : Nat → Nat} {q : Nat} (h : q ≤ n) : sk n T q ≤ n := (scn_sp isB n T _ q rfl).2.1 h
theorem we_le {n : Nat} {T : Nat → Nat} {q : Nat} (h : q ≤ n) : we n T q ≤ n := (scn_sp isL n T _ q rfl).2.1 h
theorem de_le {n : Nat} {T : Nat → Nat} {q : Nat} (h : q ≤ n) : de n T q ≤ n := (scn_sp isD n T _ q rfl).2.1 h
theorem we_ge {n : Nat} {T : Nat → Nat} {q : Nat} : q ≤ we n T q := (scn_sp isL n T _ q rfl).1
theorem de_ge {n : Nat} {T : Nat → Nat} {q : Nat} : q ≤ de n T q := (scn_sp isD n T _ q rfl).1
theorem sk_idem {n : Nat} {T : Nat → Nat} {q : Nat} : sk n T (sk n T q) = sk n T q := by
  have h := (scn_sp isB n T _ q rfl).2.2.1
  show scn isB n T (scn isB n T q) = scn isB n T q
  rw [scn_eq, if_neg h]
/-- the nine words: their lengths, their letters -/
def wL (w : Nat) : Nat := sLens.getD w 0
def wC (w i : Nat) : Nat := vN ((sByts.getD w []).getD i 0)
theorem wC_ok : ∀ w, w < 9 → ∀ i, i < 6 → i < wL w → (sByts.getD w []).getD i 0 = nI (wC w i) ∧ 97 ≤ wC w i ∧ wC w i ≤ 122 := by decide +kernel
theorem wL_ok : ∀ w, w < 9 → 2 ≤ wL w ∧ wL w ≤ 6 := by decide +kernel
def wQ (n : Nat) (T : Nat → Nat) (s w : Nat) : Bool := decide (we n T s - s = wL w ∧ ∀ i, i < wL w → T (s + i) = wC w i)
/-- a NUMBER's value by its first three figures -/
def vC (T : Nat → Nat) (s : Nat) : Nat → Nat
  | 0 => 0
  | j + 1 => if j < 3 then vC T s j * 10 + T (s + j) - 48 else vC T s j
def vM (T : Nat → Nat) (s : Nat) : Nat → Nat
  | 0 => 0
  | j + 1 => if vM T s j ≤ 10000 then 10 * vM T s j + T (s + j) - 48 else vM T s j
theorem vC_bd {T : Nat → Nat} {s : Nat} : ∀ j, (∀ i, i < j → 48 ≤ T (s + i) ∧ T (s + i) ≤ 57) → vC T s j ≤ 999 ∧ (j ≤ 2 → vC T s j ≤ 99) ∧ (j ≤ 1 → vC T s j ≤ 9) ∧ (j = 0 → vC T s j = 0)
  | 0, _ => ⟨by rw [vC]; omega, fun _ => by rw [vC]; omega, fun _ => by rw [vC]; omega, fun _ => rfl⟩
  | j + 1, h => by
    obtain ⟨h1, h2, h3, h4⟩ := vC_bd j (fun i hi => h i (by omega))
    have hj := h j (by omega)
    rw [vC]
    by_cases q : j < 3
    · rw [if_pos q]
      have h2' := h2
      refine ⟨?_, fun z => ?_, fun z => ?_, fun z => by omega⟩
      · have := h2 (by omega)
        omega
      · have := h3 (by omega)
        omega
      · have := h4 (by omega)
        omega
    · rw [if_neg q]
      exact ⟨h1, fun z => by omega, fun z => by omega, fun z => by omega⟩
theorem vM_eq {T : Nat → Nat} {s : Nat} : ∀ j, j ≤ 3 → (∀ i, i < j → 48 ≤ T (s + i) ∧ T (s + i) ≤ 57) → vM T s j = vC T s j
  | 0, _, _ => rfl
  | j + 1, h3, h => by
    have ih := vM_eq j (by omega) (fun i hi => h i (by omega))
    have b := (vC_bd j (fun i hi => h i (by omega))).1
    rw [vM, vC, ih, if_pos (by omega), if_pos (by omega), Nat.mul_comm]
theorem vM_bd {T : Nat → Nat} {s : Nat} : ∀ j, (∀ i, i < j → 48 ≤ T (s + i) ∧ T (s + i) ≤ 57) → vM T s j ≤ 100009
  | 0, _ => by rw [vM]; omega
  | j + 1, h => by
    have ih := vM_bd j (fun i hi => h i (by omega))
    have hj := h j (by omega)
    rw [vM]
    split
    · omega
    · exact ih
/-! words as numbers -/
def wcN (T : Nat → Nat) (s : Nat) : Nat → Nat
  | 0 => 0
  | j + 1 => if wcN T s j ≤ 10000000000 then 27 * wcN T s j + T (s + j) - 96 else 20000000000
def cdN (L : Nat → Nat) : Nat → Nat
  | 0 => 0
  | j + 1 => 27 * cdN L j + L j - 96
theorem wcN_bd {T : Nat → Nat} {s : Nat} : ∀ j, (∀ i, i < j → 97 ≤ T (s + i) ∧ T (s + i) ≤ 122) → wcN T s j ≤ 270000000026 ∧ (0 < j → 0 < wcN T s j)
  | 0, _ => ⟨by rw [wcN]; omega, fun z => by omega⟩
  | j + 1, h => by
    have hj := h j (by omega)
    rw [wcN]
    split
    · exact ⟨by omega, fun _ => by omega⟩
    · exact ⟨by omega, fun _ => by omega⟩
theorem cdN_bd {L : Nat → Nat} : ∀ m, (∀ i, i < m → 97 ≤ L i ∧ L i ≤ 122) → cdN L m < 27 ^ m
  | 0, _ => by rw [cdN]; decide
  | m + 1, h => by
    have ih := cdN_bd m (fun i hi => h i (by omega))
    have hm := h m (by omega)
    rw [cdN, Nat.pow_succ]
    omega
theorem code_iff {T L : Nat → Nat} {s : Nat} : ∀ m j, m ≤ 6 → (∀ i, i < m → 97 ≤ L i ∧ L i ≤ 122) → (∀ i, i < j → 97 ≤ T (s + i) ∧ T (s + i) ≤ 122) → (wcN T s j = cdN L m ↔ j = m ∧ ∀ i, i < m → T (s + i) = L i)
  | 0, j, _, _, hT => by
    have := (wcN_bd j hT).2
    rw [cdN]
    constructor
    · intro h
      refine ⟨by omega, fun i hi => by omega⟩
    · intro ⟨h, _⟩
      subst h
      rfl
  | m + 1, 0, _, hL, _ => by
    have hm := hL m (by omega)
    rw [wcN, cdN]
    constructor
    · intro h
      omega
    · intro ⟨h, _⟩
      omega
  | m + 1, j + 1, h6, hL, hT => by
    have ih := code_iff (T := T) (L := L) (s := s) m j (by omega) (fun i hi => hL i (by omega)) (fun i hi => hT i (by omega))
    have hm := hL m (by omega)
    have hj := hT j (by omega)
    have bd := cdN_bd m (fun i hi => hL i (by omega))
    have bd2 : 27 ^ m ≤ 27 ^ 5 := Nat.pow_le_pow_right (by decide) (by omega)
    rw [wcN, cdN]
    constructor
    · intro h
      have q : wcN T s j ≤ 10000000000 := by
        by_cases q : wcN T s j ≤ 10000000000
        · exact q
        · rw [if_neg q] at h
          omega
      rw [if_pos q] at h
      have e1 : wcN T s j = cdN L m := by omega
      obtain ⟨e2, e3⟩ := ih.mp e1
      subst e2
      refine ⟨rfl, fun i hi => ?_⟩
      by_cases z : i = j
      · subst z
        omega
      · exact e3 i (by omega)
    · intro ⟨h1, h2⟩
      have e2 : j = m := by omega
      subst e2
      have e1 := ih.mpr ⟨rfl, fun i hi => h2 i (by omega)⟩
      rw [e1, if_pos (by omega), h2 j (by omega)]
theorem wQ_code {n : Nat} {T : Nat → Nat} {s w : Nat} (hw : w < 9) : (wcN T s (we n T s - s) = cdN (wC w) (wL w)) = (wQ n T s w = true) := by
  have hT : ∀ i, i < we n T s - s → 97 ≤ T (s + i) ∧ T (s + i) ≤ 122 := fun i hi => by
    have := (scn_sp isL n T _ s rfl).2.2.2 (s + i) (by omega) (show s + i < we n T s by omega)
    unfold isL at this
    rw [decide_eq_true_eq] at this
    exact this
  have h6 := wL_ok w hw
  unfold wQ
  rw [decide_eq_true_eq]
  exact propext (code_iff (wL w) (we n T s - s) h6.2 (fun i hi => (wC_ok w hw i (by omega) hi).2) hT)
/-! clauses -/
abbrev Flt : Type := Nat × Nat
abbrev Cls : Type := Nat × Nat × Nat × Nat
def sb {B C : Type} (x : Flt ⊕ B) (g : B → Flt ⊕ C) : Flt ⊕ C := match x with
  | .inl a => .inl a
  | .inr b => g b
theorem sb_as {B C D : Type} (x : Flt ⊕ B) (g : B → Flt ⊕ C) (h : C → Flt ⊕ D) : sb (sb x g) h = sb x (fun b => sb (g b) h) := by cases x <;> rfl
def pN (n : Nat) (T : Nat → Nat) (lo hi q : Nat) : Flt ⊕ (Nat × Nat) := if de n T (sk n T q) = sk n T q then .inl (1, sk n T q) else if 3 < de n T (sk n T q) - sk n T q ∨ vC T (sk n T q) (de n T (sk n T q) - sk n T q) < lo ∨ hi < vC T (sk n T q) (de n T (sk n T q) - sk n T q) then .inl (2, sk n T q) else .inr (vC T (sk n T q) (de n T (sk n T q) - sk n T q), de n T (sk n T q))
def pW (n : Nat) (T : Nat → Nat) (w q : Nat) : Flt ⊕ Nat := if wQ n T (sk n T q) w = true then .inr (we n T (sk n T q)) else .inl (1, sk n T q)
def pE (n : Nat) (T : Nat → Nat) (c : Cls × Nat) : Flt ⊕ (Cls × Nat) := if sk n T c.2 < n ∧ T (sk n T c.2) = 59 then .inr (c.1, sk n T c.2 + 1) else .inl (1, sk n T c.2)
def pWay (n : Nat) (T : Nat → Nat) (q : Nat) : Flt ⊕ (Cls × Nat) := sb (pN n T 0 3 q) fun a => if sk n T a.2 < n ∧ isL (T (sk n T a.2)) = true then sb (pW n T 2 a.2) fun q1 => sb (pN n T 0 3 q1) fun b => sb (pN n T 0 100 b.2) fun c => .inr ((1, a.1, b.1, c.1), c.2) else .inr ((0, a.1, 0, 0), sk n T a.2)
def pKind (n : Nat) (T : Nat → Nat) (q : Nat) : Flt ⊕ (Cls × Nat) := sb (pN n T 0 3 q) fun a => sb (pW n T 4 a.2) fun q3 => sb (pN n T 0 60 q3) fun b => .inr ((2, a.1, b.1, 0), b.2)
def pNever (n : Nat) (T : Nat → Nat) (q : Nat) : Flt ⊕ (Cls × Nat) := if wQ n T (sk n T q) 1 = true then pWay n T (we n T (sk n T q)) else sb (pW n T 3 q) fun q1 => pKind n T q1
def pMost (n : Nat) (T : Nat → Nat) (q : Nat) : Flt ⊕ (Cls × Nat) := sb (pN n T 0 9 q) fun a => sb (pW n T 6 a.2) fun q2 => sb (pN n T 1 60 q2) fun b => .inr ((3, a.1, b.1, 0), b.2)
def pAlways (n : Nat) (T : Nat → Nat) (q : Nat) : Flt ⊕ (Cls × Nat) := sb (pW n T 8 q) fun q1 => sb (pN n T 0 9 q1) fun a => .inr ((4, a.1, 0, 0), a.2)
def pHead (n : Nat) (T : Nat → Nat) (m q : Nat) : Flt ⊕ (Cls × Nat) := if wQ n T q 0 = true then (if m < 8 then pNever n T (we n T q) else .inl (3, q)) else if wQ n T q 5 = true then (if m < 8 then pMost n T (we n T q) else .inl (3, q)) else if wQ n T q 7 = true then (if m < 8 then pAlways n T (we n T q) else .inl (3, q)) else .inl (1, q)
def pClause (n : Nat) (T : Nat → Nat) (m q : Nat) : Flt ⊕ (Cls × Nat) := sb (pHead n T m q) (pE n T)
