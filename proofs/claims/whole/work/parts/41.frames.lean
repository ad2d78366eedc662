/-! ===== what the odds leave alone ===== -/
def FRm (μ μ' : Mem) : Prop := Ok μ' ∧ ∀ a, ¬ (141 ≤ a ∧ a ≤ 144) → mI μ' a = mI μ a
theorem FRm.rf {μ : Mem} (h : Ok μ) : FRm μ μ := ⟨h, fun _ _ => rfl⟩
theorem FRm.tr {μ μ' μ'' : Mem} (h : FRm μ μ') (h2 : FRm μ' μ'') : FRm μ μ'' := ⟨h2.1, fun a q => (h2.2 a q).trans (h.2 a q)⟩
theorem sI_so {a : Nat} {i x : Int32} {μ μ' : Mem} (e : sI a i x μ = some μ') : μ' = wI μ a i.toNatClampNeg x := by
  unfold sI at e
  split at e
  · exact (inj1 e).symm
  · cases e
theorem sJ_so {a : Nat} {i : Int32} {x : Int64} {μ μ' : Mem} (e : sJ a i x μ = some μ') : μ' = wJ μ a i.toNatClampNeg x := by
  unfold sJ at e
  split at e
  · exact (inj1 e).symm
  · cases e
theorem pR_so {c k a x : Nat} {μ μ' : Mem} (e : pR c k a x μ = some μ') : μ' = wR μ a k x := by
  unfold pR at e
  split at e
  · exact (inj1 e).symm
  · cases e
theorem FRm.sI {a : Nat} {i x : Int32} {μ μ' : Mem} (h : Ok μ) (ha : 141 ≤ a ∧ a ≤ 144) (e : sI a i x μ = some μ') : FRm μ μ' := by
  rw [sI_so e]
  exact ⟨h, fun b q => row_ne (fun z => q (z ▸ ha))⟩
theorem FRm.sJ {a : Nat} {i : Int32} {x : Int64} {μ μ' : Mem} (h : Ok μ) (e : sJ a i x μ = some μ') : FRm μ μ' := by
  rw [sJ_so e]
  exact ⟨h, fun b q => rfl⟩
def FR0 (μ μ' : Mem) : Prop := mI μ' = mI μ
theorem FR0.rf {μ : Mem} : FR0 μ μ := rfl
theorem FR0.tr {μ μ' μ'' : Mem} (h : FR0 μ μ') (h2 : FR0 μ' μ'') : FR0 μ μ'' := Eq.trans h2 h
theorem FR0.sJ {a : Nat} {i : Int32} {x : Int64} {μ μ' : Mem} (e : sJ a i x μ = some μ') : FR0 μ μ' := by
  rw [sJ_so e]
  rfl
theorem FR0.pR {c k a x : Nat} {μ μ' : Mem} (e : pR c k a x μ = some μ') : FR0 μ μ' := by
  rw [pR_so e]
  rfl
theorem fr_X11_findRows_L18 (x1 : Int32) (x2 : Int32) (x3 : Int32) : ∀ (n : Nat) (x4 : Int32) (μ : Mem) r, X11_findRows_L18 134 x1 x2 x3 n x4 μ = some r → Ok μ → FRm μ r.2 := by
  intro n
  induction n with
  | zero => intro _ _ _ h; cases h
  | succ n ih =>
    intro x4 μ r h o
    rw [X11_findRows_L18] at h
    have f : FRm μ μ := FRm.rf o
    split at h
    · cases h; exact f
    obtain ⟨v2, e, h⟩ := bindE h
    rw [r_134_6 f.1] at e; cases e
    obtain ⟨v3, e, h⟩ := bindE h
    rw [r_134_2 f.1] at e; cases e
    obtain ⟨v4, e, h⟩ := bindE h
    obtain ⟨g5, e, h⟩ := bindE h
    obtain ⟨v6, e, h⟩ := bindE h
    obtain ⟨μ7, e, h⟩ := bindE h
    replace f := f.tr (FRm.sJ f.1 e)
    obtain ⟨v8, e, h⟩ := bindE h
    rw [r_134_8 f.1] at e; cases e
    obtain ⟨v9, e, h⟩ := bindE h
    rw [r_134_6 f.1] at e; cases e
    obtain ⟨v10, e, h⟩ := bindE h
    obtain ⟨v12, e, h⟩ := bindE h
    obtain ⟨μ13, e, h⟩ := bindE h
    replace f := f.tr (FRm.sI f.1 (by decide) e)
    exact f.tr (ih _ _ _ h f.1)
theorem fr_X11_findRows_L118 (x1 : Int32) (x2 : Int32) (x4 : Int32) (x5 : Int32) : ∀ (n : Nat) (x6 : Int32) (μ : Mem) r, X11_findRows_L118 134 x1 x2 x4 x5 n x6 μ = some r → Ok μ → FRm μ r.2 := by
  intro n
  induction n with
  | zero => intro _ _ _ h; cases h
  | succ n ih =>
    intro x6 μ r h o
    rw [X11_findRows_L118] at h
    have f : FRm μ μ := FRm.rf o
    split at h
    · cases h; exact f
    obtain ⟨v2, e, h⟩ := bindE h
    rw [r_134_0 f.1] at e; cases e
    obtain ⟨v3, e, h⟩ := bindE h
    obtain ⟨g4, e, h⟩ := bindE h
    obtain ⟨v5, e, h⟩ := bindE h
    obtain ⟨v6, e, h⟩ := bindE h
    obtain ⟨v7, e, h⟩ := bindE h
    rw [r_134_7 f.1] at e; cases e
    obtain ⟨v8, e, h⟩ := bindE h
    obtain ⟨v9, e, h⟩ := bindE h
    rw [r_134_6 f.1] at e; cases e
    obtain ⟨v10, e, h⟩ := bindE h
    obtain ⟨μ11, e, h⟩ := bindE h
    replace f := f.tr (FRm.sJ f.1 e)
    obtain ⟨v12, e, h⟩ := bindE h
    rw [r_134_9 f.1] at e; cases e
    obtain ⟨v13, e, h⟩ := bindE h
    obtain ⟨z17, e, h⟩ := bindE h
    obtain ⟨μ18, e, h⟩ := bindE h
    replace f := f.tr (FRm.sI f.1 (by decide) e)
    exact f.tr (ih _ _ _ h f.1)
theorem fr_X11_findRows_L93 (x1 : Int32) (x2 : Int32) (x4 : Int32) : ∀ (n : Nat) (x5 : Int32) (μ : Mem) r, X11_findRows_L93 134 x1 x2 x4 n x5 μ = some r → Ok μ → FRm μ r.2 := by
  intro n
  induction n with
  | zero => intro _ _ _ h; cases h
  | succ n ih =>
    intro x5 μ r h o
    rw [X11_findRows_L93] at h
    have f : FRm μ μ := FRm.rf o
    split at h
    · cases h; exact f
    obtain ⟨v2, e, h⟩ := bindE h
    rw [r_134_7 f.1] at e; cases e
    obtain ⟨μ3, e, h⟩ := bindE h
    replace f := f.tr (FRm.sJ f.1 e)
    obtain ⟨v4, e, h⟩ := bindE h
    rw [r_134_9 f.1] at e; cases e
    obtain ⟨μ5, e, h⟩ := bindE h
    replace f := f.tr (FRm.sI f.1 (by decide) e)
    obtain ⟨z6, e, h⟩ := bindE h
    replace f := f.tr (fr_X11_findRows_L118 _ _ _ _ _ _ _ _ e f.1)
    exact f.tr (ih _ _ _ h f.1)
theorem fr_X11_findRows_L210 (x1 : Int32) (x2 : Int32) (x4 : Int32) : ∀ (n : Nat) (x5 : Int32) (μ : Mem) r, X11_findRows_L210 134 x1 x2 x4 n x5 μ = some r → Ok μ → FRm μ r.2 := by
  intro n
  induction n with
  | zero => intro _ _ _ h; cases h
  | succ n ih =>
    intro x5 μ r h o
    rw [X11_findRows_L210] at h
    have f : FRm μ μ := FRm.rf o
    split at h
    · cases h; exact f
    obtain ⟨v2, e, h⟩ := bindE h
    rw [r_134_6 f.1] at e; cases e
    obtain ⟨v3, e, h⟩ := bindE h
    rw [r_134_7 f.1] at e; cases e
    obtain ⟨v4, e, h⟩ := bindE h
    obtain ⟨μ5, e, h⟩ := bindE h
    replace f := f.tr (FRm.sJ f.1 e)
    obtain ⟨v6, e, h⟩ := bindE h
    rw [r_134_8 f.1] at e; cases e
    obtain ⟨v7, e, h⟩ := bindE h
    rw [r_134_9 f.1] at e; cases e
    obtain ⟨v8, e, h⟩ := bindE h
    obtain ⟨μ9, e, h⟩ := bindE h
    replace f := f.tr (FRm.sI f.1 (by decide) e)
    exact f.tr (ih _ _ _ h f.1)
theorem fr_X11_findRows_L84 (x1 : Int32) (x2 : Int32) : ∀ (n : Nat) (x4 : Int32) (μ : Mem) r, X11_findRows_L84 134 x1 x2 n x4 μ = some r → Ok μ → FRm μ r.2 := by
  intro n
  induction n with
  | zero => intro _ _ _ h; cases h
  | succ n ih =>
    intro x4 μ r h o
    rw [X11_findRows_L84] at h
    have f : FRm μ μ := FRm.rf o
    split at h
    · cases h; exact f
    obtain ⟨z2, e, h⟩ := bindE h
    replace f := f.tr (fr_X11_findRows_L93 _ _ _ _ _ _ _ e f.1)
    obtain ⟨z3, e, h⟩ := bindE h
    replace f := f.tr (fr_X11_findRows_L210 _ _ _ _ _ _ _ e f.1)
    exact f.tr (ih _ _ _ h f.1)
theorem fr_X11_findRows (x1 : Int32) (x2 : Int32) (μ r : Mem) : X11_findRows 134 x1 x2 μ = some r → Ok μ → FRm μ r := by
  intro h o
  unfold X11_findRows at h
  have f : FRm μ μ := FRm.rf o
  obtain ⟨v2, e, h⟩ := bindE h
  obtain ⟨z3, e, h⟩ := bindE h
  replace f := f.tr (fr_X11_findRows_L18 _ _ _ _ _ _ _ e f.1)
  obtain ⟨v4, e, h⟩ := bindE h
  obtain ⟨z5, e, h⟩ := bindE h
  replace f := f.tr (fr_X11_findRows_L84 _ _ _ _ _ _ e f.1)
  cases h; exact f
theorem fr_X11_findOdds_L38 (x3 : Int32) (j4 : Int64) : ∀ (n : Nat) (x6 : Int32) (μ : Mem) r, X11_findOdds_L38 134 x3 j4 n x6 μ = some r → Ok μ → FRm μ r.2 := by
  intro n
  induction n with
  | zero => intro _ _ _ h; cases h
  | succ n ih =>
    intro x6 μ r h o
    rw [X11_findOdds_L38] at h
    have f : FRm μ μ := FRm.rf o
    split at h
    · cases h; exact f
    obtain ⟨v2, e, h⟩ := bindE h
    rw [r_134_10 f.1] at e; cases e
    obtain ⟨z7, e, h⟩ := bindE h
    obtain ⟨μ8, e, h⟩ := bindE h
    replace f := f.tr (FRm.sI f.1 (by decide) e)
    exact f.tr (ih _ _ _ h f.1)
theorem fr_X11_findOdds_L112 (x3 : Int32) (x6 : Int32) (x7 : Int32) : ∀ (n : Nat) (x8 : Int32) (μ : Mem) r, X11_findOdds_L112 134 x3 x6 x7 n x8 μ = some r → Ok μ → FRm μ r.2 := by
  intro n
  induction n with
  | zero => intro _ _ _ h; cases h
  | succ n ih =>
    intro x8 μ r h o
    rw [X11_findOdds_L112] at h
    have f : FRm μ μ := FRm.rf o
    split at h
    · cases h; exact f
    obtain ⟨v2, e, h⟩ := bindE h
    rw [r_134_0 f.1] at e; cases e
    obtain ⟨v3, e, h⟩ := bindE h
    obtain ⟨v4, e, h⟩ := bindE h
    rw [r_134_0 f.1] at e; cases e
    obtain ⟨v5, e, h⟩ := bindE h
    obtain ⟨v6, e, h⟩ := bindE h
    rw [r_134_0 f.1] at e; cases e
    obtain ⟨v7, e, h⟩ := bindE h
    obtain ⟨v8, e, h⟩ := bindE h
    rw [r_134_0 f.1] at e; cases e
    obtain ⟨v9, e, h⟩ := bindE h
    obtain ⟨v10, e, h⟩ := bindE h
    obtain ⟨v11, e, h⟩ := bindE h
    rw [r_134_11 f.1] at e; cases e
    obtain ⟨v12, e, h⟩ := bindE h
    obtain ⟨z19, e, h⟩ := bindE h
    obtain ⟨μ20, e, h⟩ := bindE h
    replace f := f.tr (FRm.sI f.1 (by decide) e)
    exact f.tr (ih _ _ _ h f.1)
theorem fr_X11_findOdds_L95 (x3 : Int32) (x6 : Int32) : ∀ (n : Nat) (x7 : Int32) (μ : Mem) r, X11_findOdds_L95 134 x3 x6 n x7 μ = some r → Ok μ → FRm μ r.2 := by
  intro n
  induction n with
  | zero => intro _ _ _ h; cases h
  | succ n ih =>
    intro x7 μ r h o
    rw [X11_findOdds_L95] at h
    have f : FRm μ μ := FRm.rf o
    split at h
    · cases h; exact f
    obtain ⟨v2, e, h⟩ := bindE h
    rw [r_134_11 f.1] at e; cases e
    obtain ⟨μ3, e, h⟩ := bindE h
    replace f := f.tr (FRm.sI f.1 (by decide) e)
    obtain ⟨z4, e, h⟩ := bindE h
    replace f := f.tr (fr_X11_findOdds_L112 _ _ _ _ _ _ _ e f.1)
    exact f.tr (ih _ _ _ h f.1)
theorem fr_X11_findOdds_L222 (x3 : Int32) (x6 : Int32) : ∀ (n : Nat) (x7 : Int32) (μ : Mem) r, X11_findOdds_L222 134 x3 x6 n x7 μ = some r → Ok μ → FRm μ r.2 := by
  intro n
  induction n with
  | zero => intro _ _ _ h; cases h
  | succ n ih =>
    intro x7 μ r h o
    rw [X11_findOdds_L222] at h
    have f : FRm μ μ := FRm.rf o
    split at h
    · cases h; exact f
    obtain ⟨v2, e, h⟩ := bindE h
    rw [r_134_10 f.1] at e; cases e
    obtain ⟨v3, e, h⟩ := bindE h
    rw [r_134_11 f.1] at e; cases e
    obtain ⟨v4, e, h⟩ := bindE h
    obtain ⟨μ5, e, h⟩ := bindE h
    replace f := f.tr (FRm.sI f.1 (by decide) e)
    exact f.tr (ih _ _ _ h f.1)
theorem fr_X11_findOdds_L86 (x3 : Int32) : ∀ (n : Nat) (x6 : Int32) (μ : Mem) r, X11_findOdds_L86 134 x3 n x6 μ = some r → Ok μ → FRm μ r.2 := by
  intro n
  induction n with
  | zero => intro _ _ _ h; cases h
  | succ n ih =>
    intro x6 μ r h o
    rw [X11_findOdds_L86] at h
    have f : FRm μ μ := FRm.rf o
    split at h
    · cases h; exact f
    obtain ⟨z2, e, h⟩ := bindE h
    replace f := f.tr (fr_X11_findOdds_L95 _ _ _ _ _ _ e f.1)
    obtain ⟨z3, e, h⟩ := bindE h
    replace f := f.tr (fr_X11_findOdds_L222 _ _ _ _ _ _ e f.1)
    exact f.tr (ih _ _ _ h f.1)
theorem fr_X11_findOdds (x1 : Int32) (x2 : Int32) (x3 : Int32) (μ r : Mem) : X11_findOdds 134 x1 x2 x3 μ = some r → Ok μ → FRm μ r := by
  intro h o
  unfold X11_findOdds at h
  have f : FRm μ μ := FRm.rf o
  obtain ⟨g1, e, h⟩ := bindE h
  obtain ⟨μ2, e, h⟩ := bindE h
  replace f := f.tr (fr_X11_findRows _ _ _ _ e f.1)
  obtain ⟨v3, e, h⟩ := bindE h
  rw [r_134_6 f.1] at e; cases e
  obtain ⟨v4, e, h⟩ := bindE h
  obtain ⟨v5, e, h⟩ := bindE h
  rw [r_134_6 f.1] at e; cases e
  obtain ⟨v6, e, h⟩ := bindE h
  obtain ⟨v7, e, h⟩ := bindE h
  rw [r_134_6 f.1] at e; cases e
  obtain ⟨v8, e, h⟩ := bindE h
  obtain ⟨v9, e, h⟩ := bindE h
  rw [r_134_6 f.1] at e; cases e
  obtain ⟨v10, e, h⟩ := bindE h
  obtain ⟨v11, e, h⟩ := bindE h
  obtain ⟨z12, e, h⟩ := bindE h
  replace f := f.tr (fr_X11_findOdds_L38 _ _ _ _ _ _ e f.1)
  obtain ⟨z13, e, h⟩ := bindE h
  replace f := f.tr (fr_X11_findOdds_L86 _ _ _ _ _ e f.1)
  cases h; exact f
theorem fr_X9_weigh_L19 (x1 : Int32) (x2 : Int32) (x3 : Int32) (x4 : Int32) : ∀ (n : Nat) (x5 : Int32) (μ : Mem) r, X9_weigh_L19 1 x1 x2 x3 x4 n x5 μ = some r → FR0 μ r.2 := by
  intro n
  induction n with
  | zero => intro _ _ _ h; cases h
  | succ n ih =>
    intro x5 μ r h
    rw [X9_weigh_L19] at h
    have f : FR0 μ μ := FR0.rf
    split at h
    · cases h; exact f
    obtain ⟨v2, e, h⟩ := bindE h
    obtain ⟨v3, e, h⟩ := bindE h
    obtain ⟨v4, e, h⟩ := bindE h
    obtain ⟨v5, e, h⟩ := bindE h
    obtain ⟨v6, e, h⟩ := bindE h
    obtain ⟨v7, e, h⟩ := bindE h
    obtain ⟨g8, e, h⟩ := bindE h
    obtain ⟨v9, e, h⟩ := bindE h
    obtain ⟨μ10, e, h⟩ := bindE h
    replace f := f.tr (FR0.sJ e)
    exact f.tr (ih _ _ _ h)
theorem fr_X9_weigh_L81 (x1 : Int32) (x2 : Int32) (x3 : Int32) (x5 : Int32) : ∀ (n : Nat) (x6 : Int32) (μ : Mem) r, X9_weigh_L81 1 x1 x2 x3 x5 n x6 μ = some r → FR0 μ r.2 := by
  intro n
  induction n with
  | zero => intro _ _ _ h; cases h
  | succ n ih =>
    intro x6 μ r h
    rw [X9_weigh_L81] at h
    have f : FR0 μ μ := FR0.rf
    split at h
    · cases h; exact f
    obtain ⟨z2, e, h⟩ := bindE h
    obtain ⟨v3, e, h⟩ := bindE h
    obtain ⟨v4, e, h⟩ := bindE h
    obtain ⟨v5, e, h⟩ := bindE h
    obtain ⟨v6, e, h⟩ := bindE h
    obtain ⟨g7, e, h⟩ := bindE h
    obtain ⟨v8, e, h⟩ := bindE h
    obtain ⟨μ9, e, h⟩ := bindE h
    replace f := f.tr (FR0.sJ e)
    exact f.tr (ih _ _ _ h)
theorem fr_X9_weigh_L72 (x1 : Int32) (x2 : Int32) (x3 : Int32) : ∀ (n : Nat) (x5 : Int32) (μ : Mem) r, X9_weigh_L72 1 x1 x2 x3 n x5 μ = some r → FR0 μ r.2 := by
  intro n
  induction n with
  | zero => intro _ _ _ h; cases h
  | succ n ih =>
    intro x5 μ r h
    rw [X9_weigh_L72] at h
    have f : FR0 μ μ := FR0.rf
    split at h
    · cases h; exact f
    obtain ⟨z2, e, h⟩ := bindE h
    replace f := f.tr (fr_X9_weigh_L81 _ _ _ _ _ _ _ _ e)
    obtain ⟨v3, e, h⟩ := bindE h
    obtain ⟨v4, e, h⟩ := bindE h
    obtain ⟨μ5, e, h⟩ := bindE h
    replace f := f.tr (FR0.pR e)
    obtain ⟨μ6, e, h⟩ := bindE h
    replace f := f.tr (FR0.pR e)
    exact f.tr (ih _ _ _ h)
theorem fr_X9_weigh (x1 : Int32) (x2 : Int32) (x3 : Int32) (μ r : Mem) : X9_weigh 1 x1 x2 x3 μ = some r → FR0 μ r := by
  intro h
  unfold X9_weigh at h
  have f : FR0 μ μ := FR0.rf
  obtain ⟨v2, e, h⟩ := bindE h
  obtain ⟨z3, e, h⟩ := bindE h
  replace f := f.tr (fr_X9_weigh_L19 _ _ _ _ _ _ _ _ e)
  obtain ⟨v4, e, h⟩ := bindE h
  obtain ⟨z5, e, h⟩ := bindE h
  replace f := f.tr (fr_X9_weigh_L72 _ _ _ _ _ _ _ e)
  cases h; exact f
theorem look66f {μ : Mem} (h : Ok μ) (R : RelW μ) {p t k : Nat} (hk : k ≤ 8) (h0 : HI μ 19 4 (odd μ p t 0)) (m : Nat) : ∃ μ', (Sm μ μ' ∧ (∀ a, ¬ (19 ≤ a ∧ a ≤ 27) → mI μ' a = mI μ a) ∧ ∀ s, s ≤ k → HI μ' (19 + s) 4 (odd μ p t s)) ∧ X9_lookAhead_L66 1 (nI k) (m + 1 + k) 1 μ = some (nI (k + 1), μ') := by
  have key := loopP (F := fun m (a : Mem) d => X9_lookAhead_L66 1 (nI k) m (nI (d + 1)) a) (P := fun d a => Sm μ a ∧ (∀ c, ¬ (19 ≤ c ∧ c ≤ 27) → mI a c = mI μ c) ∧ ∀ s, s ≤ d → HI a (19 + s) 4 (odd μ p t s)) (n := k) (fun m a d hd P => by
    obtain ⟨s, fr, hh⟩ := P
    have ha := s.1
    have Ra := R.sm s
    obtain ⟨b, ⟨ob, gb⟩, eb⟩ := move_ok (r1 := 19 + d) (r2 := 19 + (d + 1)) ha Ra (by omega) (by omega) (s_ahead (by omega)) (s_ahead (by omega)) (by omega) (cor_ahead (by omega)) (hh d (Nat.le_refl d)) (fun i hi => odd_le hi)
    refine ⟨b, ⟨s.tr (ob.sm (cor_ahead (by omega))), fun c hc => (ob.2.2.2 c (by omega)).trans (fr c hc), fun q hq => ?_⟩, ?_⟩
    · by_cases e : q = d + 1
      · subst e
        intro j hj
        rw [gb j hj]
        have emv := mv_sm s
        have etot : tot a = tot μ := funext fun i => by unfold tot; rw [emv]
        show nI _ = nI (mvS μ (odd μ p t d) 0 j + mvS μ (odd μ p t d) 1 j + mvS μ (odd μ p t d) 2 j + mvS μ (odd μ p t d) 3 j)
        unfold mvS
        rw [emv, etot]
      · exact (hh q (by omega)).oth ob (by omega)
    · show X9_lookAhead_L66 1 (nI k) (m + 1) (nI (d + 1)) a = _
      rw [X9_lookAhead_L66, if_neg (by rw [n_lt (by omega) (by omega)]; omega), if_neg (by rw [show (8 : Int32) = nI 8 from rfl, n_lt (by decide) (by omega)]; omega), r_1_4 ha, Option.bind_some, nI_pred, ar_ahead ha (by omega), Option.bind_some, Option.bind_some, ar_ahead ha (by omega), Option.bind_some, vO_eq (c := 9) (a := 1) ha (by decide) rfl, Option.bind_some, eb, Option.bind_some, nI_add1]) k (m + 1) μ 0 (by omega) ⟨Sm.rf h, fun _ _ => rfl, fun q hq => by
      have : q = 0 := by omega
      subst this
      exact h0⟩
  obtain ⟨μ', P, e⟩ := key
  refine ⟨μ', P, ?_⟩
  refine e.trans ?_
  show X9_lookAhead_L66 1 (nI k) (m + 1) (nI (k + 1)) μ' = _
  rw [X9_lookAhead_L66, if_pos (by rw [n_lt (by omega) (by omega)]; omega)]
theorem look_fr {μ : Mem} (h : Ok μ) (R : RelW μ) {p t k : Nat} (hp : p < 4) (ht : t < 61) (hk : k ≤ 8) : ∃ μ', (Sm μ μ' ∧ (∀ a, ¬ (19 ≤ a ∧ a ≤ 27) → mI μ' a = mI μ a) ∧ ∀ s, s ≤ k → HI μ' (19 + s) 4 (odd μ p t s)) ∧ X9_lookAhead 1 (nI p) (nI t) (nI k) μ = some μ' := by
  obtain ⟨a, ⟨sa, hj⟩, ea⟩ := weigh_ok h R hp ht false
  have ew : allW μ false p t = wgt μ false p t 0 + wgt μ false p t 1 + wgt μ false p t 2 + wgt μ false p t 3 := rfl
  obtain ⟨b, ⟨ob, gb⟩, eb⟩ := look16 sa.1 hj (fun i hi => wgt_le R hp ht hi) (nI k) 99995
  have sb := sa.tr (ob.sm (cor_ahead (s := 0) (by decide)))
  obtain ⟨d, ⟨sd, fd, gd⟩, ed⟩ := look66f sb.1 (R.sm sb) (p := p) (t := t) hk (by
    intro i hi
    rw [gb i hi, odd_sm sb]
    rfl) (99999 - k)
  have fa : mI a = mI μ := fr_X9_weigh _ _ _ _ _ ea
  refine ⟨d, ⟨sb.tr sd, fun c hc => (fd c hc).trans ((ob.2.2.2 c (by omega)).trans (by rw [fa])), fun s hs i hi => ?_⟩, ?_⟩
  · rw [gd s hs i hi, odd_sm sb]
  · rw [show 99995 + 1 + 4 = FU from rfl] at eb
    rw [show 99999 - k + 1 + k = FU by unfold FU; omega] at ed
    unfold X9_lookAhead
    rw [show (0 : Int32) = cI false from rfl, vO_eq (c := 9) (a := 1) h (by decide) rfl, Option.bind_some, ea, Option.bind_some, vO_eq (c := 9) (a := 1) sa.1 (by decide) rfl, Option.bind_some, allW_eq sa.1 hj, Option.bind_some, show cI false = (0 : Int32) from rfl, eb, Option.bind_some, ed, Option.bind_some]
theorem modds_fr {μ : Mem} {p t : Nat} (h : Ok μ) (R : RelW μ) {k : Nat} (hp : p < 4) (ht : t < 61) (hk : k ≤ 8) : ∃ μ', (Sm μ μ' ∧ (∀ a, ¬ (141 ≤ a ∧ a ≤ 144) → mI μ' a = mI μ a) ∧ HI μ' 143 4 (odd μ p t k)) ∧ X11_findOdds 134 (nI p) (nI t) (nI k) μ = some μ' := by
  obtain ⟨a, ⟨sa, ha⟩, ea⟩ := modds_ok h R hp ht hk
  exact ⟨a, ⟨sa, (fr_X11_findOdds _ _ _ _ _ ea h).2, ha⟩, ea⟩
