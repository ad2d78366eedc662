/-! ===== the two constructors, from the empty memory: what they leave alone ===== -/
def mE : Mem := (0, fun _ => (9, 0), fun _ _ => 0, fun _ _ => 0, fun _ _ => none)
def quiet (s : Nat × Nat) : Bool := s.1 == 1 || s.1 == 2 || s.1 == 3 || s.1 == 9 || (s.1 == 0 && (s.2 == 1 || s.2 == 5 || s.2 == 6))
/-- no shape and no reference past the end; references low, and in cells of few shapes -/
def FrI (μ : Mem) : Prop := (∀ a, mN μ ≤ a → mS μ a = (9, 0)) ∧ ∀ a k, mN μ ≤ a ∨ 64 ≤ k ∨ quiet (mS μ a) = true → mR μ a k = none
theorem FrI.new {μ : Mem} (f : FrI μ) (s : Nat × Nat) : FrI (mNew μ s) := by
  have e1 : mN (mNew μ s) = mN μ + 1 := rfl
  have e2 : ∀ a, mS (mNew μ s) a = if a = mN μ then s else mS μ a := fun a => rfl
  have e3 : ∀ a, mR (mNew μ s) a = if a = mN μ then fun _ => none else mR μ a := fun a => rfl
  refine ⟨fun a h => ?_, fun a k h => ?_⟩
  · rw [e1] at h
    rw [e2, if_neg (by omega)]
    exact f.1 a (by omega)
  · rw [e3]
    by_cases z : a = mN μ
    · rw [if_pos z]
    · rw [if_neg z]
      rw [e1, e2, if_neg z] at h
      exact f.2 a k (h.imp (fun w => by omega) id)
theorem FrI.grid {μ : Mem} (f : FrI μ) {N K : Nat} (hN : N ≤ 64) : FrI (mGrid μ N K) := by
  have e1 : mN (mGrid μ N K) = mN μ + 1 + N := rfl
  have e2 : ∀ a, mS (mGrid μ N K) a = if a = mN μ then (7, N) else if mN μ < a ∧ a ≤ mN μ + N then (1, K) else mS μ a := fun a => rfl
  have e3 : ∀ a, mR (mGrid μ N K) a = if a = mN μ then (fun j => if j < N then some (mN μ + 1 + j) else none) else if mN μ < a ∧ a ≤ mN μ + N then fun _ => none else mR μ a := fun a => rfl
  refine ⟨fun a h => ?_, fun a k h => ?_⟩
  · rw [e1] at h
    rw [e2, if_neg (by omega), if_neg (by omega)]
    exact f.1 a (by omega)
  · rw [e3]
    by_cases z : a = mN μ
    · rw [if_pos z]
      rw [e1, e2, if_pos z] at h
      rcases h with h | h | h
      · omega
      · exact if_neg (by omega)
      · rw [show quiet (7, N) = false from rfl] at h
        cases h
    · rw [if_neg z]
      rw [e1, e2, if_neg z] at h
      by_cases z2 : mN μ < a ∧ a ≤ mN μ + N
      · rw [if_pos z2]
      · rw [if_neg z2]
        rw [if_neg z2] at h
        exact f.2 a k (h.imp (fun w => by omega) id)
theorem FrI.wR {μ : Mem} (f : FrI μ) {a k x : Nat} (ha : a < mN μ) (hk : k < 64) (hq : quiet (mS μ a) = false) : FrI (wR μ a k x) := by
  refine ⟨f.1, fun b j h => ?_⟩
  rw [mR_wR, if_neg (fun z => ?_)]
  · exact f.2 b j h
  · obtain ⟨rfl, rfl⟩ := z
    have h : mN μ ≤ b ∨ 64 ≤ j ∨ quiet (mS μ b) = true := h
    rcases h with h | h | h
    · omega
    · omega
    · rw [hq] at h
      cases h
theorem ifS {α : Type} {c : Prop} [Decidable c] {a b : α} (h : (if c then some a else none) = some b) : c ∧ a = b := by
  by_cases z : c
  · rw [if_pos z] at h
    exact ⟨z, inj1 h⟩
  · rw [if_neg z] at h
    cases h
theorem fr_nO {c b : Nat} {μ μ' : Mem} (h : nO c b μ = some μ') (f : FrI μ) : FrI μ' := by
  obtain ⟨-, rfl⟩ := ifS h
  exact f.new _
theorem fr_nA {kd b : Nat} {n : Int32} {μ μ' : Mem} (h : nA kd b n μ = some μ') (f : FrI μ) : FrI μ' := by
  obtain ⟨-, rfl⟩ := ifS h
  exact f.new _
theorem fr_nM {b : Nat} {n k : Int32} {μ μ' : Mem} (hn : n.toNatClampNeg ≤ 64) (h : nM b n k μ = some μ') (f : FrI μ) : FrI μ' := by
  obtain ⟨-, rfl⟩ := ifS h
  exact f.grid hn
theorem fr_pR {c k a x : Nat} {μ μ' : Mem} (hc : quiet (0, c) = false) (hk : k < 64) (h : pR c k a x μ = some μ') (f : FrI μ) : FrI μ' := by
  obtain ⟨⟨z1, z2⟩, rfl⟩ := ifS h
  exact f.wR z1 hk (by rw [z2]; exact hc)
theorem fr_sR {kd c a b : Nat} {i : Int32} {μ μ' : Mem} (hk : 4 ≤ kd ∧ kd ≤ 7) (hi : i.toNatClampNeg < 64) (h : sR kd c a i b μ = some μ') (f : FrI μ) : FrI μ' := by
  obtain ⟨⟨⟨z1, z2, -⟩, -⟩, rfl⟩ := ifS h
  refine f.wR z1 hi ?_
  unfold quiet
  rw [z2]
  obtain ⟨h1, h2⟩ := hk
  rcases (show kd = 4 ∨ kd = 5 ∨ kd = 6 ∨ kd = 7 by omega) with rfl | rfl | rfl | rfl <;> rfl
theorem fr_pI {c k a : Nat} {x : Int32} {μ μ' : Mem} (h : pI c k a x μ = some μ') (f : FrI μ) : FrI μ' := by
  obtain ⟨-, rfl⟩ := ifS h
  exact f
theorem fr_sI {a : Nat} {i x : Int32} {μ μ' : Mem} (h : sI a i x μ = some μ') (f : FrI μ) : FrI μ' := by
  obtain ⟨-, rfl⟩ := ifS h
  exact f
theorem fr_X8_init_L38 {a0 : Nat} {x1 : Int32} : ∀ n x μ z, X8_init_L38 a0 x1 n x μ = some z → FrI μ → FrI z.2
  | 0, x, μ, z, h, f => by rw [X8_init_L38] at h; cases h
  | n + 1, x, μ, z, h, f => by
    rw [X8_init_L38] at h
    by_cases c : (4 : Int32) ≤ x
    · rw [if_pos c] at h
      rw [← inj1 h]
      exact f
    · rw [if_neg c] at h
      obtain ⟨_, -, h⟩ := bindE h
      obtain ⟨_, -, h⟩ := bindE h
      obtain ⟨_, q, h⟩ := bindE h
      exact fr_X8_init_L38 n _ _ z h (fr_sI q f)
theorem fr_X8_init_L23 {a0 : Nat} : ∀ n x μ z, X8_init_L23 a0 n x μ = some z → FrI μ → FrI z.2
  | 0, x, μ, z, h, f => by rw [X8_init_L23] at h; cases h
  | n + 1, x, μ, z, h, f => by
    rw [X8_init_L23] at h
    by_cases c : (4 : Int32) ≤ x
    · rw [if_pos c] at h
      rw [← inj1 h]
      exact f
    · rw [if_neg c] at h
      obtain ⟨_, -, h⟩ := bindE h
      obtain ⟨_, q, h⟩ := bindE h
      obtain ⟨_, q2, h⟩ := bindE h
      exact fr_X8_init_L23 n _ _ z h (fr_X8_init_L38 _ _ _ _ q2 (fr_sI q f))
theorem fr_X9_init_L83 {a0 : Nat} {x1 : Int32} : ∀ n x μ z, X9_init_L83 a0 x1 n x μ = some z → FrI μ → FrI z.2
  | 0, x, μ, z, h, f => by rw [X9_init_L83] at h; cases h
  | n + 1, x, μ, z, h, f => by
    rw [X9_init_L83] at h
    by_cases c : (4 : Int32) ≤ x
    · rw [if_pos c] at h
      rw [← inj1 h]
      exact f
    · rw [if_neg c] at h
      obtain ⟨_, -, h⟩ := bindE h
      obtain ⟨_, -, h⟩ := bindE h
      obtain ⟨_, q, h⟩ := bindE h
      exact fr_X9_init_L83 n _ _ z h (fr_sI q f)
theorem fr_X9_init_L105 {a0 : Nat} {x1 : Int32} : ∀ n x μ z, X9_init_L105 a0 x1 n x μ = some z → FrI μ → FrI z.2
  | 0, x, μ, z, h, f => by rw [X9_init_L105] at h; cases h
  | n + 1, x, μ, z, h, f => by
    rw [X9_init_L105] at h
    by_cases c : (4 : Int32) ≤ x
    · rw [if_pos c] at h
      rw [← inj1 h]
      exact f
    · rw [if_neg c] at h
      obtain ⟨_, -, h⟩ := bindE h
      obtain ⟨_, -, h⟩ := bindE h
      obtain ⟨_, q, h⟩ := bindE h
      exact fr_X9_init_L105 n _ _ z h (fr_sI q f)
theorem fr_X9_init_L69 {a0 : Nat} : ∀ n x μ z, X9_init_L69 a0 n x μ = some z → FrI μ → FrI z.2
  | 0, x, μ, z, h, f => by rw [X9_init_L69] at h; cases h
  | n + 1, x, μ, z, h, f => by
    rw [X9_init_L69] at h
    by_cases c : (4 : Int32) ≤ x
    · rw [if_pos c] at h
      rw [← inj1 h]
      exact f
    · rw [if_neg c] at h
      obtain ⟨_, -, h⟩ := bindE h
      obtain ⟨_, q, h⟩ := bindE h
      obtain ⟨_, q2, h⟩ := bindE h
      obtain ⟨_, q3, h⟩ := bindE h
      exact fr_X9_init_L69 n _ _ z h (fr_X9_init_L105 _ _ _ _ q3 (fr_X9_init_L83 _ _ _ _ q2 (fr_sI q f)))
theorem fr_X9_init_L140 {a0 : Nat} {x1 : Int32} : ∀ n x μ z, X9_init_L140 a0 x1 n x μ = some z → FrI μ → FrI z.2
  | 0, x, μ, z, h, f => by rw [X9_init_L140] at h; cases h
  | n + 1, x, μ, z, h, f => by
    rw [X9_init_L140] at h
    by_cases c : (60 : Int32) < x
    · rw [if_pos c] at h
      rw [← inj1 h]
      exact f
    · rw [if_neg c] at h
      obtain ⟨_, -, h⟩ := bindE h
      obtain ⟨_, -, h⟩ := bindE h
      obtain ⟨_, q, h⟩ := bindE h
      exact fr_X9_init_L140 n _ _ z h (fr_sI q f)
theorem fr_X9_init_L133 {a0 : Nat} : ∀ n x μ z, X9_init_L133 a0 n x μ = some z → FrI μ → FrI z.2
  | 0, x, μ, z, h, f => by rw [X9_init_L133] at h; cases h
  | n + 1, x, μ, z, h, f => by
    rw [X9_init_L133] at h
    by_cases c : (4 : Int32) ≤ x
    · rw [if_pos c] at h
      rw [← inj1 h]
      exact f
    · rw [if_neg c] at h
      obtain ⟨_, q, h⟩ := bindE h
      exact fr_X9_init_L133 n _ _ z h (fr_X9_init_L140 _ _ _ _ q f)
theorem fr_X11_init_L327 {a0 : Nat} : ∀ n x μ z, X11_init_L327 a0 n x μ = some z → FrI μ → FrI z.2
  | 0, x, μ, z, h, f => by rw [X11_init_L327] at h; cases h
  | n + 1, x, μ, z, h, f => by
    rw [X11_init_L327] at h
    by_cases c : (16 : Int32) ≤ x
    · rw [if_pos c] at h
      rw [← inj1 h]
      exact f
    · rw [if_neg c] at h
      obtain ⟨_, -, h⟩ := bindE h
      obtain ⟨_, q, h⟩ := bindE h
      obtain ⟨_, -, h⟩ := bindE h
      obtain ⟨_, q2, h⟩ := bindE h
      obtain ⟨_, -, h⟩ := bindE h
      obtain ⟨_, q3, h⟩ := bindE h
      exact fr_X11_init_L327 n _ _ z h (fr_sI q3 (fr_sI q2 (fr_sI q f)))
theorem fr_X11_init_L363 {a0 : Nat} : ∀ n x μ z, X11_init_L363 a0 n x μ = some z → FrI μ → FrI z.2
  | 0, x, μ, z, h, f => by rw [X11_init_L363] at h; cases h
  | n + 1, x, μ, z, h, f => by
    rw [X11_init_L363] at h
    by_cases c : (4 : Int32) ≤ x
    · rw [if_pos c] at h
      rw [← inj1 h]
      exact f
    · rw [if_neg c] at h
      obtain ⟨_, -, h⟩ := bindE h
      obtain ⟨_, q, h⟩ := bindE h
      obtain ⟨_, -, h⟩ := bindE h
      obtain ⟨_, q2, h⟩ := bindE h
      exact fr_X11_init_L363 n _ _ z h (fr_sI q2 (fr_sI q f))
theorem fr_X11_init_L391 {a0 : Nat} : ∀ n x μ z, X11_init_L391 a0 n x μ = some z → FrI μ → FrI z.2
  | 0, x, μ, z, h, f => by rw [X11_init_L391] at h; cases h
  | n + 1, x, μ, z, h, f => by
    rw [X11_init_L391] at h
    by_cases c : (244 : Int32) ≤ x
    · rw [if_pos c] at h
      rw [← inj1 h]
      exact f
    · rw [if_neg c] at h
      obtain ⟨_, -, h⟩ := bindE h
      obtain ⟨_, q, h⟩ := bindE h
      exact fr_X11_init_L391 n _ _ z h (fr_sI q f)
set_option maxRecDepth 100000 in
theorem fr_X9_init {a0 : Nat} {μ μz : Mem} (h : X9_init a0 μ = some μz) (f : FrI μ) : FrI μz := by
  unfold X9_init at h
  obtain ⟨μ1, q, h⟩ := bindE h
  have f := fr_nM (by decide) q f
  obtain ⟨μ2, q, h⟩ := bindE h
  have f := fr_pR rfl (by decide) q f
  obtain ⟨μ3, q, h⟩ := bindE h
  have f := fr_nM (by decide) q f
  obtain ⟨μ4, q, h⟩ := bindE h
  have f := fr_pR rfl (by decide) q f
  obtain ⟨μ5, q, h⟩ := bindE h
  have f := fr_nA q f
  obtain ⟨μ6, q, h⟩ := bindE h
  have f := fr_pR rfl (by decide) q f
  obtain ⟨μ7, q, h⟩ := bindE h
  have f := fr_nM (by decide) q f
  obtain ⟨μ8, q, h⟩ := bindE h
  have f := fr_pR rfl (by decide) q f
  obtain ⟨μ9, q, h⟩ := bindE h
  have f := fr_nM (by decide) q f
  obtain ⟨μ10, q, h⟩ := bindE h
  have f := fr_pR rfl (by decide) q f
  obtain ⟨μ11, q, h⟩ := bindE h
  have f := fr_nA q f
  obtain ⟨μ12, q, h⟩ := bindE h
  have f := fr_pR rfl (by decide) q f
  obtain ⟨μ13, q, h⟩ := bindE h
  have f := fr_nA q f
  obtain ⟨μ14, q, h⟩ := bindE h
  have f := fr_pR rfl (by decide) q f
  obtain ⟨z15, q, h⟩ := bindE h
  have f : FrI z15.2 := fr_X9_init_L69 _ _ _ _ q f
  obtain ⟨z16, q, h⟩ := bindE h
  have f : FrI z16.2 := fr_X9_init_L133 _ _ _ _ q f
  rw [← inj1 h]
  exact f
set_option maxRecDepth 100000 in
theorem fr_X8_init {a0 : Nat} {μ μz : Mem} (h : X8_init a0 μ = some μz) (f : FrI μ) : FrI μz := by
  unfold X8_init at h
  obtain ⟨μ1, q, h⟩ := bindE h
  have f := fr_nM (by decide) q f
  obtain ⟨μ2, q, h⟩ := bindE h
  have f := fr_pR rfl (by decide) q f
  obtain ⟨μ3, q, h⟩ := bindE h
  have f := fr_nA q f
  obtain ⟨μ4, q, h⟩ := bindE h
  have f := fr_pR rfl (by decide) q f
  obtain ⟨z5, q, h⟩ := bindE h
  have f : FrI z5.2 := fr_X8_init_L23 _ _ _ _ q f
  rw [← inj1 h]
  exact f
set_option maxRecDepth 100000 in
theorem fr_X6_init {a0 : Nat} {μ μz : Mem} (h : X6_init a0 μ = some μz) (f : FrI μ) : FrI μz := by
  unfold X6_init at h
  rw [← inj1 h]
  exact f
set_option maxRecDepth 100000 in
theorem fr_X5_init {a0 : Nat} {μ μz : Mem} (h : X5_init a0 μ = some μz) (f : FrI μ) : FrI μz := by
  unfold X5_init at h
  rw [← inj1 h]
  exact f
set_option maxRecDepth 100000 in
theorem fr_X0_init {a0 : Nat} {μ μz : Mem} (h : X0_init a0 μ = some μz) (f : FrI μ) : FrI μz := by
  unfold X0_init at h
  obtain ⟨μ1, q, h⟩ := bindE h
  have f := fr_nA q f
  obtain ⟨μ2, q, h⟩ := bindE h
  have f := fr_pR rfl (by decide) q f
  obtain ⟨μ3, q, h⟩ := bindE h
  have f := fr_nA q f
  obtain ⟨μ4, q, h⟩ := bindE h
  have f := fr_pR rfl (by decide) q f
  obtain ⟨v5, q, h⟩ := bindE h
  obtain ⟨μ6, q, h⟩ := bindE h
  have f := fr_nO q f
  obtain ⟨g7, q, h⟩ := bindE h
  obtain ⟨μ8, q, h⟩ := bindE h
  have f := fr_X6_init q f
  obtain ⟨μ9, q, h⟩ := bindE h
  have f := fr_sR (by decide) (by decide) q f
  obtain ⟨v10, q, h⟩ := bindE h
  obtain ⟨μ11, q, h⟩ := bindE h
  have f := fr_nO q f
  obtain ⟨g12, q, h⟩ := bindE h
  obtain ⟨μ13, q, h⟩ := bindE h
  have f := fr_X6_init q f
  obtain ⟨μ14, q, h⟩ := bindE h
  have f := fr_sR (by decide) (by decide) q f
  obtain ⟨v15, q, h⟩ := bindE h
  obtain ⟨μ16, q, h⟩ := bindE h
  have f := fr_nO q f
  obtain ⟨g17, q, h⟩ := bindE h
  obtain ⟨μ18, q, h⟩ := bindE h
  have f := fr_X6_init q f
  obtain ⟨μ19, q, h⟩ := bindE h
  have f := fr_sR (by decide) (by decide) q f
  obtain ⟨v20, q, h⟩ := bindE h
  obtain ⟨μ21, q, h⟩ := bindE h
  have f := fr_nO q f
  obtain ⟨g22, q, h⟩ := bindE h
  obtain ⟨μ23, q, h⟩ := bindE h
  have f := fr_X6_init q f
  obtain ⟨μ24, q, h⟩ := bindE h
  have f := fr_sR (by decide) (by decide) q f
  obtain ⟨v25, q, h⟩ := bindE h
  obtain ⟨μ26, q, h⟩ := bindE h
  have f := fr_nO q f
  obtain ⟨g27, q, h⟩ := bindE h
  obtain ⟨μ28, q, h⟩ := bindE h
  have f := fr_X6_init q f
  obtain ⟨μ29, q, h⟩ := bindE h
  have f := fr_sR (by decide) (by decide) q f
  obtain ⟨v30, q, h⟩ := bindE h
  obtain ⟨μ31, q, h⟩ := bindE h
  have f := fr_nO q f
  obtain ⟨g32, q, h⟩ := bindE h
  obtain ⟨μ33, q, h⟩ := bindE h
  have f := fr_X6_init q f
  obtain ⟨μ34, q, h⟩ := bindE h
  have f := fr_sR (by decide) (by decide) q f
  obtain ⟨v35, q, h⟩ := bindE h
  obtain ⟨μ36, q, h⟩ := bindE h
  have f := fr_nO q f
  obtain ⟨g37, q, h⟩ := bindE h
  obtain ⟨μ38, q, h⟩ := bindE h
  have f := fr_X6_init q f
  obtain ⟨μ39, q, h⟩ := bindE h
  have f := fr_sR (by decide) (by decide) q f
  obtain ⟨v40, q, h⟩ := bindE h
  obtain ⟨μ41, q, h⟩ := bindE h
  have f := fr_nO q f
  obtain ⟨g42, q, h⟩ := bindE h
  obtain ⟨μ43, q, h⟩ := bindE h
  have f := fr_X6_init q f
  obtain ⟨μ44, q, h⟩ := bindE h
  have f := fr_sR (by decide) (by decide) q f
  obtain ⟨v45, q, h⟩ := bindE h
  obtain ⟨μ46, q, h⟩ := bindE h
  have f := fr_nO q f
  obtain ⟨g47, q, h⟩ := bindE h
  obtain ⟨μ48, q, h⟩ := bindE h
  have f := fr_X6_init q f
  obtain ⟨μ49, q, h⟩ := bindE h
  have f := fr_sR (by decide) (by decide) q f
  obtain ⟨v50, q, h⟩ := bindE h
  obtain ⟨μ51, q, h⟩ := bindE h
  have f := fr_nO q f
  obtain ⟨g52, q, h⟩ := bindE h
  obtain ⟨μ53, q, h⟩ := bindE h
  have f := fr_X6_init q f
  obtain ⟨μ54, q, h⟩ := bindE h
  have f := fr_sR (by decide) (by decide) q f
  obtain ⟨v55, q, h⟩ := bindE h
  obtain ⟨μ56, q, h⟩ := bindE h
  have f := fr_nO q f
  obtain ⟨g57, q, h⟩ := bindE h
  obtain ⟨μ58, q, h⟩ := bindE h
  have f := fr_X5_init q f
  obtain ⟨μ59, q, h⟩ := bindE h
  have f := fr_sR (by decide) (by decide) q f
  obtain ⟨v60, q, h⟩ := bindE h
  obtain ⟨μ61, q, h⟩ := bindE h
  have f := fr_nO q f
  obtain ⟨g62, q, h⟩ := bindE h
  obtain ⟨μ63, q, h⟩ := bindE h
  have f := fr_X5_init q f
  obtain ⟨μ64, q, h⟩ := bindE h
  have f := fr_sR (by decide) (by decide) q f
  obtain ⟨v65, q, h⟩ := bindE h
  obtain ⟨μ66, q, h⟩ := bindE h
  have f := fr_nO q f
  obtain ⟨g67, q, h⟩ := bindE h
  obtain ⟨μ68, q, h⟩ := bindE h
  have f := fr_X5_init q f
  obtain ⟨μ69, q, h⟩ := bindE h
  have f := fr_sR (by decide) (by decide) q f
  obtain ⟨v70, q, h⟩ := bindE h
  obtain ⟨μ71, q, h⟩ := bindE h
  have f := fr_nO q f
  obtain ⟨g72, q, h⟩ := bindE h
  obtain ⟨μ73, q, h⟩ := bindE h
  have f := fr_X5_init q f
  obtain ⟨μ74, q, h⟩ := bindE h
  have f := fr_sR (by decide) (by decide) q f
  obtain ⟨v75, q, h⟩ := bindE h
  obtain ⟨μ76, q, h⟩ := bindE h
  have f := fr_nO q f
  obtain ⟨g77, q, h⟩ := bindE h
  obtain ⟨μ78, q, h⟩ := bindE h
  have f := fr_X5_init q f
  obtain ⟨μ79, q, h⟩ := bindE h
  have f := fr_sR (by decide) (by decide) q f
  obtain ⟨v80, q, h⟩ := bindE h
  obtain ⟨μ81, q, h⟩ := bindE h
  have f := fr_nO q f
  obtain ⟨g82, q, h⟩ := bindE h
  obtain ⟨μ83, q, h⟩ := bindE h
  have f := fr_X5_init q f
  obtain ⟨μ84, q, h⟩ := bindE h
  have f := fr_sR (by decide) (by decide) q f
  obtain ⟨v85, q, h⟩ := bindE h
  obtain ⟨μ86, q, h⟩ := bindE h
  have f := fr_nO q f
  obtain ⟨g87, q, h⟩ := bindE h
  obtain ⟨μ88, q, h⟩ := bindE h
  have f := fr_X5_init q f
  obtain ⟨μ89, q, h⟩ := bindE h
  have f := fr_sR (by decide) (by decide) q f
  obtain ⟨v90, q, h⟩ := bindE h
  obtain ⟨μ91, q, h⟩ := bindE h
  have f := fr_nO q f
  obtain ⟨g92, q, h⟩ := bindE h
  obtain ⟨μ93, q, h⟩ := bindE h
  have f := fr_X5_init q f
  obtain ⟨μ94, q, h⟩ := bindE h
  have f := fr_sR (by decide) (by decide) q f
  obtain ⟨v95, q, h⟩ := bindE h
  obtain ⟨μ96, q, h⟩ := bindE h
  have f := fr_nO q f
  obtain ⟨g97, q, h⟩ := bindE h
  obtain ⟨μ98, q, h⟩ := bindE h
  have f := fr_X5_init q f
  obtain ⟨μ99, q, h⟩ := bindE h
  have f := fr_sR (by decide) (by decide) q f
  obtain ⟨v100, q, h⟩ := bindE h
  obtain ⟨μ101, q, h⟩ := bindE h
  have f := fr_nO q f
  obtain ⟨g102, q, h⟩ := bindE h
  obtain ⟨μ103, q, h⟩ := bindE h
  have f := fr_X5_init q f
  obtain ⟨μ104, q, h⟩ := bindE h
  have f := fr_sR (by decide) (by decide) q f
  obtain ⟨v105, q, h⟩ := bindE h
  obtain ⟨μ106, q, h⟩ := bindE h
  have f := fr_nO q f
  obtain ⟨g107, q, h⟩ := bindE h
  obtain ⟨μ108, q, h⟩ := bindE h
  have f := fr_X5_init q f
  obtain ⟨μ109, q, h⟩ := bindE h
  have f := fr_sR (by decide) (by decide) q f
  obtain ⟨v110, q, h⟩ := bindE h
  obtain ⟨μ111, q, h⟩ := bindE h
  have f := fr_nO q f
  obtain ⟨g112, q, h⟩ := bindE h
  obtain ⟨μ113, q, h⟩ := bindE h
  have f := fr_X5_init q f
  obtain ⟨μ114, q, h⟩ := bindE h
  have f := fr_sR (by decide) (by decide) q f
  obtain ⟨v115, q, h⟩ := bindE h
  obtain ⟨μ116, q, h⟩ := bindE h
  have f := fr_nO q f
  obtain ⟨g117, q, h⟩ := bindE h
  obtain ⟨μ118, q, h⟩ := bindE h
  have f := fr_X5_init q f
  obtain ⟨μ119, q, h⟩ := bindE h
  have f := fr_sR (by decide) (by decide) q f
  obtain ⟨v120, q, h⟩ := bindE h
  obtain ⟨μ121, q, h⟩ := bindE h
  have f := fr_nO q f
  obtain ⟨g122, q, h⟩ := bindE h
  obtain ⟨μ123, q, h⟩ := bindE h
  have f := fr_X5_init q f
  obtain ⟨μ124, q, h⟩ := bindE h
  have f := fr_sR (by decide) (by decide) q f
  obtain ⟨v125, q, h⟩ := bindE h
  obtain ⟨μ126, q, h⟩ := bindE h
  have f := fr_nO q f
  obtain ⟨g127, q, h⟩ := bindE h
  obtain ⟨μ128, q, h⟩ := bindE h
  have f := fr_X5_init q f
  obtain ⟨μ129, q, h⟩ := bindE h
  have f := fr_sR (by decide) (by decide) q f
  obtain ⟨v130, q, h⟩ := bindE h
  obtain ⟨μ131, q, h⟩ := bindE h
  have f := fr_nO q f
  obtain ⟨g132, q, h⟩ := bindE h
  obtain ⟨μ133, q, h⟩ := bindE h
  have f := fr_X5_init q f
  obtain ⟨μ134, q, h⟩ := bindE h
  have f := fr_sR (by decide) (by decide) q f
  obtain ⟨v135, q, h⟩ := bindE h
  obtain ⟨μ136, q, h⟩ := bindE h
  have f := fr_nO q f
  obtain ⟨g137, q, h⟩ := bindE h
  obtain ⟨μ138, q, h⟩ := bindE h
  have f := fr_X5_init q f
  obtain ⟨μ139, q, h⟩ := bindE h
  have f := fr_sR (by decide) (by decide) q f
  obtain ⟨v140, q, h⟩ := bindE h
  obtain ⟨μ141, q, h⟩ := bindE h
  have f := fr_nO q f
  obtain ⟨g142, q, h⟩ := bindE h
  obtain ⟨μ143, q, h⟩ := bindE h
  have f := fr_X5_init q f
  obtain ⟨μ144, q, h⟩ := bindE h
  have f := fr_sR (by decide) (by decide) q f
  obtain ⟨v145, q, h⟩ := bindE h
  obtain ⟨μ146, q, h⟩ := bindE h
  have f := fr_nO q f
  obtain ⟨g147, q, h⟩ := bindE h
  obtain ⟨μ148, q, h⟩ := bindE h
  have f := fr_X5_init q f
  obtain ⟨μ149, q, h⟩ := bindE h
  have f := fr_sR (by decide) (by decide) q f
  obtain ⟨v150, q, h⟩ := bindE h
  obtain ⟨μ151, q, h⟩ := bindE h
  have f := fr_nO q f
  obtain ⟨g152, q, h⟩ := bindE h
  obtain ⟨μ153, q, h⟩ := bindE h
  have f := fr_X5_init q f
  obtain ⟨μ154, q, h⟩ := bindE h
  have f := fr_sR (by decide) (by decide) q f
  obtain ⟨v155, q, h⟩ := bindE h
  obtain ⟨μ156, q, h⟩ := bindE h
  have f := fr_nO q f
  obtain ⟨g157, q, h⟩ := bindE h
  obtain ⟨μ158, q, h⟩ := bindE h
  have f := fr_X5_init q f
  obtain ⟨μ159, q, h⟩ := bindE h
  have f := fr_sR (by decide) (by decide) q f
  obtain ⟨v160, q, h⟩ := bindE h
  obtain ⟨μ161, q, h⟩ := bindE h
  have f := fr_nO q f
  obtain ⟨g162, q, h⟩ := bindE h
  obtain ⟨μ163, q, h⟩ := bindE h
  have f := fr_X5_init q f
  obtain ⟨μ164, q, h⟩ := bindE h
  have f := fr_sR (by decide) (by decide) q f
  obtain ⟨v165, q, h⟩ := bindE h
  obtain ⟨μ166, q, h⟩ := bindE h
  have f := fr_nO q f
  obtain ⟨g167, q, h⟩ := bindE h
  obtain ⟨μ168, q, h⟩ := bindE h
  have f := fr_X5_init q f
  obtain ⟨μ169, q, h⟩ := bindE h
  have f := fr_sR (by decide) (by decide) q f
  obtain ⟨v170, q, h⟩ := bindE h
  obtain ⟨μ171, q, h⟩ := bindE h
  have f := fr_nO q f
  obtain ⟨g172, q, h⟩ := bindE h
  obtain ⟨μ173, q, h⟩ := bindE h
  have f := fr_X5_init q f
  obtain ⟨μ174, q, h⟩ := bindE h
  have f := fr_sR (by decide) (by decide) q f
  obtain ⟨v175, q, h⟩ := bindE h
  obtain ⟨μ176, q, h⟩ := bindE h
  have f := fr_nO q f
  obtain ⟨g177, q, h⟩ := bindE h
  obtain ⟨μ178, q, h⟩ := bindE h
  have f := fr_X5_init q f
  obtain ⟨μ179, q, h⟩ := bindE h
  have f := fr_sR (by decide) (by decide) q f
  obtain ⟨v180, q, h⟩ := bindE h
  obtain ⟨μ181, q, h⟩ := bindE h
  have f := fr_nO q f
  obtain ⟨g182, q, h⟩ := bindE h
  obtain ⟨μ183, q, h⟩ := bindE h
  have f := fr_X5_init q f
  obtain ⟨μ184, q, h⟩ := bindE h
  have f := fr_sR (by decide) (by decide) q f
  obtain ⟨v185, q, h⟩ := bindE h
  obtain ⟨μ186, q, h⟩ := bindE h
  have f := fr_nO q f
  obtain ⟨g187, q, h⟩ := bindE h
  obtain ⟨μ188, q, h⟩ := bindE h
  have f := fr_X5_init q f
  obtain ⟨μ189, q, h⟩ := bindE h
  have f := fr_sR (by decide) (by decide) q f
  obtain ⟨v190, q, h⟩ := bindE h
  obtain ⟨μ191, q, h⟩ := bindE h
  have f := fr_nO q f
  obtain ⟨g192, q, h⟩ := bindE h
  obtain ⟨μ193, q, h⟩ := bindE h
  have f := fr_X5_init q f
  obtain ⟨μ194, q, h⟩ := bindE h
  have f := fr_sR (by decide) (by decide) q f
  obtain ⟨v195, q, h⟩ := bindE h
  obtain ⟨μ196, q, h⟩ := bindE h
  have f := fr_nO q f
  obtain ⟨g197, q, h⟩ := bindE h
  obtain ⟨μ198, q, h⟩ := bindE h
  have f := fr_X5_init q f
  obtain ⟨μ199, q, h⟩ := bindE h
  have f := fr_sR (by decide) (by decide) q f
  obtain ⟨v200, q, h⟩ := bindE h
  obtain ⟨μ201, q, h⟩ := bindE h
  have f := fr_nO q f
  obtain ⟨g202, q, h⟩ := bindE h
  obtain ⟨μ203, q, h⟩ := bindE h
  have f := fr_X5_init q f
  obtain ⟨μ204, q, h⟩ := bindE h
  have f := fr_sR (by decide) (by decide) q f
  obtain ⟨v205, q, h⟩ := bindE h
  obtain ⟨μ206, q, h⟩ := bindE h
  have f := fr_nO q f
  obtain ⟨g207, q, h⟩ := bindE h
  obtain ⟨μ208, q, h⟩ := bindE h
  have f := fr_X5_init q f
  obtain ⟨μ209, q, h⟩ := bindE h
  have f := fr_sR (by decide) (by decide) q f
  obtain ⟨v210, q, h⟩ := bindE h
  obtain ⟨μ211, q, h⟩ := bindE h
  have f := fr_nO q f
  obtain ⟨g212, q, h⟩ := bindE h
  obtain ⟨μ213, q, h⟩ := bindE h
  have f := fr_X5_init q f
  obtain ⟨μ214, q, h⟩ := bindE h
  have f := fr_sR (by decide) (by decide) q f
  obtain ⟨v215, q, h⟩ := bindE h
  obtain ⟨μ216, q, h⟩ := bindE h
  have f := fr_nO q f
  obtain ⟨g217, q, h⟩ := bindE h
  obtain ⟨μ218, q, h⟩ := bindE h
  have f := fr_X5_init q f
  obtain ⟨μ219, q, h⟩ := bindE h
  have f := fr_sR (by decide) (by decide) q f
  obtain ⟨v220, q, h⟩ := bindE h
  obtain ⟨μ221, q, h⟩ := bindE h
  have f := fr_nO q f
  obtain ⟨g222, q, h⟩ := bindE h
  obtain ⟨μ223, q, h⟩ := bindE h
  have f := fr_X5_init q f
  obtain ⟨μ224, q, h⟩ := bindE h
  have f := fr_sR (by decide) (by decide) q f
  obtain ⟨v225, q, h⟩ := bindE h
  obtain ⟨μ226, q, h⟩ := bindE h
  have f := fr_nO q f
  obtain ⟨g227, q, h⟩ := bindE h
  obtain ⟨μ228, q, h⟩ := bindE h
  have f := fr_X5_init q f
  obtain ⟨μ229, q, h⟩ := bindE h
  have f := fr_sR (by decide) (by decide) q f
  obtain ⟨v230, q, h⟩ := bindE h
  obtain ⟨μ231, q, h⟩ := bindE h
  have f := fr_nO q f
  obtain ⟨g232, q, h⟩ := bindE h
  obtain ⟨μ233, q, h⟩ := bindE h
  have f := fr_X5_init q f
  obtain ⟨μ234, q, h⟩ := bindE h
  have f := fr_sR (by decide) (by decide) q f
  obtain ⟨v235, q, h⟩ := bindE h
  obtain ⟨μ236, q, h⟩ := bindE h
  have f := fr_nO q f
  obtain ⟨g237, q, h⟩ := bindE h
  obtain ⟨μ238, q, h⟩ := bindE h
  have f := fr_X5_init q f
  obtain ⟨μ239, q, h⟩ := bindE h
  have f := fr_sR (by decide) (by decide) q f
  obtain ⟨v240, q, h⟩ := bindE h
  obtain ⟨μ241, q, h⟩ := bindE h
  have f := fr_nO q f
  obtain ⟨g242, q, h⟩ := bindE h
  obtain ⟨μ243, q, h⟩ := bindE h
  have f := fr_X5_init q f
  obtain ⟨μ244, q, h⟩ := bindE h
  have f := fr_sR (by decide) (by decide) q f
  obtain ⟨v245, q, h⟩ := bindE h
  obtain ⟨μ246, q, h⟩ := bindE h
  have f := fr_nO q f
  obtain ⟨g247, q, h⟩ := bindE h
  obtain ⟨μ248, q, h⟩ := bindE h
  have f := fr_X5_init q f
  obtain ⟨μ249, q, h⟩ := bindE h
  have f := fr_sR (by decide) (by decide) q f
  obtain ⟨v250, q, h⟩ := bindE h
  obtain ⟨μ251, q, h⟩ := bindE h
  have f := fr_nO q f
  obtain ⟨g252, q, h⟩ := bindE h
  obtain ⟨μ253, q, h⟩ := bindE h
  have f := fr_X5_init q f
  obtain ⟨μ254, q, h⟩ := bindE h
  have f := fr_sR (by decide) (by decide) q f
  rw [← inj1 h]
  exact f
set_option maxRecDepth 100000 in
theorem fr_X2_init {a0 : Nat} {μ μz : Mem} (h : X2_init a0 μ = some μz) (f : FrI μ) : FrI μz := by
  unfold X2_init at h
  obtain ⟨μ1, q, h⟩ := bindE h
  have f := fr_pI q f
  obtain ⟨μ2, q, h⟩ := bindE h
  have f := fr_nA q f
  obtain ⟨μ3, q, h⟩ := bindE h
  have f := fr_pR rfl (by decide) q f
  rw [← inj1 h]
  exact f
set_option maxRecDepth 100000 in
theorem fr_X1_init {a0 : Nat} {μ μz : Mem} (h : X1_init a0 μ = some μz) (f : FrI μ) : FrI μz := by
  unfold X1_init at h
  rw [← inj1 h]
  exact f
set_option maxRecDepth 100000 in
theorem fr_X4_init {a0 a1 a2 a3 : Nat} {μ μz : Mem} (h : X4_init a0 a1 a2 a3 μ = some μz) (f : FrI μ) : FrI μz := by
  unfold X4_init at h
  obtain ⟨μ1, q, h⟩ := bindE h
  have f := fr_nA q f
  obtain ⟨μ2, q, h⟩ := bindE h
  have f := fr_pR rfl (by decide) q f
  obtain ⟨μ3, q, h⟩ := bindE h
  have f := fr_nA q f
  obtain ⟨μ4, q, h⟩ := bindE h
  have f := fr_pR rfl (by decide) q f
  obtain ⟨μ5, q, h⟩ := bindE h
  have f := fr_nO q f
  obtain ⟨g6, q, h⟩ := bindE h
  obtain ⟨μ7, q, h⟩ := bindE h
  have f := fr_X1_init q f
  obtain ⟨μ8, q, h⟩ := bindE h
  have f := fr_pR rfl (by decide) q f
  obtain ⟨μ9, q, h⟩ := bindE h
  have f := fr_nA q f
  obtain ⟨μ10, q, h⟩ := bindE h
  have f := fr_pR rfl (by decide) q f
  obtain ⟨μ11, q, h⟩ := bindE h
  have f := fr_nA q f
  obtain ⟨μ12, q, h⟩ := bindE h
  have f := fr_pR rfl (by decide) q f
  obtain ⟨μ13, q, h⟩ := bindE h
  have f := fr_nA q f
  obtain ⟨μ14, q, h⟩ := bindE h
  have f := fr_pR rfl (by decide) q f
  obtain ⟨μ15, q, h⟩ := bindE h
  have f := fr_nA q f
  obtain ⟨μ16, q, h⟩ := bindE h
  have f := fr_pR rfl (by decide) q f
  obtain ⟨μ17, q, h⟩ := bindE h
  have f := fr_nA q f
  obtain ⟨μ18, q, h⟩ := bindE h
  have f := fr_pR rfl (by decide) q f
  obtain ⟨μ19, q, h⟩ := bindE h
  have f := fr_nA q f
  obtain ⟨μ20, q, h⟩ := bindE h
  have f := fr_pR rfl (by decide) q f
  obtain ⟨μ21, q, h⟩ := bindE h
  have f := fr_nA q f
  obtain ⟨μ22, q, h⟩ := bindE h
  have f := fr_pR rfl (by decide) q f
  obtain ⟨μ23, q, h⟩ := bindE h
  have f := fr_nA q f
  obtain ⟨μ24, q, h⟩ := bindE h
  have f := fr_pR rfl (by decide) q f
  obtain ⟨μ25, q, h⟩ := bindE h
  have f := fr_nA q f
  obtain ⟨μ26, q, h⟩ := bindE h
  have f := fr_pR rfl (by decide) q f
  obtain ⟨μ27, q, h⟩ := bindE h
  have f := fr_pR rfl (by decide) q f
  obtain ⟨μ28, q, h⟩ := bindE h
  have f := fr_pR rfl (by decide) q f
  obtain ⟨μ29, q, h⟩ := bindE h
  have f := fr_pR rfl (by decide) q f
  rw [← inj1 h]
  exact f
set_option maxRecDepth 100000 in
theorem fr_X7_init {a0 a1 a2 a3 : Nat} {μ μz : Mem} (h : X7_init a0 a1 a2 a3 μ = some μz) (f : FrI μ) : FrI μz := by
  unfold X7_init at h
  obtain ⟨μ1, q, h⟩ := bindE h
  have f := fr_pR rfl (by decide) q f
  obtain ⟨μ2, q, h⟩ := bindE h
  have f := fr_pR rfl (by decide) q f
  obtain ⟨μ3, q, h⟩ := bindE h
  have f := fr_pR rfl (by decide) q f
  rw [← inj1 h]
  exact f
set_option maxRecDepth 100000 in
theorem fr_X3_init {a0 : Nat} {μ μz : Mem} (h : X3_init a0 μ = some μz) (f : FrI μ) : FrI μz := by
  unfold X3_init at h
  obtain ⟨μ1, q, h⟩ := bindE h
  have f := fr_nA q f
  obtain ⟨μ2, q, h⟩ := bindE h
  have f := fr_pR rfl (by decide) q f
  obtain ⟨μ3, q, h⟩ := bindE h
  have f := fr_nA q f
  obtain ⟨μ4, q, h⟩ := bindE h
  have f := fr_pR rfl (by decide) q f
  obtain ⟨μ5, q, h⟩ := bindE h
  have f := fr_nA q f
  obtain ⟨μ6, q, h⟩ := bindE h
  have f := fr_pR rfl (by decide) q f
  obtain ⟨μ7, q, h⟩ := bindE h
  have f := fr_nA q f
  obtain ⟨μ8, q, h⟩ := bindE h
  have f := fr_pR rfl (by decide) q f
  rw [← inj1 h]
  exact f
set_option maxRecDepth 100000 in
theorem fr_X10_init {a0 : Nat} {μ μz : Mem} (h : X10_init a0 μ = some μz) (f : FrI μ) : FrI μz := by
  unfold X10_init at h
  obtain ⟨μ1, q, h⟩ := bindE h
  have f := fr_nO q f
  obtain ⟨g2, q, h⟩ := bindE h
  obtain ⟨μ3, q, h⟩ := bindE h
  have f := fr_X9_init q f
  obtain ⟨μ4, q, h⟩ := bindE h
  have f := fr_pR rfl (by decide) q f
  obtain ⟨μ5, q, h⟩ := bindE h
  have f := fr_nO q f
  obtain ⟨g6, q, h⟩ := bindE h
  obtain ⟨μ7, q, h⟩ := bindE h
  have f := fr_X8_init q f
  obtain ⟨μ8, q, h⟩ := bindE h
  have f := fr_pR rfl (by decide) q f
  obtain ⟨μ9, q, h⟩ := bindE h
  have f := fr_nO q f
  obtain ⟨g10, q, h⟩ := bindE h
  obtain ⟨μ11, q, h⟩ := bindE h
  have f := fr_X0_init q f
  obtain ⟨μ12, q, h⟩ := bindE h
  have f := fr_pR rfl (by decide) q f
  obtain ⟨μ13, q, h⟩ := bindE h
  have f := fr_nO q f
  obtain ⟨g14, q, h⟩ := bindE h
  obtain ⟨μ15, q, h⟩ := bindE h
  have f := fr_X2_init q f
  obtain ⟨μ16, q, h⟩ := bindE h
  have f := fr_pR rfl (by decide) q f
  obtain ⟨μ17, q, h⟩ := bindE h
  have f := fr_nA q f
  obtain ⟨μ18, q, h⟩ := bindE h
  have f := fr_pR rfl (by decide) q f
  obtain ⟨μ19, q, h⟩ := bindE h
  have f := fr_nO q f
  obtain ⟨g20, q, h⟩ := bindE h
  obtain ⟨μ21, q, h⟩ := bindE h
  have f := fr_X1_init q f
  obtain ⟨μ22, q, h⟩ := bindE h
  have f := fr_pR rfl (by decide) q f
  obtain ⟨μ23, q, h⟩ := bindE h
  have f := fr_nO q f
  obtain ⟨v24, q, h⟩ := bindE h
  obtain ⟨v25, q, h⟩ := bindE h
  obtain ⟨v26, q, h⟩ := bindE h
  obtain ⟨g27, q, h⟩ := bindE h
  obtain ⟨μ28, q, h⟩ := bindE h
  have f := fr_X4_init q f
  obtain ⟨μ29, q, h⟩ := bindE h
  have f := fr_pR rfl (by decide) q f
  obtain ⟨μ30, q, h⟩ := bindE h
  have f := fr_nO q f
  obtain ⟨v31, q, h⟩ := bindE h
  obtain ⟨v32, q, h⟩ := bindE h
  obtain ⟨v33, q, h⟩ := bindE h
  obtain ⟨g34, q, h⟩ := bindE h
  obtain ⟨μ35, q, h⟩ := bindE h
  have f := fr_X7_init q f
  obtain ⟨μ36, q, h⟩ := bindE h
  have f := fr_pR rfl (by decide) q f
  obtain ⟨μ37, q, h⟩ := bindE h
  have f := fr_nA q f
  obtain ⟨μ38, q, h⟩ := bindE h
  have f := fr_pR rfl (by decide) q f
  obtain ⟨μ39, q, h⟩ := bindE h
  have f := fr_nO q f
  obtain ⟨g40, q, h⟩ := bindE h
  obtain ⟨μ41, q, h⟩ := bindE h
  have f := fr_X3_init q f
  obtain ⟨μ42, q, h⟩ := bindE h
  have f := fr_pR rfl (by decide) q f
  obtain ⟨v43, q, h⟩ := bindE h
  obtain ⟨μ44, q, h⟩ := bindE h
  have f := fr_nO q f
  obtain ⟨g45, q, h⟩ := bindE h
  obtain ⟨μ46, q, h⟩ := bindE h
  have f := fr_X3_init q f
  obtain ⟨μ47, q, h⟩ := bindE h
  have f := fr_sR (by decide) (by decide) q f
  obtain ⟨v48, q, h⟩ := bindE h
  obtain ⟨μ49, q, h⟩ := bindE h
  have f := fr_nO q f
  obtain ⟨g50, q, h⟩ := bindE h
  obtain ⟨μ51, q, h⟩ := bindE h
  have f := fr_X3_init q f
  obtain ⟨μ52, q, h⟩ := bindE h
  have f := fr_sR (by decide) (by decide) q f
  obtain ⟨v53, q, h⟩ := bindE h
  obtain ⟨μ54, q, h⟩ := bindE h
  have f := fr_nO q f
  obtain ⟨g55, q, h⟩ := bindE h
  obtain ⟨μ56, q, h⟩ := bindE h
  have f := fr_X3_init q f
  obtain ⟨μ57, q, h⟩ := bindE h
  have f := fr_sR (by decide) (by decide) q f
  obtain ⟨v58, q, h⟩ := bindE h
  obtain ⟨μ59, q, h⟩ := bindE h
  have f := fr_nO q f
  obtain ⟨g60, q, h⟩ := bindE h
  obtain ⟨μ61, q, h⟩ := bindE h
  have f := fr_X3_init q f
  obtain ⟨μ62, q, h⟩ := bindE h
  have f := fr_sR (by decide) (by decide) q f
  rw [← inj1 h]
  exact f
set_option maxRecDepth 100000 in
theorem fr_X11_init {a0 : Nat} {μ μz : Mem} (h : X11_init a0 μ = some μz) (f : FrI μ) : FrI μz := by
  unfold X11_init at h
  obtain ⟨μ1, q, h⟩ := bindE h
  have f := fr_nA q f
  obtain ⟨μ2, q, h⟩ := bindE h
  have f := fr_pR rfl (by decide) q f
  obtain ⟨μ3, q, h⟩ := bindE h
  have f := fr_nA q f
  obtain ⟨μ4, q, h⟩ := bindE h
  have f := fr_pR rfl (by decide) q f
  obtain ⟨μ5, q, h⟩ := bindE h
  have f := fr_nA q f
  obtain ⟨μ6, q, h⟩ := bindE h
  have f := fr_pR rfl (by decide) q f
  obtain ⟨μ7, q, h⟩ := bindE h
  have f := fr_nA q f
  obtain ⟨μ8, q, h⟩ := bindE h
  have f := fr_pR rfl (by decide) q f
  obtain ⟨μ9, q, h⟩ := bindE h
  have f := fr_nA q f
  obtain ⟨μ10, q, h⟩ := bindE h
  have f := fr_pR rfl (by decide) q f
  obtain ⟨μ11, q, h⟩ := bindE h
  have f := fr_nA q f
  obtain ⟨μ12, q, h⟩ := bindE h
  have f := fr_pR rfl (by decide) q f
  obtain ⟨μ13, q, h⟩ := bindE h
  have f := fr_nA q f
  obtain ⟨μ14, q, h⟩ := bindE h
  have f := fr_pR rfl (by decide) q f
  obtain ⟨μ15, q, h⟩ := bindE h
  have f := fr_nA q f
  obtain ⟨μ16, q, h⟩ := bindE h
  have f := fr_pR rfl (by decide) q f
  obtain ⟨μ17, q, h⟩ := bindE h
  have f := fr_nA q f
  obtain ⟨μ18, q, h⟩ := bindE h
  have f := fr_pR rfl (by decide) q f
  obtain ⟨μ19, q, h⟩ := bindE h
  have f := fr_nA q f
  obtain ⟨μ20, q, h⟩ := bindE h
  have f := fr_pR rfl (by decide) q f
  obtain ⟨μ21, q, h⟩ := bindE h
  have f := fr_nA q f
  obtain ⟨μ22, q, h⟩ := bindE h
  have f := fr_pR rfl (by decide) q f
  obtain ⟨μ23, q, h⟩ := bindE h
  have f := fr_nA q f
  obtain ⟨μ24, q, h⟩ := bindE h
  have f := fr_pR rfl (by decide) q f
  obtain ⟨μ25, q, h⟩ := bindE h
  have f := fr_nA q f
  obtain ⟨μ26, q, h⟩ := bindE h
  have f := fr_pR rfl (by decide) q f
  obtain ⟨μ27, q, h⟩ := bindE h
  have f := fr_nA q f
  obtain ⟨μ28, q, h⟩ := bindE h
  have f := fr_pR rfl (by decide) q f
  obtain ⟨μ29, q, h⟩ := bindE h
  have f := fr_nA q f
  obtain ⟨μ30, q, h⟩ := bindE h
  have f := fr_pR rfl (by decide) q f
  obtain ⟨μ31, q, h⟩ := bindE h
  have f := fr_nA q f
  obtain ⟨μ32, q, h⟩ := bindE h
  have f := fr_pR rfl (by decide) q f
  obtain ⟨μ33, q, h⟩ := bindE h
  have f := fr_nA q f
  obtain ⟨μ34, q, h⟩ := bindE h
  have f := fr_pR rfl (by decide) q f
  obtain ⟨μ35, q, h⟩ := bindE h
  have f := fr_nA q f
  obtain ⟨μ36, q, h⟩ := bindE h
  have f := fr_pR rfl (by decide) q f
  obtain ⟨μ37, q, h⟩ := bindE h
  have f := fr_nA q f
  obtain ⟨μ38, q, h⟩ := bindE h
  have f := fr_pR rfl (by decide) q f
  obtain ⟨μ39, q, h⟩ := bindE h
  have f := fr_nA q f
  obtain ⟨μ40, q, h⟩ := bindE h
  have f := fr_pR rfl (by decide) q f
  obtain ⟨μ41, q, h⟩ := bindE h
  have f := fr_nA q f
  obtain ⟨μ42, q, h⟩ := bindE h
  have f := fr_pR rfl (by decide) q f
  obtain ⟨μ43, q, h⟩ := bindE h
  have f := fr_nA q f
  obtain ⟨μ44, q, h⟩ := bindE h
  have f := fr_pR rfl (by decide) q f
  obtain ⟨μ45, q, h⟩ := bindE h
  have f := fr_nA q f
  obtain ⟨μ46, q, h⟩ := bindE h
  have f := fr_pR rfl (by decide) q f
  obtain ⟨μ47, q, h⟩ := bindE h
  have f := fr_nA q f
  obtain ⟨μ48, q, h⟩ := bindE h
  have f := fr_pR rfl (by decide) q f
  obtain ⟨μ49, q, h⟩ := bindE h
  have f := fr_nA q f
  obtain ⟨μ50, q, h⟩ := bindE h
  have f := fr_pR rfl (by decide) q f
  obtain ⟨μ51, q, h⟩ := bindE h
  have f := fr_nA q f
  obtain ⟨μ52, q, h⟩ := bindE h
  have f := fr_pR rfl (by decide) q f
  obtain ⟨μ53, q, h⟩ := bindE h
  have f := fr_nA q f
  obtain ⟨μ54, q, h⟩ := bindE h
  have f := fr_pR rfl (by decide) q f
  obtain ⟨μ55, q, h⟩ := bindE h
  have f := fr_nA q f
  obtain ⟨μ56, q, h⟩ := bindE h
  have f := fr_pR rfl (by decide) q f
  obtain ⟨μ57, q, h⟩ := bindE h
  have f := fr_nA q f
  obtain ⟨μ58, q, h⟩ := bindE h
  have f := fr_pR rfl (by decide) q f
  obtain ⟨μ59, q, h⟩ := bindE h
  have f := fr_nA q f
  obtain ⟨μ60, q, h⟩ := bindE h
  have f := fr_pR rfl (by decide) q f
  obtain ⟨μ61, q, h⟩ := bindE h
  have f := fr_nA q f
  obtain ⟨μ62, q, h⟩ := bindE h
  have f := fr_pR rfl (by decide) q f
  obtain ⟨μ63, q, h⟩ := bindE h
  have f := fr_pI q f
  obtain ⟨μ64, q, h⟩ := bindE h
  have f := fr_nA q f
  obtain ⟨μ65, q, h⟩ := bindE h
  have f := fr_pR rfl (by decide) q f
  obtain ⟨μ66, q, h⟩ := bindE h
  have f := fr_nA q f
  obtain ⟨μ67, q, h⟩ := bindE h
  have f := fr_pR rfl (by decide) q f
  obtain ⟨μ68, q, h⟩ := bindE h
  have f := fr_nA q f
  obtain ⟨μ69, q, h⟩ := bindE h
  have f := fr_pR rfl (by decide) q f
  obtain ⟨μ70, q, h⟩ := bindE h
  have f := fr_nA q f
  obtain ⟨μ71, q, h⟩ := bindE h
  have f := fr_pR rfl (by decide) q f
  obtain ⟨μ72, q, h⟩ := bindE h
  have f := fr_nA q f
  obtain ⟨μ73, q, h⟩ := bindE h
  have f := fr_pR rfl (by decide) q f
  obtain ⟨μ74, q, h⟩ := bindE h
  have f := fr_nA q f
  obtain ⟨μ75, q, h⟩ := bindE h
  have f := fr_pR rfl (by decide) q f
  obtain ⟨μ76, q, h⟩ := bindE h
  have f := fr_nA q f
  obtain ⟨μ77, q, h⟩ := bindE h
  have f := fr_pR rfl (by decide) q f
  obtain ⟨μ78, q, h⟩ := bindE h
  have f := fr_nA q f
  obtain ⟨μ79, q, h⟩ := bindE h
  have f := fr_pR rfl (by decide) q f
  obtain ⟨μ80, q, h⟩ := bindE h
  have f := fr_nA q f
  obtain ⟨μ81, q, h⟩ := bindE h
  have f := fr_pR rfl (by decide) q f
  obtain ⟨z82, q, h⟩ := bindE h
  have f : FrI z82.2 := fr_X11_init_L327 _ _ _ _ q f
  obtain ⟨z83, q, h⟩ := bindE h
  have f : FrI z83.2 := fr_X11_init_L363 _ _ _ _ q f
  obtain ⟨z84, q, h⟩ := bindE h
  have f : FrI z84.2 := fr_X11_init_L391 _ _ _ _ q f
  rw [← inj1 h]
  exact f
