/-! ===== read ===== -/
def RL (μ : Mem) (p : Nat) : Prop := (mI μ (lwA μ p) 0 = nI (lc μ p) ∧ mI μ 156 p = nI (lc μ p) ∧ lc μ p ≤ 8) ∧ ∀ k, k < lc μ p → (mI μ (lwA μ p + 1) k = nI (lv μ 0 p k) ∧ mI μ 157 (8 * p + k) = nI (lv μ 0 p k) ∧ lv μ 0 p k ≤ 4) ∧ (mI μ (lwA μ p + 2) k = nI (lv μ 1 p k) ∧ mI μ 158 (8 * p + k) = nI (lv μ 1 p k) ∧ lv μ 1 p k ≤ 9 ∧ (lv μ 0 p k < 3 → lv μ 1 p k ≤ 3)) ∧ (1 ≤ lv μ 0 p k → lv μ 0 p k ≤ 3 → mI μ (lwA μ p + 3) k = nI (lv μ 2 p k) ∧ mI μ 159 (8 * p + k) = nI (lv μ 2 p k) ∧ lv μ 2 p k ≤ 60 ∧ (lv μ 0 p k = 1 → lv μ 2 p k ≤ 3)) ∧ (lv μ 0 p k = 1 → mI μ (lwA μ p + 4) k = nI (lv μ 3 p k) ∧ mI μ 160 (8 * p + k) = nI (lv μ 3 p k) ∧ lv μ 3 p k ≤ 100)
theorem RL.cg {μ μ' : Mem} {p : Nat} (h : RL μ p) (ea : lwA μ' p = lwA μ p) (e1 : ∀ c k, c < 5 → mI μ' (lwA μ p + c) k = mI μ (lwA μ p + c) k) (e2 : mI μ' 156 p = mI μ 156 p) (e3 : ∀ c k, c < 4 → k < 8 → mI μ' (157 + c) (8 * p + k) = mI μ (157 + c) (8 * p + k)) : RL μ' p := by
  have eb : lc μ' p = lc μ p := by
    unfold lc
    rw [e2]
  have ec : ∀ c k, c < 4 → k < 8 → lv μ' c p k = lv μ c p k := fun c k hc hk => by
    unfold lv
    rw [e3 c k hc hk]
  have r0 : ∀ k, mI μ' (lwA μ p) k = mI μ (lwA μ p) k := fun k => e1 0 k (by decide)
  unfold RL
  rw [ea, eb, r0, e2]
  refine ⟨h.1, fun k hk => ?_⟩
  have k8 : k < 8 := by
    have := h.1.2.2
    omega
  have s0 := e3 0 k (by decide) k8
  have s1 := e3 1 k (by decide) k8
  have s2 := e3 2 k (by decide) k8
  have s3 := e3 3 k (by decide) k8
  rw [e1 1 k (by decide), e1 2 k (by decide), e1 3 k (by decide), e1 4 k (by decide), ec 0 k (by decide) k8, ec 1 k (by decide) k8, ec 2 k (by decide) k8, ec 3 k (by decide) k8, show mI μ' 157 (8 * p + k) = _ from s0, show mI μ' 158 (8 * p + k) = _ from s1, show mI μ' 159 (8 * p + k) = _ from s2, show mI μ' 160 (8 * p + k) = _ from s3]
  exact h.2 k hk
theorem RL.new {μ : Mem} {p l m : Nat} {cs : Nat → Cls} (ea : lwA μ p = l) (hm : m ≤ 8) (hc : Lcl μ l m cs) (e2 : mI μ 156 p = nI m) (e3 : ∀ k, k < m → mI μ 157 (8 * p + k) = nI (cs k).1 ∧ mI μ 158 (8 * p + k) = nI (cs k).2.1 ∧ (1 ≤ (cs k).1 → (cs k).1 ≤ 3 → mI μ 159 (8 * p + k) = nI (cs k).2.2.1) ∧ ((cs k).1 = 1 → mI μ 160 (8 * p + k) = nI (cs k).2.2.2)) (ok : ∀ k, k < m → clOk (cs k)) : RL μ p := by
  have eb : lc μ p = m := by
    unfold lc
    rw [e2, vN_nI (by omega)]
  unfold RL
  rw [ea, eb]
  refine ⟨⟨hc.1, e2, hm⟩, fun k hk => ?_⟩
  obtain ⟨q0, q1, q2, q3⟩ := e3 k hk
  obtain ⟨o0, ⟨o1, o1b⟩, o2, o3⟩ := ok k hk
  obtain ⟨c1, c2, c3, c4⟩ := hc.2 k hk
  have v0 : lv μ 0 p k = (cs k).1 := by
    show vN (mI μ 157 (8 * p + k)) = _
    rw [q0, vN_nI (by omega)]
  have v1 : lv μ 1 p k = (cs k).2.1 := by
    show vN (mI μ 158 (8 * p + k)) = _
    rw [q1, vN_nI (by omega)]
  rw [v0, v1]
  refine ⟨⟨c1, q0, o0⟩, ⟨c2, q1, o1, o1b⟩, fun x y => ?_, fun x => ?_⟩
  · have b := o2 x y
    have v2 : lv μ 2 p k = (cs k).2.2.1 := by
      show vN (mI μ 159 (8 * p + k)) = _
      rw [q2 x y, vN_nI (by omega)]
    rw [v2]
    exact ⟨c3, q2 x y, b⟩
  · have b := o3 x
    have v3 : lv μ 3 p k = (cs k).2.2.2 := by
      show vN (mI μ 160 (8 * p + k)) = _
      rw [q3 x, vN_nI (by omega)]
    rw [v3]
    exact ⟨c4, q3 x, b⟩
theorem read72 {μ : Mem} (o : Ok μ) {p m : Nat} (hp : p < 4) (hm : m ≤ 8) : ∃ μ', (Ok μ' ∧ mR μ' = mR μ ∧ (∀ a k, ¬ (157 ≤ a ∧ a ≤ 160 ∧ 8 * p ≤ k ∧ k < 8 * p + m) → mI μ' a k = mI μ a k) ∧ ∀ c k, c < 4 → k < m → mI μ' (157 + c) (8 * p + k) = mI μ (161 + c) k) ∧ X11_read_L72 134 (nI p) (nI m) FU 0 μ = some (nI m, μ') := by
  obtain ⟨μ', P, e⟩ := loopF (F := fun b (μ' : Mem) i => X11_read_L72 134 (nI p) (nI m) b (nI i) μ') (P := fun i μ' => Ok μ' ∧ mR μ' = mR μ ∧ (∀ a k, ¬ (157 ≤ a ∧ a ≤ 160 ∧ 8 * p ≤ k ∧ k < 8 * p + i) → mI μ' a k = mI μ a k) ∧ ∀ c k, c < 4 → k < i → mI μ' (157 + c) (8 * p + k) = mI μ (161 + c) k) (n := m) (r := fun μ' => (nI m, μ')) (by omega) (fun b μ' i hi P => by
    obtain ⟨o', r', fr, cp⟩ := P
    have i9 : i < 9 := by omega
    have i32 : 8 * p + i < 32 := by omega
    have g : ∀ c, c < 4 → mI μ' (161 + c) i = mI μ (161 + c) i := fun c hc => fr (161 + c) i (by omega)
    have g0 : mI μ' 161 i = mI μ 161 i := g 0 (by decide)
    have g1 : mI μ' 162 i = mI μ 162 i := g 1 (by decide)
    have g2 : mI μ' 163 i = mI μ 163 i := g 2 (by decide)
    have g3 : mI μ' 164 i = mI μ 164 i := g 3 (by decide)
    refine ⟨wI (wI (wI (wI μ' 157 (8 * p + i) (mI μ 161 i)) 158 (8 * p + i) (mI μ 162 i)) 159 (8 * p + i) (mI μ 163 i)) 160 (8 * p + i) (mI μ 164 i), ⟨o', r', fun a k q => ?_, fun c k hc hk => ?_⟩, ?_⟩
    · rw [fld_ne (by omega), fld_ne (by omega), fld_ne (by omega), fld_ne (by omega)]
      exact fr a k (by omega)
    · by_cases z : k = i
      · subst z
        rcases (show c = 0 ∨ c = 1 ∨ c = 2 ∨ c = 3 by omega) with rfl | rfl | rfl | rfl
        all_goals simp (disch := omega) only [row_ne, fld_eq]
      · rw [fld_ne (by omega), fld_ne (by omega), fld_ne (by omega), fld_ne (by omega)]
        exact cp c k hc (by omega)
    · show X11_read_L72 134 (nI p) (nI m) (b + 1) (nI i) μ' = _
      rw [X11_read_L72, if_neg (nI_ge hi (by omega)), show (8 : Int32) = nI 8 from rfl, pk_mul, nI_add, r_134_25 o', Option.bind_some, r_134_29 o', Option.bind_some, ai_161 o' i9, g0, Option.bind_some, si_157 o' i32, Option.bind_some, r_134_26 o'.wI, Option.bind_some, r_134_30 o'.wI, Option.bind_some, ai_162 o'.wI i9, row_ne (by decide), g1, Option.bind_some, si_158 o'.wI i32, Option.bind_some, r_134_27 o'.wI.wI, Option.bind_some, r_134_31 o'.wI.wI, Option.bind_some, ai_163 o'.wI.wI i9, row_ne (by decide), row_ne (by decide), g2, Option.bind_some, si_159 o'.wI.wI i32, Option.bind_some, r_134_28 o'.wI.wI.wI, Option.bind_some, r_134_32 o'.wI.wI.wI, Option.bind_some, ai_164 o'.wI.wI.wI i9, row_ne (by decide), row_ne (by decide), row_ne (by decide), g3, Option.bind_some, si_160 o'.wI.wI.wI i32, Option.bind_some, nI_add1]) (fun b μ' P => by
    show X11_read_L72 134 (nI p) (nI m) (b + 1) (nI m) μ' = _
    rw [X11_read_L72, if_pos (nI_le (Nat.le_refl _) (by omega))]) μ ⟨o, rfl, fun _ _ _ => rfl, fun c k _ hk => by omega⟩
  exact ⟨μ', P, e⟩
theorem lw_dj {l l' : Nat} (h : isLw l) (h' : isLw l') (ne : l ≠ l') {c : Nat} (hc : c < 5) : ¬ (l ≤ l' + c ∧ l' + c ≤ l + 4) := by
  unfold isLw at h h'
  omega
/-- the invariant behind read: what the text, the spare LAWS and one person's LAWS hold may be new -/
theorem Inv.rd {μ ν : Mem} {p l m : Nat} {f : Int32} (I : Inv μ) (o : Ok ν) (hp : p < 4) (hl : l = spA μ) (fr : ∀ a k, ¬ (a = 90 ∧ (k = 0 ∨ k = 1 ∨ k = 2 ∨ k = 4)) → ¬ (l ≤ a ∧ a ≤ l + 4) → ¬ (a = 134 ∧ (k = 34 ∨ k = 35 ∨ k = 36 ∨ k = 38 ∨ k = 39)) → ¬ (161 ≤ a ∧ a ≤ 164) → ¬ (a = 156 ∧ k = p) → ¬ (157 ≤ a ∧ a ≤ 160 ∧ 8 * p ≤ k ∧ k < 8 * p + m) → mI ν a k = mI μ a k) (hm : m ≤ 8) (t1 : mI ν 90 0 = 0) (t2 : mI ν 134 34 = 0) (t3 : mI ν 90 2 = f) (t4 : mI ν 134 35 = f) (ea : ∀ p', p' < 4 → p' ≠ p → lwA ν p' = lwA μ p') (new : RL ν p) : Inv ν := by
  obtain ⟨o0, ⟨w1, w2, w3, w4, w5, w6⟩, hC, hT, hS, hX, hL⟩ := I
  have il : isLw l := by
    rw [hl]
    exact o0.2.2.2.2.2.2.1
  have fr2 : ∀ a k, a ≠ 90 → ¬ (109 ≤ a ∧ a ≤ 133) → a ≠ 134 → ¬ (156 ≤ a ∧ a ≤ 164) → mI ν a k = mI μ a k := fun a k q1 q2 q3 q4 => fr a k (by omega) (by unfold isLw at il; omega) (by omega) (by omega) (by omega) (by omega)
  have er : ∀ a, a ≠ 90 → ¬ (109 ≤ a ∧ a ≤ 133) → a ≠ 134 → ¬ (156 ≤ a ∧ a ≤ 164) → mI ν a = mI μ a := fun a q1 q2 q3 q4 => funext fun k => fr2 a k q1 q2 q3 q4
  have e134 : ∀ k, ¬ (34 ≤ k ∧ k ≤ 39) → mI ν 134 k = mI μ 134 k := fun k hk => fr 134 k (by omega) (by unfold isLw at il; omega) (by omega) (by omega) (by omega) (by omega)
  refine ⟨o, ⟨w1.cg (fun q hq => er _ (by omega) (by omega) (by omega) (by omega)) (er _ (by omega) (by omega) (by omega) (by omega)), w2.cg (fun q hq => er _ (by omega) (by omega) (by omega) (by omega)) (er _ (by omega) (by omega) (by omega) (by omega)), w3.cg (er _ (by omega) (by omega) (by omega) (by omega)) (er _ (by omega) (by omega) (by omega) (by omega)), w4.cg (fr2 _ _ (by omega) (by omega) (by omega) (by omega)) (e134 _ (by omega)), w5.cg (fun q hq => er _ (by omega) (by omega) (by omega) (by omega)) (er _ (by omega) (by omega) (by omega) (by omega)), w6.cg (fr2 _ _ (by omega) (by omega) (by omega) (by omega)) (e134 _ (by omega))⟩, hC.cg (fun q hq => er _ (by omega) (by omega) (by omega) (by omega)) (er _ (by omega) (by omega) (by omega) (by omega)) (er _ (by omega) (by omega) (by omega) (by omega)) (er _ (by omega) (by omega) (by omega) (by omega)), hT.cg (fr2 _ _ (by omega) (by omega) (by omega) (by omega)) (e134 _ (by omega)) (fun q hq => er _ (by omega) (by omega) (by omega) (by omega)) (fun q hq => er _ (by omega) (by omega) (by omega) (by omega)) (nw_le (e134 _ (by omega))), hS.cg (fr2 _ _ (by omega) (by omega) (by omega) (by omega)) (e134 _ (by omega)) (fun q hq => er _ (by omega) (by omega) (by omega) (by omega)) (fun q hq => er _ (by omega) (by omega) (by omega) (by omega)) (nw_le (e134 _ (by omega))), ⟨?_, fun k hk => ?_, by rw [t3, t4]⟩, fun p' hp' => ?_⟩
  · have : tl ν = 0 := by
      unfold tl
      rw [t2]
      rfl
    rw [this, t1, t2]
    exact ⟨rfl, rfl, by decide⟩
  · have : tx ν k = tx μ k := by
      unfold tx
      rw [er 165 (by omega) (by omega) (by omega) (by omega)]
    rw [this, er 165 (by omega) (by omega) (by omega) (by omega), er 91 (by omega) (by omega) (by omega) (by omega)]
    exact hX.2.1 k hk
  · by_cases z : p' = p
    · subst z
      exact new
    · have il' := (o0.2.2.2.2.1 p' hp').2
      have nel : l ≠ lwA μ p' := by
        rw [hl]
        exact fun w => o0.2.2.2.2.2.2.2.2 p' hp' w.symm
      refine RL.cg (μ := μ) (hL p' hp') (ea p' hp' z) (fun c k hc => ?_) ?_ (fun c k hc hk => ?_)
      · have dj := lw_dj il il' nel hc
        exact fr _ _ (by unfold isLw at il'; omega) dj (by unfold isLw at il'; omega) (by unfold isLw at il'; omega) (by unfold isLw at il'; omega) (by unfold isLw at il'; omega)
      · exact fr _ _ (by omega) (by unfold isLw at il; omega) (by omega) (by omega) (by omega) (by omega)
      · exact fr _ _ (by omega) (by unfold isLw at il; omega) (by omega) (by omega) (by omega) (by omega)
theorem p_read (x1 : Int32) : Pair (X10_read 0 x1) (X11_read 134 x1) := by
  intro μ I
  have I0 := I
  obtain ⟨o, W, C, TT, S, X, L⟩ := I
  rcases gd x1 3 (by decide) with ⟨g1, k1⟩ | ⟨g1, k1, p, hp, rfl⟩
  · exact pairR I0 (by unfold X10_read; rw [if_pos (show X10_isPerson x1 = 0 from g1)]) (by unfold X11_read; rw [if_pos (show X11_isPerson x1 = 0 from k1)])
  have hp4 : p < 4 := by omega
  have il : isLw (spA μ) := o.2.2.2.2.2.2.1
  have ip : isLw (lwA μ p) := lw_is o hp4
  have nep : lwA μ p ≠ spA μ := o.2.2.2.2.2.2.2.2 p hp4
  have st : STc μ (tl μ) (tx μ) := ⟨X.1.1, X.1.2.2, fun i hi => ⟨(X.2.1 i hi).1, (X.2.1 i hi).2.2⟩⟩
  have pc := parse_c o il st
  -- the reference, on a memory that has the same cells of its own
  have ref : ∀ ν, Ok ν → (∀ a k, 134 ≤ a → mI ν a k = mI μ a k) → match pAll (tl μ) (tx μ) 9 0 (sk (tl μ) (tx μ) 0) (fun _ => (0, 0, 0, 0)) with
      | .inl (k, s) => ∃ μ', (Ok μ' ∧ mR μ' = mR ν ∧ (∀ a j, ¬ (a = 134 ∧ (j = 34 ∨ j = 35 ∨ j = 36 ∨ j = 38 ∨ j = 39)) → ¬ (161 ≤ a ∧ a ≤ 164) → mI μ' a j = mI ν a j) ∧ mI μ' 134 34 = 0 ∧ mI μ' 134 35 = nI s) ∧ X11_read 134 (nI p) ν = some ((-10) - nI k, μ')
      | .inr (m', cs') => m' ≤ 8 → ∃ μ', (Ok μ' ∧ mR μ' = mR ν ∧ (∀ a j, ¬ (a = 134 ∧ (j = 34 ∨ j = 35 ∨ j = 36 ∨ j = 38 ∨ j = 39)) → ¬ (161 ≤ a ∧ a ≤ 164) → ¬ (a = 156 ∧ j = p) → ¬ (157 ≤ a ∧ a ≤ 160 ∧ 8 * p ≤ j ∧ j < 8 * p + m') → mI μ' a j = mI ν a j) ∧ mI μ' 134 34 = 0 ∧ mI μ' 134 35 = -1 ∧ mI μ' 156 p = nI m' ∧ ∀ k, k < m' → mI μ' 157 (8 * p + k) = nI (cs' k).1 ∧ mI μ' 158 (8 * p + k) = nI (cs' k).2.1 ∧ (1 ≤ (cs' k).1 → (cs' k).1 ≤ 3 → mI μ' 159 (8 * p + k) = nI (cs' k).2.2.1) ∧ ((cs' k).1 = 1 → mI μ' 160 (8 * p + k) = nI (cs' k).2.2.2)) ∧ X11_read 134 (nI p) ν = some (nI m', μ') := by
    intro ν oν eν
    have ⟨ν1, e1⟩ : ∃ m, m = wI (wI ν 134 35 (-1)) 134 36 0 := ⟨_, rfl⟩
    have o1 : Ok ν1 := by rw [e1]; exact oν
    have fr1 : ∀ a k, ¬ (a = 134 ∧ (k = 35 ∨ k = 36)) → mI ν1 a k = mI ν a k := fun a k q => by rw [e1, fld_ne (by omega), fld_ne (by omega)]
    have mb : MB (tl μ) (tx μ) ν1 0 ν1 (-1) 0 := by
      refine ⟨⟨o1, rfl, fun _ _ _ _ => rfl⟩, ⟨?_, X.1.2.2, fun i hi => ⟨?_, (X.2.1 i hi).2.2⟩⟩, ⟨?_, ?_⟩, Nat.zero_le _⟩
      · rw [fr1 134 34 (by omega), eν 134 34 (by decide)]
        exact X.1.2.1
      · rw [fr1 165 i (by omega), eν 165 i (by decide)]
        exact (X.2.1 i hi).2.1
      · rw [e1, fld_ne (by omega), fld_eq]
      · rw [e1, fld_eq]
        rfl
    have r := read25 (nI p) 9 (99999 - 10) 0 0 ν1 (fun _ => (0, 0, 0, 0)) rfl mb (fun j hj => by omega)
    have hd : X11_read 134 (nI p) ν = (X11_read_L25 134 (nI p) FU 0 0 ν1).bind fun z4 => (pI 11 34 134 0 z4.2.2).bind fun μ5 => if z4.2.1 ≤ 0 then (gR 11 24 134 μ5).bind fun v7 => (sI v7 (nI p) z4.1 μ5).bind fun μ8 => (X11_read_L72 134 (nI p) z4.1 FU 0 μ8).bind fun z9 => some (z4.1, z9.2) else some (((-10)) - z4.2.1, μ5) := by
      unfold X11_read
      rw [if_neg (show ¬ X11_isPerson (nI p) = 0 from k1), pi_134 oν, Option.bind_some, pi_134 oν.wI, Option.bind_some, ← e1]
    cases hpa : pAll (tl μ) (tx μ) 9 0 (sk (tl μ) (tx μ) 0) (fun _ => (0, 0, 0, 0)) with
    | inl a =>
      rw [hpa] at r
      obtain ⟨ν2, x, q', ⟨r1, hk, r2, r3⟩, er⟩ := r (by decide)
      have er : X11_read_L25 134 (nI p) FU 0 0 ν1 = _ := er
      refine ⟨wI ν2 134 34 0, ⟨r1.1, ?_, fun b j q1 q2 => ?_, fld_eq, ?_⟩, ?_⟩
      · show mR ν2 = _
        rw [r1.2.1, e1]
        rfl
      · rw [fld_ne (by omega), r1.2.2 b j (by omega) q2, fr1 b j (by omega)]
      · rw [fld_ne (by omega)]
        exact r2
      · rw [hd, er, Option.bind_some, pi_134 r1.1, Option.bind_some, if_neg (kn hk)]
    | inr a =>
      rw [hpa] at r
      intro m8
      obtain ⟨ν2, q', ⟨r1, r2, r3, r4⟩, er⟩ := r
      have er : X11_read_L25 134 (nI p) FU 0 0 ν1 = _ := er
      have o3 : Ok (wI (wI ν2 134 34 0) 156 p (nI a.1)) := r1.1
      obtain ⟨ν4, ⟨o4, R4, f4, c4⟩, e4⟩ := read72 o3 hp4 m8
      refine ⟨ν4, ⟨o4, ?_, fun b j q1 q2 q3 q5 => ?_, ?_, ?_, ?_, fun k hk => ?_⟩, ?_⟩
      · rw [R4]
        show mR ν2 = _
        rw [r1.2.1, e1]
        rfl
      · rw [f4 b j q5, fld_ne q3, fld_ne (by omega), r1.2.2 b j (by omega) q2, fr1 b j (by omega)]
      · rw [f4 134 34 (by omega), row_ne (by decide), fld_eq]
      · rw [f4 134 35 (by omega), row_ne (by decide), fld_ne (by omega)]
        exact r2
      · rw [f4 156 p (by omega), fld_eq]
      · obtain ⟨z1, z2, z3, z4⟩ := r3 k hk
        have y : ∀ c, c < 4 → mI ν4 (157 + c) (8 * p + k) = mI ν2 (161 + c) k := fun c hc => by
          rw [c4 c k hc hk, row_ne (by omega), row_ne (by omega)]
        exact ⟨(y 0 (by decide)).trans z1, (y 1 (by decide)).trans z2, fun u v => (y 2 (by decide)).trans (z3 u v), fun u => (y 3 (by decide)).trans (z4 u)⟩
      · rw [hd, er, Option.bind_some, pi_134 r1.1, Option.bind_some, if_pos z00, r_134_24 r1.1.wI, Option.bind_some, si_156 r1.1.wI hp4, Option.bind_some, e4, Option.bind_some]
  cases hpa : pAll (tl μ) (tx μ) 9 0 (sk (tl μ) (tx μ) 0) (fun _ => (0, 0, 0, 0)) with
  | inl a =>
    rw [hpa] at pc
    obtain ⟨c1, ⟨s1, fk, hk, fa⟩, e1⟩ := pc
    have oc := s1.1
    have ckz : (nI a.1 = 0) = (a.1 = 0) := k0 hk.2
    have fr2 : ∀ b k, ¬ (b = 90 ∧ (k = 0 ∨ k = 1 ∨ k = 2 ∨ k = 4)) → ¬ (spA μ ≤ b ∧ b ≤ spA μ + 4) → mI (wI c1 90 0 0) b k = mI μ b k := fun b k q1 q2 => by rw [fld_ne (by omega), s1.2.2 b k (by omega) q2]
    have rr := ref (wI c1 90 0 0) oc (fun b k hb => fr2 b k (by omega) (by unfold isLw at il; omega))
    rw [hpa] at rr
    obtain ⟨m1, ⟨om, Rm, fm, t34, t35⟩, em⟩ := rr
    refine ⟨(-10) - nI a.1, wI c1 90 0 0, m1, ?_, oc, em, ?_⟩
    · unfold X10_read
      rw [if_neg (show ¬ X10_isPerson (nI p) = 0 from g1), r_0_3 o, Option.bind_some, r_sp o, Option.bind_some, vo_90 o, Option.bind_some, e1, Option.bind_some, r_0_3 oc, Option.bind_some, pi_90 oc, Option.bind_some, r_0_3 oc.wI, Option.bind_some, gi_90 oc.wI, fld_ne (by omega), fk, Option.bind_some, if_neg (by rw [ckz]; omega), Option.bind_some, gi_90 oc.wI, fld_ne (by omega), fk, Option.bind_some]
    · have lwm : ∀ p', lwA m1 p' = lwA μ p' := fun p' => by
        unfold lwA
        rw [Rm]
        show ((mR c1 92 p').getD 0) = _
        rw [s1.2.1]
      refine I0.rd (p := p) (l := spA μ) (m := 0) (f := nI a.2) om hp4 rfl (fun b k q1 q2 q3 q4 _ _ => ?_) (by decide) ?_ t34 ?_ t35 (fun p' _ _ => lwm p') ?_
      · rw [fm b k q3 q4, fr2 b k q1 q2]
      · rw [fm 90 0 (by omega) (by omega), fld_eq]
      · rw [fm 90 2 (by omega) (by omega), fld_ne (by omega)]
        exact fa
      · refine RL.cg (μ := μ) (L p hp4) (lwm p) (fun c k hc => ?_) ?_ (fun c k hc hk8 => ?_)
        · have dj := lw_dj il ip (fun w => nep w.symm) hc
          rw [fm _ _ (by unfold isLw at ip; omega) (by unfold isLw at ip; omega), fr2 _ _ (by unfold isLw at ip; omega) dj]
        · rw [fm _ _ (by omega) (by omega), fr2 _ _ (by omega) (by unfold isLw at il; omega)]
        · rw [fm _ _ (by omega) (by omega), fr2 _ _ (by omega) (by unfold isLw at il; omega)]
  | inr a =>
    rw [hpa] at pc
    obtain ⟨c1, ⟨s1, fk, fa, lc1, m8, ok⟩, e1⟩ := pc
    have oc := s1.1
    have fr2 : ∀ b k, ¬ (b = 90 ∧ (k = 0 ∨ k = 1 ∨ k = 2 ∨ k = 4)) → ¬ (spA μ ≤ b ∧ b ≤ spA μ + 4) → mI (wI c1 90 0 0) b k = mI μ b k := fun b k q1 q2 => by rw [fld_ne (by omega), s1.2.2 b k (by omega) q2]
    have lwc : ∀ p', lwA c1 p' = lwA μ p' := fun p' => by
      unfold lwA
      rw [s1.2.1]
    have spc : spA c1 = spA μ := by
      unfold spA
      rw [s1.2.1]
    have ⟨c3, e3⟩ : ∃ m, m = wR (wR (wI c1 90 0 0) 92 p (spA μ)) 0 9 (lwA μ p) := ⟨_, rfl⟩
    have R3 : ∀ b k, ¬ (b = 92 ∧ k = p) → ¬ (b = 0 ∧ k = 9) → mR c3 b k = mR c1 b k := fun b k q1 q2 => by
      rw [e3, mR_wR, if_neg q2, mR_wR, if_neg q1]
      rfl
    have R3p : mR c3 92 p = some (spA μ) := by
      rw [e3, mR_wR, if_neg (by omega), mR_wR, if_pos ⟨rfl, rfl⟩]
    have R3s : mR c3 0 9 = some (lwA μ p) := by
      rw [e3, mR_wR, if_pos ⟨rfl, rfl⟩]
    have lwp : lwA c3 p = spA μ := by
      unfold lwA
      rw [R3p]
      rfl
    have lwn : ∀ p', p' ≠ p → lwA c3 p' = lwA μ p' := fun p' hne => by
      rw [← lwc p']
      unfold lwA
      rw [R3 92 p' (by omega) (by omega)]
    have sp3 : spA c3 = lwA μ p := by
      unfold spA
      rw [R3s]
      rfl
    have o3 : Ok c3 := by
      obtain ⟨q1, q2, q3, ⟨q4, q5, q6⟩, q7, q8, q9, q10, q11⟩ := oc
      have wa : wtA c3 = wtA c1 := by unfold wtA; rw [R3 1 6 (by omega) (by omega)]
      have wb : wtB c3 = wtB c1 := by unfold wtB; rw [R3 1 7 (by omega) (by omega)]
      refine ⟨by rw [e3]; exact q1, by rw [e3]; exact q2, fun b k hd => ?_, ⟨?_, ?_, ?_⟩, fun p' hp' => ?_, ?_, ?_, fun p1 p2 h1 h2 e => ?_, fun p' hp' => ?_⟩
      · rw [R3 b k (fun w => by obtain ⟨rfl, -⟩ := w; exact absurd hd (by simp [dynR])) (fun w => by obtain ⟨rfl, rfl⟩ := w; exact absurd hd (by decide))]
        exact q3 b k hd
      · rw [R3 1 6 (by omega) (by omega), wa]
        exact q4
      · rw [R3 1 7 (by omega) (by omega), wb]
        exact q5
      · rw [wa, wb]
        exact q6
      · by_cases z : p' = p
        · subst z
          rw [R3p, lwp]
          exact ⟨rfl, il⟩
        · rw [R3 92 p' (by omega) (by omega), lwn p' z, ← lwc p']
          exact q7 p' hp'
      · rw [R3s, sp3]
      · rw [sp3]
        exact ip
      · by_cases z1 : p1 = p
        · by_cases z2 : p2 = p
          · omega
          · rw [z1, lwp, lwn p2 z2] at e
            exact absurd e.symm (o.2.2.2.2.2.2.2.2 p2 h2)
        · by_cases z2 : p2 = p
          · rw [z2, lwp, lwn p1 z1] at e
            exact absurd e (o.2.2.2.2.2.2.2.2 p1 h1)
          · rw [lwn p1 z1, lwn p2 z2] at e
            exact o.2.2.2.2.2.2.2.1 p1 p2 h1 h2 e
      · rw [sp3]
        by_cases z : p' = p
        · subst z
          rw [lwp]
          exact fun w => nep w.symm
        · rw [lwn p' z]
          exact fun w => z (o.2.2.2.2.2.2.2.1 p' p hp' hp4 w)
    have I3 : mI c3 = mI (wI c1 90 0 0) := by rw [e3]; rfl
    have rr := ref c3 o3 (fun b k hb => by rw [I3]; exact fr2 b k (by omega) (by unfold isLw at il; omega))
    rw [hpa] at rr
    obtain ⟨m1, ⟨om, Rm, fm, t34, t35, t156, tcs⟩, em⟩ := rr m8
    refine ⟨nI a.1, c3, m1, ?_, o3, em, ?_⟩
    · have oc2 : Ok (wI c1 90 0 0) := oc
      have e92 : aR 4 92 (nI p) (wI c1 90 0 0) = some (lwA μ p) := by
        rw [ar_laws oc2 hp4]
        exact congrArg some (lwc p)
      have esp : gR 10 9 0 (wI c1 90 0 0) = some (spA μ) := by
        rw [r_sp oc2]
        exact congrArg some spc
      have esr : sR 4 3 92 (nI p) (spA μ) (wI c1 90 0 0) = some (wR (wI c1 90 0 0) 92 p (spA μ)) := by
        unfold sR
        have hs := il.s0
        rw [oc2.1, oc2.2.1, show S0 92 = (4, 4) from rfl, if_pos ⟨⟨by decide, rfl, ix_ok hp4 (by decide)⟩, by omega, hs.1⟩, nI_clamp (by omega)]
      have epr : pR 10 9 0 (lwA μ p) (wR (wI c1 90 0 0) 92 p (spA μ)) = some c3 := by
        unfold pR
        rw [if_pos, e3]
        refine ⟨?_, ?_⟩
        · show 0 < mN c1
          rw [oc.1]
          decide
        · show mS c1 0 = _
          rw [oc.2.1]
          rfl
      have e92' : aR 4 92 (nI p) c3 = some (spA μ) := by
        rw [ar_laws o3 hp4, lwp]
      have ecn : gI 3 0 (spA μ) c3 = some (nI a.1) := by
        rw [gi_l o3 il, I3, row_ne (by unfold isLw at il; omega), lc1.1]
      unfold X10_read
      rw [if_neg (show ¬ X10_isPerson (nI p) = 0 from g1), r_0_3 o, Option.bind_some, r_sp o, Option.bind_some, vo_90 o, Option.bind_some, e1, Option.bind_some, r_0_3 oc, Option.bind_some, pi_90 oc, Option.bind_some, r_0_3 oc2, Option.bind_some, gi_90 oc2, fld_ne (by omega), fk, Option.bind_some, if_pos (show nI 0 = (0 : Int32) from rfl), r_0_4 oc2, Option.bind_some, e92, Option.bind_some, Option.bind_some, esp, Option.bind_some, esr, Option.bind_some, epr, Option.bind_some, r_0_4 o3, Option.bind_some, e92', Option.bind_some, ecn, Option.bind_some]
    · have lwm : ∀ p', lwA m1 p' = lwA c3 p' := fun p' => by
        unfold lwA
        rw [Rm]
      refine I0.rd (p := p) (l := spA μ) (m := a.1) (f := -1) om hp4 rfl (fun b k q1 q2 q3 q4 q5 q6 => ?_) m8 ?_ t34 ?_ t35 (fun p' _ hne => (lwm p').trans (lwn p' hne)) ?_
      · rw [fm b k q3 q4 q5 q6, I3, fr2 b k q1 q2]
      · rw [fm 90 0 (by omega) (by omega) (by omega) (by omega), I3, fld_eq]
      · rw [fm 90 2 (by omega) (by omega) (by omega) (by omega), I3, fld_ne (by omega)]
        exact fa
      · refine RL.new ((lwm p).trans lwp) m8 ?_ t156 tcs ok
        have er : ∀ b, spA μ ≤ b → b ≤ spA μ + 4 → mI m1 b = mI c1 b := fun b h1 h2 => funext fun k => by
          rw [fm b k (by unfold isLw at il; omega) (by unfold isLw at il; omega) (by unfold isLw at il; omega) (by unfold isLw at il; omega), I3, row_ne (by unfold isLw at il; omega)]
        unfold Lcl
        rw [er _ (by omega) (by omega), er _ (by omega) (by omega), er _ (by omega) (by omega), er _ (by omega) (by omega), er _ (by omega) (by omega)]
        exact lc1
