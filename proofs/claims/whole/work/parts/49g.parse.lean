/-! ===== the whole text ===== -/
def clOk (c : Cls) : Prop := c.1 ≤ 4 ∧ (c.2.1 ≤ 9 ∧ (c.1 < 3 → c.2.1 ≤ 3)) ∧ (1 ≤ c.1 → c.1 ≤ 3 → c.2.2.1 ≤ 60 ∧ (c.1 = 1 → c.2.2.1 ≤ 3)) ∧ (c.1 = 1 → c.2.2.2 ≤ 100)
theorem sb_inr {B C : Type} {x : Flt ⊕ B} {g : B → Flt ⊕ C} {c : C} (h : sb x g = .inr c) : ∃ b, x = .inr b ∧ g b = .inr c := by
  cases x with
  | inl a => cases h
  | inr b => exact ⟨b, rfl, h⟩
theorem pN_inr {n : Nat} {T : Nat → Nat} {lo hi q v q' : Nat} (h : pN n T lo hi q = .inr (v, q')) : lo ≤ v ∧ v ≤ hi := by
  unfold pN at h
  split at h
  · cases h
  · split at h
    · cases h
    · rename_i z
      cases h
      omega
theorem pE_inr {n : Nat} {T : Nat → Nat} {c c' : Cls} {q q' : Nat} (h : pE n T (c, q) = .inr (c', q')) : c' = c ∧ q' ≤ n := by
  unfold pE at h
  split at h
  · rename_i z
    cases h
    exact ⟨rfl, z.1⟩
  · cases h
theorem pClause_ok {n : Nat} {T : Nat → Nat} {m q q' : Nat} {c : Cls} (h : pClause n T m q = .inr (c, q')) : clOk c ∧ q' ≤ n ∧ m < 8 := by
  unfold pClause at h
  obtain ⟨⟨c1, q1⟩, h1, h2⟩ := sb_inr h
  obtain ⟨rfl, hq⟩ := pE_inr h2
  unfold pHead at h1
  split at h1
  · split at h1
    · rename_i z hm
      refine ⟨?_, hq, hm⟩
      unfold pNever at h1
      split at h1
      · unfold pWay at h1
        obtain ⟨⟨a, qa⟩, ha, h3⟩ := sb_inr h1
        have ba := pN_inr ha
        split at h3
        · obtain ⟨q2, -, h4⟩ := sb_inr h3
          obtain ⟨⟨b, qb⟩, hb, h5⟩ := sb_inr h4
          have bb := pN_inr hb
          obtain ⟨⟨d, qd⟩, hd, h6⟩ := sb_inr h5
          have bd := pN_inr hd
          cases h6
          exact ⟨(by decide : 1 ≤ 4), ⟨(by omega : a ≤ 9), fun _ => (by omega : a ≤ 3)⟩, fun _ _ => ⟨(by omega : b ≤ 60), fun _ => (by omega : b ≤ 3)⟩, fun _ => (by omega : d ≤ 100)⟩
        · cases h3
          exact ⟨(by decide : 0 ≤ 4), ⟨(by omega : a ≤ 9), fun _ => (by omega : a ≤ 3)⟩, fun x _ => absurd (show 1 ≤ 0 from x) (by decide), fun x => absurd (show (0 : Nat) = 1 from x) (by decide)⟩
      · obtain ⟨q2, -, h4⟩ := sb_inr h1
        unfold pKind at h4
        obtain ⟨⟨a, qa⟩, ha, h3⟩ := sb_inr h4
        have ba := pN_inr ha
        obtain ⟨q3, -, h5⟩ := sb_inr h3
        obtain ⟨⟨b, qb⟩, hb, h6⟩ := sb_inr h5
        have bb := pN_inr hb
        cases h6
        exact ⟨(by decide : 2 ≤ 4), ⟨(by omega : a ≤ 9), fun _ => (by omega : a ≤ 3)⟩, fun _ _ => ⟨(by omega : b ≤ 60), fun x => absurd (show (2 : Nat) = 1 from x) (by decide)⟩, fun x => absurd (show (2 : Nat) = 1 from x) (by decide)⟩
    · cases h1
  · split at h1
    · split at h1
      · rename_i z z2 hm
        refine ⟨?_, hq, hm⟩
        unfold pMost at h1
        obtain ⟨⟨a, qa⟩, ha, h3⟩ := sb_inr h1
        have ba := pN_inr ha
        obtain ⟨q3, -, h5⟩ := sb_inr h3
        obtain ⟨⟨b, qb⟩, hb, h6⟩ := sb_inr h5
        have bb := pN_inr hb
        cases h6
        exact ⟨(by decide : 3 ≤ 4), ⟨(by omega : a ≤ 9), fun x => absurd (show 3 < 3 from x) (by decide)⟩, fun _ _ => ⟨(by omega : b ≤ 60), fun x => absurd (show (3 : Nat) = 1 from x) (by decide)⟩, fun x => absurd (show (3 : Nat) = 1 from x) (by decide)⟩
      · cases h1
    · split at h1
      · split at h1
        · rename_i z z2 z3 hm
          refine ⟨?_, hq, hm⟩
          unfold pAlways at h1
          obtain ⟨q3, -, h5⟩ := sb_inr h1
          obtain ⟨⟨a, qa⟩, ha, h6⟩ := sb_inr h5
          have ba := pN_inr ha
          cases h6
          exact ⟨(by decide : 4 ≤ 4), ⟨(by omega : a ≤ 9), fun x => absurd (show 4 < 3 from x) (by decide)⟩, fun _ x => absurd (show 4 ≤ 3 from x) (by decide), fun x => absurd (show (4 : Nat) = 1 from x) (by decide)⟩
        · cases h1
      · cases h1
/-- all clauses: a fault, or how many, and which -/
def pAll (n : Nat) (T : Nat → Nat) : Nat → Nat → Nat → (Nat → Cls) → Flt ⊕ (Nat × (Nat → Cls))
  | 0, _, _, _ => .inl (1, 0)
  | d + 1, m, q, cs => if q < n then sb (pClause n T m q) (fun c => pAll n T d (m + 1) (sk n T c.2) (fun j => if j = m then c.1 else cs j)) else .inr (m, cs)
def SL (μ : Mem) (l : Nat) (μ' : Mem) : Prop := Ok μ' ∧ mR μ' = mR μ ∧ ∀ a j, ¬ (a = 90 ∧ (j = 1 ∨ j = 2 ∨ j = 4)) → ¬ (l ≤ a ∧ a ≤ l + 4) → mI μ' a j = mI μ a j
theorem SL.tr {μ μ' μ'' : Mem} {l : Nat} (h : SL μ l μ') (h2 : SL μ' l μ'') : SL μ l μ'' := ⟨h2.1, h2.2.1.trans h.2.1, fun a j q1 q2 => (h2.2.2 a j q1 q2).trans (h.2.2 a j q1 q2)⟩
theorem Sc.sl {μ μ' : Mem} {l : Nat} (h : Sc μ μ') : SL μ l μ' := ⟨h.1, h.2.1, fun a j q1 _ => h.2.2 a j q1⟩
def Lcl (μ : Mem) (l m : Nat) (cs : Nat → Cls) : Prop := mI μ l 0 = nI m ∧ ∀ j, j < m → mI μ (l + 1) j = nI (cs j).1 ∧ mI μ (l + 2) j = nI (cs j).2.1 ∧ mI μ (l + 3) j = nI (cs j).2.2.1 ∧ mI μ (l + 4) j = nI (cs j).2.2.2
theorem Lcl.sc {μ μ' : Mem} {l m : Nat} {cs : Nat → Cls} (hl : isLw l) (h : Lcl μ l m cs) (s : Sc μ μ') : Lcl μ' l m cs := by
  have e : ∀ a, l ≤ a → a ≤ l + 4 → mI μ' a = mI μ a := fun a h1 h2 => funext fun j => s.2.2 a j (by unfold isLw at hl; omega)
  unfold Lcl
  rw [e l (by omega) (by omega), e (l + 1) (by omega) (by omega), e (l + 2) (by omega) (by omega), e (l + 3) (by omega) (by omega), e (l + 4) (by omega) (by omega)]
  exact h
theorem Lcl.ad {μ : Mem} {l m : Nat} {cs : Nat → Cls} (h : Lcl μ l m cs) (c : Cls) : Lcl (AD μ l m c) l (m + 1) (fun j => if j = m then c else cs j) := by
  refine ⟨fld_eq, fun j hj => ?_⟩
  unfold AD
  by_cases z : j = m
  · subst z
    simp (disch := omega) only [row_ne, fld_eq, if_true]
    exact ⟨trivial, trivial, trivial, trivial⟩
  · obtain ⟨h1, h2, h3, h4⟩ := h.2 j (by omega)
    simp (disch := omega) only [row_ne, fld_ne, if_neg z]
    exact ⟨h1, h2, h3, h4⟩
section PA
variable {n : Nat} {T : Nat → Nat}
theorem CP.rb {μ0 μ : Mem} {k q : Nat} {f : Int32} (h : CP n T μ0 μ k f q) : CP n T μ μ k f q := ⟨⟨h.1.1, rfl, fun _ _ _ => rfl⟩, h.2⟩
theorem CP.ad {μ0 μ : Mem} {k q l m : Nat} {f : Int32} (hl : isLw l) (h : CP n T μ0 μ k f q) (c : Cls) : CP n T (AD μ l m c) (AD μ l m c) k f q := by
  have e : ∀ a, ¬ (l ≤ a ∧ a ≤ l + 4) → mI (AD μ l m c) a = mI μ a := fun a ha => by
    unfold AD
    rw [row_ne (by omega), row_ne (by omega), row_ne (by omega), row_ne (by omega), row_ne (by omega)]
  have e90 := e 90 (by unfold isLw at hl; omega)
  have e91 := e 91 (by unfold isLw at hl; omega)
  obtain ⟨⟨o, -, -⟩, ⟨t1, t2, t3⟩, ⟨f1, f2, f3⟩, hq, hk⟩ := h
  refine ⟨⟨o, rfl, fun _ _ _ => rfl⟩, ⟨by rw [e90]; exact t1, t2, fun i hi => by rw [e91]; exact t3 i hi⟩, ⟨by rw [e90]; exact f1, by rw [e90]; exact f2, by rw [e90]; exact f3⟩, hq, hk⟩
theorem AD_sl {μ : Mem} {l m : Nat} (o : Ok μ) (c : Cls) : SL μ l (AD μ l m c) := by
  refine ⟨o, rfl, fun a j _ q => ?_⟩
  unfold AD
  rw [row_ne (by omega), row_ne (by omega), row_ne (by omega), row_ne (by omega), row_ne (by omega)]
theorem parse26 {l : Nat} (hl : isLw l) : ∀ d b m q μ cs, m + d = 9 → CP n T μ μ 0 (-1) q → sk n T q = q → Lcl μ l m cs → match pAll n T d m q cs with
    | .inl (k, s) => 0 < d → ∃ μ' x, (SL μ l μ' ∧ mI μ' 90 1 = nI k ∧ (1 ≤ k ∧ k ≤ 3) ∧ mI μ' 90 2 = nI s) ∧ X2_parse_L26 90 l (b + 2 + d) (nI m) μ = some (x, μ')
    | .inr (m', cs') => ∃ μ' x, (SL μ l μ' ∧ mI μ' 90 1 = nI 0 ∧ mI μ' 90 2 = -1 ∧ Lcl μ' l m' cs' ∧ m' ≤ 8 ∧ ((∀ j, j < m → clOk (cs j)) → ∀ j, j < m' → clOk (cs' j))) ∧ X2_parse_L26 90 l (b + 2 + d) (nI m) μ = some (x, μ') := by
  intro d
  induction d with
  | zero =>
    intro b m q μ cs hm h hsk hc
    exact fun z => absurd z (by decide)
  | succ d ih =>
    intro b m q μ cs hm h hsk hc
    have hn := h.n0
    have hq := h.2.2.2.1
    rw [pAll, show b + 2 + (d + 1) = b + 2 + d + 1 by omega, X2_parse_L26, if_neg (show ¬ (160 : Int32) ≤ _ from nI_ge (b := 160) (by omega) (by decide)), gi_90 h.ok, h.2.2.1.2.2, Option.bind_some, gi_90 h.ok, h.2.1.1, Option.bind_some]
    by_cases z : q < n
    · rw [if_pos z, if_neg (nI_ge z (by omega)), gi_90 h.ok, h.2.2.1.1, Option.bind_some, if_pos (show nI 0 = (0 : Int32) from rfl), vo_90 h.ok, Option.bind_some]
      have cc := clause_c h hsk hl (m := m) (by omega) hc.1
      cases hp : pClause n T m q with
      | inl a =>
        rw [hp] at cc
        obtain ⟨μ1, q1, h1, hk, e1⟩ := cc
        obtain ⟨μ2, h2, e2⟩ := skip_c h1
        have hs := h2.2.2.2.1
        have k1 : (nI a.1 = 0) = (a.1 = 0) := k0 h1.2.2.2.2
        rw [e1, Option.bind_some, vo_90 h1.ok, Option.bind_some, e2, Option.bind_some]
        show 0 < d + 1 → _
        intro _
        refine ⟨μ2, nI (m + 1), ⟨h2.1.sl, h2.2.2.1.1, ⟨by omega, h1.2.2.2.2⟩, h2.2.2.1.2.1⟩, ?_⟩
        rw [show b + 2 + d = b + 1 + d + 1 by omega, nI_add1, X2_parse_L26, if_neg (show ¬ (160 : Int32) ≤ _ from nI_ge (b := 160) (by omega) (by decide)), gi_90 h2.ok, h2.2.2.1.2.2, Option.bind_some, gi_90 h2.ok, h2.2.1.1, Option.bind_some, gi_90 h2.ok, h2.2.2.1.1, Option.bind_some, if_neg (show ¬ nI a.1 = 0 by rw [k1]; exact hk), ite_self]
      | inr a =>
        have ok := pClause_ok (c := a.1) (q' := a.2) hp
        rw [hp] at cc
        obtain ⟨μ1, h1, e1⟩ := cc
        have h2 := h1.ad hl (m := m) a.1
        obtain ⟨μ3, h3, e3⟩ := skip_c h2
        have lc3 := ((hc.sc hl h1.1).ad a.1).sc hl h3.1
        have sl3 : SL μ l μ3 := (h1.1.sl.tr (AD_sl h1.ok a.1)).tr h3.1.sl
        have r := ih b (m + 1) (sk n T a.2) μ3 (fun j => if j = m then a.1 else cs j) (by omega) h3.rb sk_idem lc3
        rw [e1, Option.bind_some, vo_90 h2.ok, Option.bind_some, e3, Option.bind_some, nI_add1]
        show match pAll n T d (m + 1) (sk n T a.2) (fun j => if j = m then a.1 else cs j) with
          | .inl (k, s) => _
          | .inr (m', cs') => _
        cases hr : pAll n T d (m + 1) (sk n T a.2) (fun j => if j = m then a.1 else cs j) with
        | inl c =>
          rw [hr] at r
          intro _
          obtain ⟨μ', x, ⟨r1, r2⟩, er⟩ := r (by omega)
          exact ⟨μ', x, ⟨sl3.tr r1, r2⟩, er⟩
        | inr c =>
          rw [hr] at r
          obtain ⟨μ', x, ⟨r1, r2, r3, r4, r5, r6⟩, er⟩ := r
          refine ⟨μ', x, ⟨sl3.tr r1, r2, r3, r4, r5, fun hc' => r6 (fun j hj => ?_)⟩, er⟩
          by_cases y : j = m
          · rw [if_pos y]
            exact ok.1
          · rw [if_neg y]
            exact hc' j (by omega)
    · rw [if_neg z, if_pos (nI_le (by omega) (by omega))]
      exact ⟨μ, _, ⟨⟨h.ok, rfl, fun _ _ _ _ => rfl⟩, h.2.2.1.1, h.2.2.1.2.1, hc, by omega, fun x => x⟩, rfl⟩
theorem parse_c {μ : Mem} {l : Nat} (o : Ok μ) (hl : isLw l) (st : STc μ n T) : match pAll n T 9 0 (sk n T 0) (fun _ => (0, 0, 0, 0)) with
    | .inl (k, s) => ∃ μ', (SL μ l μ' ∧ mI μ' 90 1 = nI k ∧ (1 ≤ k ∧ k ≤ 3) ∧ mI μ' 90 2 = nI s) ∧ X2_parse 90 l μ = some μ'
    | .inr (m', cs') => ∃ μ', (SL μ l μ' ∧ mI μ' 90 1 = nI 0 ∧ mI μ' 90 2 = -1 ∧ Lcl μ' l m' cs' ∧ m' ≤ 8 ∧ ∀ j, j < m' → clOk (cs' j)) ∧ X2_parse 90 l μ = some μ' := by
  have l90 : l ≠ 90 ∧ l ≠ 91 := by unfold isLw at hl; omega
  have ⟨μ1, e1⟩ : ∃ m, m = wI (wI (wI (wI μ 90 4 0) 90 1 0) 90 2 (-1)) l 0 0 := ⟨_, rfl⟩
  have o1 : Ok μ1 := by rw [e1]; exact o
  have f1 : SL μ l μ1 := by
    refine ⟨o1, by rw [e1]; rfl, fun a j q1 q2 => ?_⟩
    rw [e1, fld_ne (by omega), fld_ne (by omega), fld_ne (by omega), fld_ne (by omega)]
  have c1 : CP n T μ1 μ1 0 (-1) 0 := by
    refine ⟨⟨o1, rfl, fun _ _ _ => rfl⟩, ⟨?_, st.2.1, fun i hi => ?_⟩, ⟨?_, ?_, ?_⟩, Nat.zero_le _, by decide⟩
    · rw [f1.2.2 90 0 (by omega) (by unfold isLw at hl; omega)]
      exact st.1
    · rw [f1.2.2 91 i (by omega) (by unfold isLw at hl; omega)]
      exact st.2.2 i hi
    · rw [e1, row_ne (by omega), fld_ne (by omega), fld_eq]
      rfl
    · rw [e1, row_ne (by omega), fld_eq]
    · rw [e1, row_ne (by omega), fld_ne (by omega), fld_ne (by omega), fld_eq]
      rfl
  have lc1 : Lcl μ1 l 0 (fun _ => (0, 0, 0, 0)) := ⟨by rw [e1, fld_eq]; rfl, fun j hj => by omega⟩
  obtain ⟨μ2, h2, e2⟩ := skip_c c1
  have r := parse26 hl 9 (99999 - 10) 0 (sk n T 0) μ2 (fun _ => (0, 0, 0, 0)) rfl h2.rb sk_idem (lc1.sc hl h2.1)
  have hd : X2_parse 90 l μ = (X2_parse_L26 90 l FU 0 μ2).bind fun z => some z.2 := by
    unfold X2_parse
    rw [pi_90 o, Option.bind_some, pi_90 o.wI, Option.bind_some, pi_90 o.wI.wI, Option.bind_some, pi_l o.wI.wI.wI hl, Option.bind_some, ← e1, vo_90 o1, Option.bind_some, e2, Option.bind_some]
  have s2 : SL μ l μ2 := f1.tr h2.1.sl
  cases hp : pAll n T 9 0 (sk n T 0) (fun _ => (0, 0, 0, 0)) with
  | inl a =>
    rw [hp] at r
    obtain ⟨μ', x, ⟨r1, r2⟩, er⟩ := r (by decide)
    have er : X2_parse_L26 90 l FU 0 μ2 = _ := er
    refine ⟨μ', ⟨s2.tr r1, r2⟩, ?_⟩
    rw [hd, er, Option.bind_some]
  | inr a =>
    rw [hp] at r
    obtain ⟨μ', x, ⟨r1, r2, r3, r4, r5, r6⟩, er⟩ := r
    have er : X2_parse_L26 90 l FU 0 μ2 = _ := er
    refine ⟨μ', ⟨s2.tr r1, r2, r3, r4, r5, r6 (fun j hj => by omega)⟩, ?_⟩
    rw [hd, er, Option.bind_some]
/-! of the reference -/
def FA (μ μ' : Mem) : Prop := Ok μ' ∧ mR μ' = mR μ ∧ ∀ a j, ¬ (a = 134 ∧ (j = 35 ∨ j = 36 ∨ j = 38 ∨ j = 39)) → ¬ (161 ≤ a ∧ a ≤ 164) → mI μ' a j = mI μ a j
theorem FA.tr {μ μ' μ'' : Mem} (h : FA μ μ') (h2 : FA μ' μ'') : FA μ μ'' := ⟨h2.1, h2.2.1.trans h.2.1, fun a j q1 q2 => (h2.2.2 a j q1 q2).trans (h.2.2 a j q1 q2)⟩
theorem FB.fa {μ μ' : Mem} {m : Nat} (h : FB μ m μ') : FA μ μ' := ⟨h.1, h.2.1, fun a j q1 q2 => h.2.2 a j q1 (fun z => q2 ⟨z.1, z.2.1⟩)⟩
def Frs (μ : Mem) (m : Nat) (cs : Nat → Cls) : Prop := ∀ j, j < m → Fr j μ (cs j)
theorem MB.rb {μ0 μ : Mem} {m q : Nat} {f : Int32} (m' : Nat) (h : MB n T μ0 m μ f q) : MB n T μ m' μ f q := ⟨⟨h.1.1, rfl, fun _ _ _ _ => rfl⟩, h.2⟩
theorem Frs.fb {μ μ' : Mem} {m : Nat} {cs : Nat → Cls} (h : Frs μ m cs) (b : FB μ m μ') : Frs μ' m cs := fun j hj => by
  have e : ∀ a, 161 ≤ a → a ≤ 164 → mI μ' a j = mI μ a j := fun a h1 h2 => b.2.2 a j (by omega) (by omega)
  unfold Fr
  rw [e 161 (by decide) (by decide), e 162 (by decide) (by decide), e 163 (by decide) (by decide), e 164 (by decide) (by decide)]
  exact h j hj
theorem read25 (x1 : Int32) : ∀ d b m q μ cs, m + d = 9 → MB n T μ m μ (-1) q → Frs μ m cs → match pAll n T d m (sk n T q) cs with
    | .inl (k, s) => 0 < d → ∃ μ' x q', (FA μ μ' ∧ (1 ≤ k ∧ k ≤ 3) ∧ mI μ' 134 35 = nI s ∧ mI μ' 134 36 = nI q') ∧ X11_read_L25 134 x1 (b + 2 + d) (nI m) 0 μ = some (x, nI k, μ')
    | .inr (m', cs') => ∃ μ' q', (FA μ μ' ∧ mI μ' 134 35 = -1 ∧ Frs μ' m' cs' ∧ mI μ' 134 36 = nI q') ∧ X11_read_L25 134 x1 (b + 2 + d) (nI m) 0 μ = some (nI m', 0, μ') := by
  intro d
  induction d with
  | zero =>
    intro b m q μ cs hm h hc
    exact fun z => absurd z (by decide)
  | succ d ih =>
    intro b m q μ cs hm h hc
    have hn := h.n0
    obtain ⟨μ1, h1, kp1, e1⟩ := here_m h
    have hs := h1.2.2.2
    rw [pAll, show b + 2 + (d + 1) = b + 2 + d + 1 by omega, X11_read_L25, if_pos rfl, vo_134 h.ok, Option.bind_some, e1, Option.bind_some]
    have cz : (chV n T (sk n T q) < 0) = ¬ sk n T q < n := by
      unfold chV
      by_cases y : sk n T q < n
      · have bb := h.b (i := sk n T q) (by omega)
        rw [if_pos y, nI_lt0 (by omega)]
        exact propext ⟨False.elim, fun w => w y⟩
      · rw [if_neg y]
        exact propext ⟨fun _ => y, fun _ => by decide⟩
    simp only [cz]
    by_cases z : sk n T q < n
    · rw [if_pos z, if_neg (fun w => w z), vo_134 h1.ok, Option.bind_some]
      have cc := clause_m (h1.rb m) sk_idem (m := m) (by omega)
      cases hp : pClause n T m (sk n T q) with
      | inl a =>
        rw [hp] at cc
        obtain ⟨μ2, q2, h2, hk, e2⟩ := cc
        rw [e2, Option.bind_some]
        show 0 < d + 1 → _
        intro _
        refine ⟨μ2, nI (m + 1), q2, ⟨h1.1.fa.tr h2.1.fa, hk, h2.2.2.1.1, h2.2.2.1.2⟩, ?_⟩
        rw [show b + 2 + d = b + 1 + d + 1 by omega, nI_add1, X11_read_L25, if_neg (show ¬ nI a.1 = 0 from fun w => by have := (n_eq (b := 0) (show a.1 < 2 ^ 31 by omega) (by decide)).mp w; omega)]
      | inr a =>
        rw [hp] at cc
        obtain ⟨μ2, h2, fr, e2⟩ := cc
        have ok := pClause_ok (c := a.1) (q' := a.2) hp
        have frs : Frs μ2 (m + 1) (fun j => if j = m then a.1 else cs j) := fun j hj => by
          by_cases y : j = m
          · subst y
            simp only [if_true]
            exact fr
          · simp only [if_neg y]
            exact ((hc.fb h1.1).fb h2.1) j (by omega)
        have r := ih b (m + 1) a.2 μ2 (fun j => if j = m then a.1 else cs j) (by omega) (h2.rb (m + 1)) frs
        rw [e2, Option.bind_some, nI_add1]
        show match pAll n T d (m + 1) (sk n T a.2) (fun j => if j = m then a.1 else cs j) with
          | .inl (k, s) => _
          | .inr (m', cs') => _
        have f02 : FA μ μ2 := h1.1.fa.tr h2.1.fa
        cases hr : pAll n T d (m + 1) (sk n T a.2) (fun j => if j = m then a.1 else cs j) with
        | inl c =>
          rw [hr] at r
          intro _
          obtain ⟨μ', x, q', ⟨r1, r2⟩, er⟩ := r (by omega)
          exact ⟨μ', x, q', ⟨f02.tr r1, r2⟩, er⟩
        | inr c =>
          rw [hr] at r
          obtain ⟨μ', q', ⟨r1, r2⟩, er⟩ := r
          exact ⟨μ', q', ⟨f02.tr r1, r2⟩, er⟩
    · rw [if_neg z, if_pos z]
      exact ⟨μ1, _, ⟨h1.1.fa, h1.2.2.1.1, hc.fb h1.1, h1.2.2.1.2⟩, rfl⟩
end PA
