/-! ===== tried ===== -/
def muV (μ : Mem) (t : Nat) : Nat := if tv μ 1 t = 0 then 1 else if tv μ 1 t = 3 then 1 else 0
theorem muV_sm {μ μ' : Mem} (s : Sm μ μ') (t : Nat) : muV μ' t = muV μ t := by
  unfold muV
  rw [tv_sm s (by decide)]
theorem must_c {μ : Mem} (h : Ok μ) (T : RelT μ) {t : Nat} (ht : t < 10) : X6_isMust (40 + t) μ = some (nI (muV μ t)) := by
  have f1 := (T.2.1 1 t (by decide) ht).1
  have b1 : tv μ 1 t ≤ 3 := (T.2.1 1 t (by decide) ht).2.2
  have c0 : (nI (tv μ 1 t) = 0) = (tv μ 1 t = 0) := n_eq (b := 0) (by omega) (by decide)
  have c3 : (nI (tv μ 1 t) = 3) = (tv μ 1 t = 3) := n_eq (b := 3) (by omega) (by decide)
  unfold X6_isMust muV
  simp only [gi_T h ht, f1, Option.bind_some, c0, c3]
  by_cases q : tv μ 1 t = 0
  · rw [if_pos q, if_pos q]
    rfl
  · rw [if_neg q, if_neg q]
    by_cases q3 : tv μ 1 t = 3
    · rw [if_pos q3, if_pos q3]
      rfl
    · rw [if_neg q3, if_neg q3]
      rfl
theorem must_m {μ : Mem} (h : Ok μ) (T : RelT μ) {t : Nat} (ht : t < 10) : X11_isMust 134 (nI t) μ = some (nI (muV μ t)) := by
  have f1 : mI μ 146 t = _ := (T.2.1 1 t (by decide) ht).2.1
  have b1 : tv μ 1 t ≤ 3 := (T.2.1 1 t (by decide) ht).2.2
  have c0 : (nI (tv μ 1 t) = 0) = (tv μ 1 t = 0) := n_eq (b := 0) (by omega) (by decide)
  have c3 : (nI (tv μ 1 t) = 3) = (tv μ 1 t = 3) := n_eq (b := 3) (by omega) (by decide)
  unfold X11_isMust muV
  simp only [r_134_14 h, ai_146 h ht, f1, Option.bind_some, c0, c3]
  by_cases q : tv μ 1 t = 0
  · rw [if_pos q, if_pos q]
    rfl
  · rw [if_neg q, if_neg q]
    by_cases q3 : tv μ 1 t = 3
    · rw [if_pos q3, if_pos q3]
      rfl
    · rw [if_neg q3, if_neg q3]
      rfl
theorem muV_le (μ : Mem) (t : Nat) : muV μ t ≤ 1 := by
  unfold muV
  split
  · exact Nat.le_refl _
  · split <;> omega
/-- done, late, waited, said -/
abbrev TS : Type := Nat × Nat × Int32 × Nat
def goB (μ : Mem) (p u g t done : Nat) : Prop := (bt (nI (tv μ 0 t)) p = 1 ∧ bt (nI done) t = 0) ∧ tv μ 7 t ≤ u ∧ (g = 1 ∨ (muV μ t = 1 ∧ tv μ 6 t = u))
noncomputable def tS (μ : Mem) (p u g t : Nat) (a : TS) : TS := @ite TS (goB μ p u g t a.1) (Classical.propDecidable _) (a.1 ||| 2 ^ t, a.2.1 + (if u ≤ tv μ 6 t then 0 else 1), a.2.2.1 + (nI u - nI (tv μ 7 t)), a.2.2.2 + 1) a
noncomputable def tA (μ : Mem) (p u g : Nat) (a : TS) : Nat → TS
  | 0 => a
  | n + 1 => tS μ p u g n (tA μ p u g a n)
theorem tS_pos {μ : Mem} {p u g t : Nat} {a : TS} (h : goB μ p u g t a.1) : tS μ p u g t a = (a.1 ||| 2 ^ t, a.2.1 + (if u ≤ tv μ 6 t then 0 else 1), a.2.2.1 + (nI u - nI (tv μ 7 t)), a.2.2.2 + 1) := if_pos h
theorem tS_neg {μ : Mem} {p u g t : Nat} {a : TS} (h : ¬ goB μ p u g t a.1) : tS μ p u g t a = a := if_neg h
theorem tA_bd (μ : Mem) (p u g : Nat) (a : TS) (h : a.1 < 2 ^ 10) : ∀ n, n ≤ 10 → (tA μ p u g a n).1 < 2 ^ 10 ∧ a.2.2.2 ≤ (tA μ p u g a n).2.2.2 ∧ (tA μ p u g a n).2.2.2 ≤ a.2.2.2 + n
  | 0, _ => ⟨h, Nat.le_refl _, Nat.le_refl _⟩
  | n + 1, hn => by
    obtain ⟨h1, h2, h3⟩ := tA_bd μ p u g a h n (by omega)
    rw [tA]
    by_cases q : goB μ p u g n (tA μ p u g a n).1
    · rw [tS_pos q]
      exact ⟨or_put_lt h1 (by omega), (by omega : a.2.2.2 ≤ (tA μ p u g a n).2.2.2 + 1), (by omega : (tA μ p u g a n).2.2.2 + 1 ≤ a.2.2.2 + (n + 1))⟩
    · rw [tS_neg q]
      exact ⟨h1, h2, by omega⟩
theorem goB_sm {μ μ' : Mem} (s : Sm μ μ') (p u g t d : Nat) : goB μ' p u g t d = goB μ p u g t d := by
  unfold goB
  rw [tv_sm s (by decide), tv_sm s (by decide), tv_sm s (by decide), muV_sm s]
theorem tA_sm {μ μ' : Mem} (s : Sm μ μ') (p u g : Nat) (a : TS) : ∀ n, tA μ' p u g a n = tA μ p u g a n
  | 0 => rfl
  | n + 1 => by
    rw [tA, tA, tA_sm s p u g a n]
    by_cases q : goB μ p u g n (tA μ p u g a n).1
    · rw [tS_pos q, tS_pos (by rw [goB_sm s]; exact q), tv_sm s (by decide), tv_sm s (by decide)]
    · rw [tS_neg q, tS_neg (by rw [goB_sm s]; exact q)]
/-- the trial's cell holds these -/
def R7 (μ : Mem) (a : TS) (pd : Int32) : Prop := mI μ 107 7 = nI a.1 ∧ mI μ 107 0 = nI a.2.1 ∧ mI μ 107 1 = a.2.2.1 ∧ mI μ 107 3 = nI a.2.2.2 ∧ mI μ 107 2 = pd
theorem left_c {μ : Mem} (h : Ok μ) (T : RelT μ) {t d : Nat} (ht : t < 10) (p : Nat) (hd : mI μ 107 7 = nI d) : X7_isLeft 107 (nI t) (nI p) μ = some (if bt (nI (tv μ 0 t)) p = 0 then 0 else if bt (nI d) t = 0 then 1 else 0) := by
  have f0 := (T.2.1 0 t (by decide) ht).1
  unfold X7_isLeft
  simp only [r_107_6 h, r_37_0 h, ar_things h ht, gi_T h ht, gi_107 h, f0, hd, Option.bind_some, has_z]
  by_cases q : bt (nI (tv μ 0 t)) p = 0
  · rw [if_pos q, if_pos q]
    rfl
  · rw [if_neg q, if_neg q]
    by_cases q2 : bt (nI d) t = 0
    · rw [if_pos q2, if_pos q2]
      rfl
    · rw [if_neg q2, if_neg q2]
      rfl
theorem sayW {μ : Mem} (h : Ok μ) (T : RelT μ) {t u : Nat} (ht : t < 10) (hu : u < 100) {a : TS} {pd : Int32} (r : R7 μ a pd) : ∃ μ', (Onl 107 μ μ' ∧ R7 μ' (a.1 ||| 2 ^ t, a.2.1 + (if u ≤ tv μ 6 t then 0 else 1), a.2.2.1 + (nI u - nI (tv μ 7 t)), a.2.2.2 + 1) pd) ∧ ((gI 7 7 107 μ).bind fun v19 =>
      (pI 7 7 107 (v19 ||| (1 <<< (nI t &&& 31))) μ).bind fun μ20 =>
      (gI 7 3 107 μ20).bind fun v21 =>
      (pI 7 3 107 (v21 + 1) μ20).bind fun μ22 =>
      (gI 7 1 107 μ22).bind fun v23 =>
      (gI 6 7 (40 + t) μ22).bind fun v24 =>
      (pI 7 1 107 (v23 + (nI u - v24)) μ22).bind fun μ25 =>
      (gI 6 6 (40 + t) μ25).bind fun v26 =>
      if nI u ≤ v26 then
      some μ25
      else
      (gI 7 0 107 μ25).bind fun v28 =>
      (pI 7 0 107 (v28 + 1) μ25).bind fun μ29 =>
      some μ29) = some μ' := by
  obtain ⟨r7, r0, r1, r3, r2⟩ := r
  have f7 := (T.2.1 7 t (by decide) ht).1
  have f6 := (T.2.1 6 t (by decide) ht).1
  have b6 : tv μ 6 t ≤ 60 := (T.2.1 6 t (by decide) ht).2.2
  have c6 : (nI u ≤ nI (tv μ 6 t)) = (u ≤ tv μ 6 t) := n_le (by omega) (by omega)
  rw [gi_107 h, r7, Option.bind_some, or_put (by omega), pi_107 h, Option.bind_some, gi_107 h.wI, fld_ne (by omega), r3, Option.bind_some, nI_add1, pi_107 h.wI, Option.bind_some, gi_107 h.wI.wI, fld_ne (by omega), fld_ne (by omega), r1, Option.bind_some, gi_T h.wI.wI ht, row_ne (by omega), row_ne (by omega), f7, Option.bind_some, pi_107 h.wI.wI, Option.bind_some, gi_T h.wI.wI.wI ht, row_ne (by omega), row_ne (by omega), row_ne (by omega), f6, Option.bind_some]
  simp only [c6]
  have on : Onl 107 μ (wI (wI (wI μ 107 7 (nI (a.1 ||| 2 ^ t))) 107 3 (nI (a.2.2.2 + 1))) 107 1 (a.2.2.1 + (nI u - nI (tv μ 7 t)))) := (((Onl.rf h).wI).wI).wI
  by_cases q : u ≤ tv μ 6 t
  · rw [if_pos q, if_pos q]
    refine ⟨_, ⟨on, ?_⟩, rfl⟩
    unfold R7
    simp (disch := omega) only [fld_ne, fld_eq, r0, r2]
    refine ⟨?_, ?_, ?_, ?_, ?_⟩
    all_goals first | rfl | trivial
  · rw [if_neg q, if_neg q, gi_107 h.wI.wI.wI, fld_ne (by omega), fld_ne (by omega), fld_ne (by omega), r0, Option.bind_some, nI_add1, pi_107 h.wI.wI.wI, Option.bind_some]
    refine ⟨_, ⟨on.wI, ?_⟩, rfl⟩
    unfold R7
    simp (disch := omega) only [fld_ne, fld_eq, r2]
    refine ⟨?_, ?_, ?_, ?_, ?_⟩
    all_goals first | rfl | trivial
theorem Onl.T {μ μ' : Mem} (s : Sm μ μ') (T : RelT μ) : RelT μ' := T.cg (s.fld (a := 37) (k := 2) rfl) (s.fld (a := 134) (k := 12) rfl) (fun q hq => s.row (coA_o (by omega))) (fun q hq => s.row (coA_t (by omega))) (nw_le (s.fld (a := 134) (k := 5) rfl))
theorem cor107 (k : Nat) : cor 107 k = false := rfl
theorem say3 {μ : Mem} (h : Ok μ) (T : RelT μ) {p u g : Nat} (hu : u < 100) (hg : g ≤ 1) {a : TS} {pd : Int32} (ha : a.1 < 2 ^ 10) (r : R7 μ a pd) : ∃ μ', (Onl 107 μ μ' ∧ R7 μ' (tA μ p u g a (tn μ)) pd) ∧ X7_sayIn 107 (nI u) (nI p) (nI g) μ = some μ' := by
  have hn := T.1.2.2
  obtain ⟨μ', ⟨P1, P2⟩, e⟩ := loopF (F := fun k (μ' : Mem) i => X7_sayIn_L3 107 (nI u) (nI p) (nI g) k (nI i) μ') (P := fun i μ' => Onl 107 μ μ' ∧ R7 μ' (tA μ p u g a i) pd) (n := tn μ) (r := fun μ' => (nI (tn μ), μ')) (by omega) (fun k μ' i hi P => by
    obtain ⟨on, r⟩ := P
    have s := on.sm cor107
    have o' := on.1
    have T' := Onl.T s T
    have i10 : i < 10 := by omega
    have bd := (tA_bd μ p u g a ha i (by omega)).1
    have f6 := (T'.2.1 6 i (by decide) i10).1
    have f7 := (T'.2.1 7 i (by decide) i10).1
    rw [tv_sm s (by decide)] at f6 f7
    have b6 : tv μ 6 i ≤ 60 := (T.2.1 6 i (by decide) i10).2.2
    have b7 : tv μ 7 i ≤ 60 := (T.2.1 7 i (by decide) i10).2.2
    have c7 : (nI u < nI (tv μ 7 i)) = (u < tv μ 7 i) := n_lt (by omega) (by omega)
    have c6 : (nI u = nI (tv μ 6 i)) = (u = tv μ 6 i) := n_eq (by omega) (by omega)
    have cg : (nI g = 0) = (g = 0) := n_eq (b := 0) (by omega) (by decide)
    have ml := muV_le μ i
    have cm : (nI (muV μ i) = 0) = (muV μ i = 0) := n_eq (b := 0) (by omega) (by decide)
    have ct : mI μ' 37 2 = nI (tn μ) := (s.fld (a := 37) (k := 2) rfl).trans T.1.1
    obtain ⟨μ2, ⟨on2, r2⟩, e2⟩ := sayW o' T' i10 hu r
    rw [tv_sm s (by decide), tv_sm s (by decide)] at r2
    have lf := left_c o' T' i10 p r.1
    rw [tv_sm s (by decide)] at lf
    have mu := must_c o' T' i10
    rw [muV_sm s] at mu
    have bl1 := bt_le (nI (tv μ 0 i)) p
    have bl2 := bt_le (nI (tA μ p u g a i).1) i
    show ∃ a', _ ∧ X7_sayIn_L3 107 (nI u) (nI p) (nI g) (k + 1) (nI i) μ' = _
    rw [X7_sayIn_L3, r_107_6 o', Option.bind_some, gi_37 o', ct, Option.bind_some, if_neg (nI_ge hi (by omega)), Option.bind_some, r_37_0 o', Option.bind_some, ar_things o' i10, Option.bind_some, vo_T o' i10, Option.bind_some, mu, Option.bind_some]
    have ez : ((if nI (muV μ i) = 0 then some 0 else (gI 6 6 (40 + i) μ').bind fun v10 => if nI u = v10 then some 1 else some 0 : Option Int32)) = some (if muV μ i = 1 ∧ tv μ 6 i = u then 1 else 0) := by
      rw [gi_T o' i10, f6, Option.bind_some]
      simp only [c6, cm]
      by_cases m0 : muV μ i = 0
      · rw [if_pos m0, if_neg (by omega)]
      · rw [if_neg m0]
        by_cases m1 : u = tv μ 6 i
        · rw [if_pos m1, if_pos ⟨by omega, m1.symm⟩]
        · rw [if_neg m1, if_neg (fun z => m1 z.2.symm)]
    rw [ez, Option.bind_some, vo_107 o', Option.bind_some, lf, Option.bind_some]
    by_cases gb : goB μ p u g i (tA μ p u g a i).1
    · refine ⟨μ2, ⟨on.tr on2, by rw [tA, tS_pos gb]; exact r2⟩, ?_⟩
      obtain ⟨⟨q1, q2⟩, q3, q4⟩ := gb
      rw [if_neg (show ¬ bt (nI (tv μ 0 i)) p = 0 by omega), if_pos q2, if_neg (by decide), gi_T o' i10, f7, Option.bind_some]
      simp only [c7, cg]
      rw [if_neg (by omega)]
      by_cases g0 : g = 0
      · have qq : muV μ i = 1 ∧ tv μ 6 i = u := by omega
        rw [if_pos g0, if_pos qq, if_neg (by decide), e2, Option.bind_some, nI_add1]
      · rw [if_neg g0, e2, Option.bind_some, nI_add1]
    · refine ⟨μ', ⟨on, by rw [tA, tS_neg gb]; exact r⟩, ?_⟩
      by_cases q1 : bt (nI (tv μ 0 i)) p = 0
      · rw [if_pos q1, if_pos rfl, Option.bind_some, nI_add1]
      · rw [if_neg q1]
        by_cases q2 : bt (nI (tA μ p u g a i).1) i = 0
        · rw [if_pos q2, if_neg (by decide), gi_T o' i10, f7, Option.bind_some]
          simp only [c7, cg]
          by_cases q3 : u < tv μ 7 i
          · rw [if_pos q3, Option.bind_some, nI_add1]
          · rw [if_neg q3]
            by_cases g0 : g = 0
            · by_cases q4 : muV μ i = 1 ∧ tv μ 6 i = u
              · exact absurd ⟨⟨by omega, q2⟩, by omega, Or.inr q4⟩ gb
              · rw [if_pos g0, if_neg q4, if_pos rfl, Option.bind_some, nI_add1]
            · exact absurd ⟨⟨by omega, q2⟩, by omega, Or.inl (by omega)⟩ gb
        · rw [if_neg q2, if_pos rfl, Option.bind_some, nI_add1]) (fun k μ' P => by
    obtain ⟨on, r⟩ := P
    have ct : mI μ' 37 2 = nI (tn μ) := ((on.sm cor107).fld (a := 37) (k := 2) rfl).trans T.1.1
    show X7_sayIn_L3 107 (nI u) (nI p) (nI g) (k + 1) (nI (tn μ)) μ' = _
    rw [X7_sayIn_L3, r_107_6 on.1, Option.bind_some, gi_37 on.1, ct, Option.bind_some, if_pos (nI_le (Nat.le_refl _) (by omega))]) μ ⟨Onl.rf h, r⟩
  have e : X7_sayIn_L3 107 (nI u) (nI p) (nI g) FU 0 μ = _ := e
  refine ⟨μ', ⟨P1, P2⟩, ?_⟩
  unfold X7_sayIn
  rw [e, Option.bind_some]
/-! one tick, all ticks, of the class -/
def gV (μ : Mem) (p u h : Nat) : Nat := if sS μ (odd μ p u 0) < h then 0 else 1
theorem gV_le (μ : Mem) (p u h : Nat) : gV μ p u h ≤ 1 := by
  unfold gV
  split <;> omega
theorem gV_sm {μ μ' : Mem} (s : Sm μ μ') (p u h : Nat) : gV μ' p u h = gV μ p u h := by
  unfold gV
  rw [sS_odd_sm s]
noncomputable def kA (μ : Mem) (p h w : Nat) : Nat → TS × Int32
  | 0 => ((0, 0, 0, 0), 0)
  | u + 1 => (tA μ p u (gV μ p u h) (kA μ p h w u).1 (tn μ), if (tA μ p u (gV μ p u h) (kA μ p h w u).1 (tn μ)).2.2.2 = (kA μ p h w u).1.2.2.2 then (kA μ p h w u).2 else (kA μ p h w u).2 + nI (lsS μ w (odd μ p u 0)))
theorem kA_bd {μ : Mem} (T : RelT μ) (p h w : Nat) : ∀ u, (kA μ p h w u).1.1 < 2 ^ 10 ∧ (kA μ p h w u).1.2.2.2 ≤ 10 * u
  | 0 => ⟨(by decide : (0 : Nat) < 2 ^ 10), Nat.le_refl _⟩
  | u + 1 => by
    obtain ⟨h1, h2⟩ := kA_bd T p h w u
    obtain ⟨q1, q2, q3⟩ := tA_bd μ p u (gV μ p u h) (kA μ p h w u).1 h1 (tn μ) T.1.2.2
    have := T.1.2.2
    rw [kA]
    refine ⟨q1, ?_⟩
    show (tA μ p u (gV μ p u h) (kA μ p h w u).1 (tn μ)).2.2.2 ≤ _
    omega
theorem kA_sm {μ μ' : Mem} (s : Sm μ μ') (p h w : Nat) : ∀ u, kA μ' p h w u = kA μ p h w u
  | 0 => rfl
  | u + 1 => by rw [kA, kA, kA_sm s p h w u, tA_sm s, gV_sm s, tn_sm s, lsS_sm s, show odd μ' p u 0 = odd μ p u 0 from funext (odd_sm s p u 0)]
theorem run28 {μ : Mem} (I : Inv μ) {p h w : Nat} (hp : p < 4) (hh : h ≤ 1000000) (hw : w < 4) (r : R7 μ (0, 0, 0, 0) 0) : ∃ μ', (Sm μ μ' ∧ R7 μ' (kA μ p h w (nw μ)).1 (kA μ p h w (nw μ)).2) ∧ X7_run_L28 107 (nI p) (nI h) (nI w) (nI (nw μ)) FU 0 μ = some (nI (nw μ), μ') := by
  obtain ⟨o, W, C, T, -⟩ := I
  have hn := W.2.2.2.2.2.2.2
  obtain ⟨μ', P, e⟩ := loopF (F := fun k (μ' : Mem) i => X7_run_L28 107 (nI p) (nI h) (nI w) (nI (nw μ)) k (nI i) μ') (P := fun i μ' => Sm μ μ' ∧ R7 μ' (kA μ p h w i).1 (kA μ p h w i).2) (n := nw μ) (r := fun μ' => (nI (nw μ), μ')) (by omega) (fun k μ' i hi P => by
    obtain ⟨s, r⟩ := P
    have o' := s.1
    have W' := W.sm s
    obtain ⟨b1, b2⟩ := kA_bd T p h w i
    obtain ⟨m4, ⟨s4, f4, h4⟩, e4⟩ := look_fr o' W' (p := p) (t := i) (k := 0) hp (by omega) (by omega)
    have s04 := s.tr s4
    have T4 := Onl.T s04 T
    have se := seam_c s4.1 (W'.sm s4) (s := 0) (by decide) (h4 0 (Nat.le_refl _))
    rw [sS_sm s4, sS_odd_sm s] at se
    have r4 : R7 m4 (kA μ p h w i).1 (kA μ p h w i).2 := by
      unfold R7
      rw [f4 107 (by omega)]
      exact r
    obtain ⟨m5, ⟨on5, r5⟩, e5⟩ := say3 s4.1 T4 (p := p) (u := i) (g := gV μ p i h) (by omega) (gV_le μ p i h) b1 r4
    rw [tA_sm s04, tn_sm s04] at r5
    have s5 := on5.sm cor107
    have s05 := s04.tr s5
    have C5 : RelC m5 := by
      refine C.cg (fun q hq => s05.row (coA_4 (by omega) hq)) (s05.row rfl) (s05.row rfl) (s05.row rfl)
    obtain ⟨q1, q2, q3⟩ := tA_bd μ p i (gV μ p i h) (kA μ p h w i).1 b1 (tn μ) T.1.2.2
    have hT := T.1.2.2
    have hs1 : sS μ (odd μ p i 0) ≤ 1000000 := sS_le
    have ls := loss_c s5.1 C5 (w := w) (r := 19) hw (by decide) rfl (f := odd μ p i 0) ((fun q hq => by rw [on5.2.2.2 19 (by decide), h4 0 (Nat.le_refl _) q hq, odd_sm s])) (fun q hq => odd_le hq)
    rw [lsS_sm s05] at ls
    show ∃ a', _ ∧ X7_run_L28 107 (nI p) (nI h) (nI w) (nI (nw μ)) (k + 1) (nI i) μ' = _
    have cg : (if nI (sS μ (odd μ p i 0)) < nI h then (0 : Int32) else 1) = nI (gV μ p i h) := by
      unfold gV
      simp only [n_lt (show sS μ (odd μ p i 0) < 2 ^ 31 by omega) (show h < 2 ^ 31 by omega)]
      split <;> rfl
    rw [X7_run_L28, if_neg (nI_ge hi (by omega)), r_107_4 o', Option.bind_some, vo_1 o', Option.bind_some, show (0 : Int32) = nI 0 from rfl, e4, Option.bind_some, gi_107 s4.1, r4.2.2.2.1, Option.bind_some, r_107_4 s4.1, Option.bind_some, vo_1 s4.1, Option.bind_some, se, Option.bind_some, show nI 0 = (0 : Int32) from rfl, cg, Option.bind_some, vo_107 s4.1, Option.bind_some, e5, Option.bind_some, gi_107 s5.1, r5.2.2.2.1, Option.bind_some]
    by_cases q : (tA μ p i (gV μ p i h) (kA μ p h w i).1 (tn μ)).2.2.2 = (kA μ p h w i).1.2.2.2
    · refine ⟨m5, ⟨s05, ?_⟩, ?_⟩
      · rw [kA, if_pos q]
        exact r5
      · rw [if_pos (nI_le (by omega) (by omega)), Option.bind_some, nI_add1]
    · refine ⟨wI m5 107 2 ((kA μ p h w i).2 + nI (lsS μ w (odd μ p i 0))), ⟨s05.wI rfl, ?_⟩, ?_⟩
      · rw [kA, if_neg q]
        obtain ⟨z1, z2, z3, z4, z5⟩ := r5
        exact ⟨(fld_ne (by omega)).trans z1, (fld_ne (by omega)).trans z2, (fld_ne (by omega)).trans z3, (fld_ne (by omega)).trans z4, fld_eq⟩
      · rw [if_neg (nI_ge (by omega) (by omega)), gi_107 s5.1, r5.2.2.2.2, Option.bind_some, r_107_5 s5.1, Option.bind_some, r_107_4 s5.1, Option.bind_some, r_1_4 s5.1, Option.bind_some, show (0 : Int32) = nI 0 from rfl, ar_ahead s5.1 (by decide), Option.bind_some, vo_30 s5.1, Option.bind_some, ls, Option.bind_some, pi_107 s5.1, Option.bind_some, Option.bind_some, nI_add1]) (fun k μ' P => by
    show X7_run_L28 107 (nI p) (nI h) (nI w) (nI (nw μ)) (k + 1) (nI (nw μ)) μ' = _
    rw [X7_run_L28, if_pos (nI_le (Nat.le_refl _) (by omega))]) μ ⟨Sm.rf o, r⟩
  exact ⟨μ', P, e⟩
/-- LATE ones that were never said -/
def ltB (μ : Mem) (p d t : Nat) : Prop := (bt (nI (tv μ 0 t)) p = 1 ∧ bt (nI d) t = 0) ∧ tv μ 6 t < nw μ
noncomputable def ltA (μ : Mem) (p d l : Nat) : Nat → Nat
  | 0 => l
  | n + 1 => @ite Nat (ltB μ p d n) (Classical.propDecidable _) (ltA μ p d l n + 1) (ltA μ p d l n)
theorem ltA_pos {μ : Mem} {p d l n : Nat} (h : ltB μ p d n) : ltA μ p d l (n + 1) = ltA μ p d l n + 1 := if_pos h
theorem ltA_neg {μ : Mem} {p d l n : Nat} (h : ¬ ltB μ p d n) : ltA μ p d l (n + 1) = ltA μ p d l n := if_neg h
theorem ltA_sm {μ μ' : Mem} (s : Sm μ μ') (p d l : Nat) : ∀ n, ltA μ' p d l n = ltA μ p d l n
  | 0 => rfl
  | n + 1 => by
    have e : ltB μ' p d n = ltB μ p d n := by
      unfold ltB
      rw [tv_sm s (by decide), tv_sm s (by decide), nw_sm s]
    by_cases q : ltB μ p d n
    · rw [ltA_pos q, ltA_pos (by rw [e]; exact q), ltA_sm s p d l n]
    · rw [ltA_neg q, ltA_neg (by rw [e]; exact q), ltA_sm s p d l n]
theorem run120 {μ : Mem} (I : Inv μ) {p : Nat} {a : TS} {pd : Int32} (ha : a.1 < 2 ^ 10) (r : R7 μ a pd) : ∃ μ', (Sm μ μ' ∧ R7 μ' (a.1, ltA μ p a.1 a.2.1 (tn μ), a.2.2) pd) ∧ X7_run_L120 107 (nI p) (nI (nw μ)) FU 0 μ = some (nI (tn μ), μ') := by
  obtain ⟨o, W, C, T, -⟩ := I
  have hn := W.2.2.2.2.2.2.2
  have hT := T.1.2.2
  obtain ⟨μ', P, e⟩ := loopF (F := fun k (μ' : Mem) i => X7_run_L120 107 (nI p) (nI (nw μ)) k (nI i) μ') (P := fun i μ' => Sm μ μ' ∧ R7 μ' (a.1, ltA μ p a.1 a.2.1 i, a.2.2) pd) (n := tn μ) (r := fun μ' => (nI (tn μ), μ')) (by omega) (fun k μ' i hi P => by
    obtain ⟨s, r⟩ := P
    have o' := s.1
    have T' := Onl.T s T
    have i10 : i < 10 := by omega
    have f6 := (T'.2.1 6 i (by decide) i10).1
    rw [tv_sm s (by decide)] at f6
    have b6 : tv μ 6 i ≤ 60 := (T.2.1 6 i (by decide) i10).2.2
    have c6 : (nI (nw μ) ≤ nI (tv μ 6 i)) = (nw μ ≤ tv μ 6 i) := n_le (by omega) (by omega)
    have ct : mI μ' 37 2 = nI (tn μ) := (s.fld (a := 37) (k := 2) rfl).trans T.1.1
    have lf := left_c o' T' i10 p r.1
    rw [tv_sm s (by decide)] at lf
    have bl1 := bt_le (nI (tv μ 0 i)) p
    show ∃ a', _ ∧ X7_run_L120 107 (nI p) (nI (nw μ)) (k + 1) (nI i) μ' = _
    rw [X7_run_L120, r_107_6 o', Option.bind_some, gi_37 o', ct, Option.bind_some, if_neg (nI_ge hi (by omega)), vo_107 o', Option.bind_some, lf, Option.bind_some]
    by_cases gb : ltB μ p a.1 i
    · refine ⟨wI μ' 107 0 (nI (ltA μ p a.1 a.2.1 i + 1)), ⟨s.wI rfl, ?_⟩, ?_⟩
      · rw [ltA_pos gb]
        obtain ⟨z1, z2, z3, z4, z5⟩ := r
        exact ⟨(fld_ne (by omega)).trans z1, fld_eq, (fld_ne (by omega)).trans z3, (fld_ne (by omega)).trans z4, (fld_ne (by omega)).trans z5⟩
      · obtain ⟨⟨q1, q2⟩, q3⟩ := gb
        rw [if_neg (show ¬ bt (nI (tv μ 0 i)) p = 0 by omega), if_pos (show bt (nI (a.1, ltA μ p a.1 a.2.1 i, a.2.2).1) i = 0 from q2), if_neg (by decide), Option.bind_some, r_37_0 o', Option.bind_some, ar_things o' i10, Option.bind_some, gi_T o' i10, f6, Option.bind_some]
        simp only [c6]
        rw [if_neg (by omega), gi_107 o', r.2.1, Option.bind_some, nI_add1, pi_107 o', Option.bind_some, Option.bind_some, nI_add1]
    · refine ⟨μ', ⟨s, by rw [ltA_neg gb]; exact r⟩, ?_⟩
      by_cases q1 : bt (nI (tv μ 0 i)) p = 0
      · rw [if_pos q1, if_pos rfl, Option.bind_some, nI_add1]
      · rw [if_neg q1]
        by_cases q2 : bt (nI (a.1, ltA μ p a.1 a.2.1 i, a.2.2).1) i = 0
        · rw [if_pos q2, if_neg (by decide), Option.bind_some, r_37_0 o', Option.bind_some, ar_things o' i10, Option.bind_some, gi_T o' i10, f6, Option.bind_some]
          simp only [c6]
          by_cases q3 : nw μ ≤ tv μ 6 i
          · rw [if_pos q3, Option.bind_some, nI_add1]
          · exact absurd ⟨⟨by omega, q2⟩, by omega⟩ gb
        · rw [if_neg q2, if_pos rfl, Option.bind_some, nI_add1]) (fun k μ' P => by
    obtain ⟨s, r⟩ := P
    have ct : mI μ' 37 2 = nI (tn μ) := (s.fld (a := 37) (k := 2) rfl).trans T.1.1
    show X7_run_L120 107 (nI p) (nI (nw μ)) (k + 1) (nI (tn μ)) μ' = _
    rw [X7_run_L120, r_107_6 s.1, Option.bind_some, gi_37 s.1, ct, Option.bind_some, if_pos (nI_le (Nat.le_refl _) (by omega))]) μ ⟨Sm.rf o, r⟩
  exact ⟨μ', P, e⟩
