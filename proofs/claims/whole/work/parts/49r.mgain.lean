/-! ===== gains, of the reference ===== -/
theorem oV_m {μ ν : Mem} (I : Inv μ) (s : Sm μ ν) {p t k : Nat} (hp : p < 4) (ht : t < 10) (hk : k ≤ 8) : ∃ ν', (Sm μ ν' ∧ FRm ν ν') ∧ X11_valueOf 134 (nI t) (nI p) (nI k) ν = some (nI (vW μ t k (sS μ (odd μ p (nw μ) k))), ν') := by
  have Iν := I.sm s
  obtain ⟨ν', ⟨s', f'⟩, e⟩ := val_fr Iν.1 Iν.2.1 Iν.2.2.2.1 (p := p) (t := t) (k := k) hp ht hk
  rw [valV_sm s, nw_sm s, sS_odd_sm s, (vW_ok I.2.2.2.1 ht hk sS_le I.2.1.2.2.2.2.2.2.2).1] at e
  exact ⟨ν', ⟨s.tr s', f'⟩, e⟩
def Fm (ν ν' : Mem) : Prop := ∀ a, ¬ (141 ≤ a ∧ a ≤ 144) → mI ν' a = mI ν a
theorem PKm.fm {μ ν ν' : Mem} {p : Nat} (h : PKm μ p ν) (f : Fm ν ν') : PKm μ p ν' := by
  unfold PKm
  rw [f 134 (by omega), f 166 (by omega)]
  exact h
theorem gain60 {μ ν : Mem} (I : Inv μ) {p st x : Nat} (hp : p < 4) (hst : st < 6) (hx : x < 64) (s : Sm μ ν) (pk : PKm μ p ν) (x4 x5 : Int32) : ∃ ν', (Sm μ ν' ∧ Fm ν ν') ∧ X11_findGain_L60 134 (nI p) (nI st) (nI x) x4 x5 FU 0 0 ν = some (nI (vs μ p st x (pK μ p)), nI (pK μ p), ν') := by
  have I0 := I
  obtain ⟨o, W, C, T, S, X, L⟩ := I
  have hn := W.2.2.2.2.2.2.2
  have hT := T.1.2.2
  have hK := pK_le μ p
  obtain ⟨b, ⟨P1, P2, P3⟩, e⟩ := loopF (F := fun m (b : Nat × Mem) i => X11_findGain_L60 134 (nI p) (nI st) (nI x) x4 x5 m (nI b.1) (nI i) b.2) (P := fun i b => b.1 = vs μ p st x i ∧ Sm μ b.2 ∧ Fm ν b.2) (n := pK μ p) (r := fun b => (nI b.1, nI (pK μ p), b.2)) (by omega) (fun m b i hi P => by
    obtain ⟨a, ν1⟩ := b
    obtain ⟨rfl, s1, f1⟩ : a = vs μ p st x i ∧ Sm μ ν1 ∧ Fm ν ν1 := P
    have o1 := s1.1
    have pk1 := pk.fm f1
    have ti := pA_lt hi
    have t10 : pA μ p i < 10 := by omega
    obtain ⟨ν2, ⟨s2, f2⟩, e2⟩ := oV_m I0 s1 (p := p) (t := pA μ p i) (k := st) hp t10 (by omega)
    have T2 := Onl.T s2 T
    have mu := must_m s2.1 T2 t10
    rw [muV_sm s2] at mu
    have ml := muV_le μ (pA μ p i)
    have cm : (nI (muV μ (pA μ p i)) = 0) = (muV μ (pA μ p i) = 0) := n_eq (b := 0) (by omega) (by decide)
    have f6 : mI ν2 151 (pA μ p i) = nI (tv μ 6 (pA μ p i)) := by rw [s2.row (a := 151) rfl]; exact (T.2.1 6 _ (by decide) t10).2.1
    have b6 : tv μ 6 (pA μ p i) ≤ 60 := (T.2.1 6 _ (by decide) t10).2.2
    have w5 : mI ν2 134 5 = nI (nw μ) := (s2.fld (a := 134) (k := 5) rfl).trans W.2.2.2.2.2.2.1
    have c6 : (nI (tv μ 6 (pA μ p i)) < nI (nw μ + st)) = (tv μ 6 (pA μ p i) < nw μ + st) := n_lt (by omega) (by omega)
    refine ⟨(vs μ p st x (i + 1), ν2), ⟨rfl, s2, fun a q => (f2.2 a q).trans (f1 a q)⟩, ?_⟩
    show X11_findGain_L60 134 (nI p) (nI st) (nI x) x4 x5 (m + 1) (nI (vs μ p st x i)) (nI i) ν1 = X11_findGain_L60 134 (nI p) (nI st) (nI x) x4 x5 m (nI (vs μ p st x (i + 1))) (nI (i + 1)) ν2
    have eb : ((if nI (muV μ (pA μ p i)) = 0 then some 0 else (gI 11 5 134 ν2).bind fun v10 => (gR 11 19 134 ν2).bind fun v11 => (aI v11 (nI (pA μ p i)) ν2).bind fun v12 => if v12 < v10 + nI st then some 0 else some 2000 : Option Int32)) = some (nI (if muV μ (pA μ p i) = 1 ∧ nw μ + st ≤ tv μ 6 (pA μ p i) then 2000 else 0)) := by
      rw [gi_134 s2.1, w5, Option.bind_some, r_134_19 s2.1, Option.bind_some, ai_151 s2.1 t10, f6, Option.bind_some, nI_add]
      simp only [cm, c6]
      by_cases q1 : muV μ (pA μ p i) = 0
      · rw [if_pos q1, if_neg (by omega)]
        rfl
      · rw [if_neg q1]
        by_cases q2 : tv μ 6 (pA μ p i) < nw μ + st
        · rw [if_pos q2, if_neg (by omega)]
          rfl
        · rw [if_neg q2, if_pos (by omega)]
          rfl
    rw [X11_findGain_L60, gi_134 o1, pk1.1, Option.bind_some, if_neg (nI_ge hi (by omega)), r_134_40 o1, Option.bind_some, ai_166 o1 (by omega), pk1.2 i hi, Option.bind_some, vo_134 o1, Option.bind_some, e2, Option.bind_some, vo_134 s2.1, Option.bind_some, mu, Option.bind_some]
    rw [eb, Option.bind_some, nI_add, Option.bind_some, Option.bind_some, Option.bind_some, nI_add1, vs]
    simp only [bt_1, bt_t1 (show x < 2 ^ 31 by omega) (show i < 31 by omega)]
    by_cases q : x.testBit i = true
    · rw [if_pos q, if_pos q, nI_add]
      rfl
    · rw [if_neg q, if_neg q, Int32.add_zero]) (fun m b P => by
    have pk1 := pk.fm P.2.2
    show X11_findGain_L60 134 (nI p) (nI st) (nI x) x4 x5 (m + 1) (nI b.1) (nI (pK μ p)) b.2 = _
    rw [X11_findGain_L60, gi_134 P.2.1.1, pk1.1, Option.bind_some, if_pos (nI_le (Nat.le_refl _) (by omega))]) (0, ν) ⟨rfl, s, fun _ _ => rfl⟩
  refine ⟨b.2, ⟨P2, P3⟩, ?_⟩
  rw [← P1]
  exact e
/-- the reference's gain and way beside the class's -/
def RI (rg rw' : Int32) (c : Nat × Int32) : Prop := (rw' = -1 ∧ rg = -1000000000 ∧ c.1 = 0 ∧ c.2 = -1) ∨ (∃ w a b, w < 4 ∧ rw' = nI w ∧ rg = nI a - nI b ∧ a ≤ b ∧ b ≤ 3996 ∧ c.1 = 0 ∧ c.2 = -1) ∨ (∃ w, w < 4 ∧ rw' = nI w ∧ c.2 = nI w ∧ rg = nI c.1 ∧ 0 < c.1)
theorem gg_le {a b c d : Nat} (ha : a < 2 ^ 20) (hb : b < 2 ^ 20) (hc : c < 2 ^ 20) (hd : d < 2 ^ 20) : (nI a - nI b ≤ nI c - nI d) = (a + d ≤ c + b) := by
  refine propext ?_
  rw [Int32.le_iff_toInt_le, pk_sub_toInt (by omega) (by omega), pk_sub_toInt (by omega) (by omega)]
  omega
theorem gain151 {μ ν : Mem} (I : Inv μ) {p st x : Nat} (hp : p < 4) (hst : st < 6) (hx : x < 64) (s : Sm μ ν) (kb : rS μ p x &&& kT μ p (nw μ + st) (tn μ) = 0) (g0 : mI ν 168 (64 * st + x) = -1000000000) (w0 : mI ν 169 (64 * st + x) = -1) : ∃ ν' z, (Sm μ ν' ∧ (∀ a, ¬ (141 ≤ a ∧ a ≤ 144) → a ≠ 168 → a ≠ 169 → mI ν' a = mI ν a) ∧ (∀ a j, a = 168 ∨ a = 169 → j ≠ 64 * st + x → mI ν' a j = mI ν a j) ∧ RI (mI ν' 168 (64 * st + x)) (mI ν' 169 (64 * st + x)) (cF μ p st x 4)) ∧ X11_findGain_L151 134 (nI p) (nI st) (nI (rS μ p x)) (nI (64 * st + x)) (nI (vs μ p st x (pK μ p))) FU 0 ν = some (z, ν') := by
  have I0 := I
  obtain ⟨o, W, C, T, S, X, L⟩ := I
  have hn := W.2.2.2.2.2.2.2
  have hix : 64 * st + x < 384 := by omega
  obtain ⟨ν', P, e⟩ := loopF (F := fun m (ν' : Mem) i => X11_findGain_L151 134 (nI p) (nI st) (nI (rS μ p x)) (nI (64 * st + x)) (nI (vs μ p st x (pK μ p))) m (nI i) ν') (P := fun i ν' => Sm μ ν' ∧ (∀ a, ¬ (141 ≤ a ∧ a ≤ 144) → a ≠ 168 → a ≠ 169 → mI ν' a = mI ν a) ∧ (∀ a j, a = 168 ∨ a = 169 → j ≠ 64 * st + x → mI ν' a j = mI ν a j) ∧ RI (mI ν' 168 (64 * st + x)) (mI ν' 169 (64 * st + x)) (cF μ p st x i)) (n := 4) (r := fun ν' => (nI 4, ν')) (by decide) (fun m ν1 i hi P => by
    obtain ⟨s1, f1, j1, ri⟩ := P
    have o1 := s1.1
    have I1 := I0.sm s1
    have e155 : mI ν1 155 i = nI (sn μ i) := by rw [s1.row (a := 155) rfl]; exact (C.2 i hi).2.1
    have w5 : mI ν1 134 5 = nI (nw μ) := (s1.fld (a := 134) (k := 5) rfl).trans W.2.2.2.2.2.2.1
    have va := vs_le I0 (p := p) (st := st) (by omega) x (pK μ p) (Nat.le_refl _)
    have hK := pK_le μ p
    have vb := (C.2 i hi).2.2
    have vm : vs μ p st x (pK μ p) * sn μ i ≤ 17994 * 100 := Nat.mul_le_mul (by omega) vb
    have vl := lw_le C (p := p) (st := st) hi
    have ga := gA_le I0 (p := p) (st := st) (x := x) (by omega) hi
    have cl := cF_le I0 (p := p) (st := st) (x := x) (by omega) i (by omega)
    obtain ⟨ν2, s2, e2⟩ := loss_m o1 I1.2.1 I1.2.2.1 (p := p) (t := nw μ) (k := st) (w := i) hp (by omega) (by omega) hi
    have fr2 := (fr_loss e2 o1).2
    rw [lsS_sm s1, show odd ν1 p (nw μ) st = odd μ p (nw μ) st from funext (odd_sm s1 p (nw μ) st)] at e2
    have e2 : X11_lossOf 134 (nI p) (nI i) (nI (nw μ)) (nI st) ν1 = some (nI (lw μ p st i), ν2) := e2
    have s02 := s1.tr s2
    have I2 := I0.sm s02
    have al := areAl_m s02.1 I2.2.2.2.1 I2.2.2.2.2.2.2 (p := p) (set := rS μ p x) hp (by rw [tn_sm s02]; exact rS_lt μ p x)
    rw [tn_sm s02, aT_sm s02] at al
    have al : X11_areAlways 134 (nI p) (nI (rS μ p x)) ν2 = some (b01 (aw μ p x)) := al
    obtain ⟨ν3, ⟨s3, fr3⟩, e3⟩ := wayB_m I2.m (p := p) (way := i) (k := st) hp hi (by omega)
    rw [nw_sm s02, lc_sm s02, bW_sm s02, show odd ν2 p (nw μ) st = odd μ p (nw μ) st from funext (odd_sm s02 p (nw μ) st)] at e3
    -- whether the way is let, and the memory then
    have lt : ∃ ν4, Sm μ ν4 ∧ Fm ν1 ν4 ∧ ((if b01 (aw μ p x) = 0 then (vO 11 134 ν2).bind fun g12 => (X11_isWayBarred 134 (nI p) (nI i) (nI st) ν2).bind fun z13 => if z13.1 = 0 then some ((1, z13.2)) else some ((0, z13.2)) else some ((1, ν2)) : Option (Int32 × Mem))) = some (b01 (okW μ p st x i), ν4) := by
      simp only [b01_z]
      unfold okW
      rw [decide_eq_true kb, Bool.true_and]
      cases qa : aw μ p x
      · refine ⟨ν3, s02.tr s3, fun a q => (fr3 a q).trans (fr2 a q), ?_⟩
        rw [if_pos rfl, vo_134 s02.1, Option.bind_some, e3, Option.bind_some, Bool.false_or]
        simp only [b01_z]
        cases (bW μ p (odd μ p (nw μ) st) (lc μ p)).testBit i
        · rw [if_pos rfl]
          rfl
        · rw [if_neg (by decide)]
          rfl
      · refine ⟨ν2, s02, fun a q => fr2 a q, ?_⟩
        rw [if_neg (by decide), Bool.true_or]
        rfl
    obtain ⟨ν4, s4, f4, e4⟩ := lt
    rw [vo_134 s02.1] at e4
    have o4 := s4.1
    have g4 : mI ν4 168 = mI ν1 168 := f4 168 (by omega)
    have w4 : mI ν4 169 = mI ν1 169 := f4 169 (by omega)
    show ∃ a', _ ∧ X11_findGain_L151 134 (nI p) (nI st) (nI (rS μ p x)) (nI (64 * st + x)) (nI (vs μ p st x (pK μ p))) (m + 1) (nI i) ν1 = _
    rw [X11_findGain_L151, if_neg (ge4 hi), r_134_23 o1, Option.bind_some, ai_155 o1 hi, e155, Option.bind_some, pk_mul, show (100 : Int32) = nI 100 from rfl, dvI_eq (by omega) (by decide) (by decide), Option.bind_some, gi_134 o1, w5, Option.bind_some, vo_134 o1, Option.bind_some, e2, Option.bind_some, Option.bind_some, vo_134 s02.1, Option.bind_some, al, Option.bind_some]
    rw [e4, Option.bind_some]
    simp only [b01_z]
    have keep : RI (mI ν4 168 (64 * st + x)) (mI ν4 169 (64 * st + x)) (cF μ p st x (i + 1)) → ∃ a', (Sm μ a' ∧ (∀ a, ¬ (141 ≤ a ∧ a ≤ 144) → a ≠ 168 → a ≠ 169 → mI a' a = mI ν a) ∧ (∀ a j, a = 168 ∨ a = 169 → j ≠ 64 * st + x → mI a' a j = mI ν a j) ∧ RI (mI a' 168 (64 * st + x)) (mI a' 169 (64 * st + x)) (cF μ p st x (i + 1))) ∧ ((some ν4 : Option Mem).bind fun z24 => X11_findGain_L151 134 (nI p) (nI st) (nI (rS μ p x)) (nI (64 * st + x)) (nI (vs μ p st x (pK μ p))) m (nI i + 1) z24) = X11_findGain_L151 134 (nI p) (nI st) (nI (rS μ p x)) (nI (64 * st + x)) (nI (vs μ p st x (pK μ p))) m (nI (i + 1)) a' := fun h => by
      refine ⟨ν4, ⟨s4, fun a q1 q2 q3 => (f4 a q1).trans (f1 a q1 q2 q3), fun a j ha hj => ?_, h⟩, by rw [Option.bind_some, nI_add1]⟩
      rw [f4 a (by omega)]
      exact j1 a j ha hj
    by_cases y : okW μ p st x i = true
    · have y' : ¬ okW μ p st x i = false := by rw [y]; decide
      rw [if_neg y', r_134_43 o4, Option.bind_some, ai_168 o4 hix, g4, Option.bind_some, Option.bind_some, si_168 o4 hix, Option.bind_some, r_134_44 o4.wI, Option.bind_some, si_169 o4.wI hix, Option.bind_some]
      have put : RI (nI (vs μ p st x (pK μ p) * sn μ i / 100) - nI (lw μ p st i)) (nI i) (cF μ p st x (i + 1)) → ∃ a', (Sm μ a' ∧ (∀ a, ¬ (141 ≤ a ∧ a ≤ 144) → a ≠ 168 → a ≠ 169 → mI a' a = mI ν a) ∧ (∀ a j, a = 168 ∨ a = 169 → j ≠ 64 * st + x → mI a' a j = mI ν a j) ∧ RI (mI a' 168 (64 * st + x)) (mI a' 169 (64 * st + x)) (cF μ p st x (i + 1))) ∧ ((some (wI (wI ν4 168 (64 * st + x) (nI (vs μ p st x (pK μ p) * sn μ i / 100) - nI (lw μ p st i))) 169 (64 * st + x) (nI i)) : Option Mem).bind fun z24 => X11_findGain_L151 134 (nI p) (nI st) (nI (rS μ p x)) (nI (64 * st + x)) (nI (vs μ p st x (pK μ p))) m (nI i + 1) z24) = X11_findGain_L151 134 (nI p) (nI st) (nI (rS μ p x)) (nI (64 * st + x)) (nI (vs μ p st x (pK μ p))) m (nI (i + 1)) a' := fun h => by
        refine ⟨wI (wI ν4 168 (64 * st + x) (nI (vs μ p st x (pK μ p) * sn μ i / 100) - nI (lw μ p st i))) 169 (64 * st + x) (nI i), ⟨(s4.wI (corM (by decide) _)).wI (corM (by decide) _), fun a q1 q2 q3 => ?_, fun a j ha hj => ?_, ?_⟩, by rw [Option.bind_some, nI_add1]⟩
        · rw [row_ne q3, row_ne q2]
          exact (f4 a q1).trans (f1 a q1 q2 q3)
        · rw [fld_ne (by omega), fld_ne (by omega), f4 a (by omega)]
          exact j1 a j ha hj
        · rw [row_ne (a := 169) (b := 168) (by decide), fld_eq, fld_eq]
          exact h
      have egA : gA μ p st x i = vs μ p st x (pK μ p) * sn μ i / 100 - lw μ p st i := rfl
      rcases ri with ⟨r1, r2, r3, r4⟩ | ⟨w, a, b, hw, r1, r2, ab, b4, r3, r4⟩ | ⟨w, hw, r1, r4, r2, r3⟩
      · -- none so far
        rw [r2, if_neg (by
          rw [Int32.le_iff_toInt_le, pk_sub_toInt (by omega) (by omega)]
          have : (-1000000000 : Int32).toInt = -1000000000 := rfl
          omega)]
        refine put ?_
        rw [cF]
        by_cases z : lw μ p st i < vs μ p st x (pK μ p) * sn μ i / 100
        · rw [if_pos ⟨y, by rw [r3, egA]; omega⟩]
          exact Or.inr (Or.inr ⟨i, hi, rfl, rfl, by rw [pk_sub (by omega)]; rfl, by rw [egA]; omega⟩)
        · rw [if_neg (fun w => by have := w.2; rw [egA] at this; omega)]
          exact Or.inr (Or.inl ⟨i, _, _, hi, rfl, rfl, by omega, vl, r3, r4⟩)
      · rw [r2]
        simp only [gg_le (show vs μ p st x (pK μ p) * sn μ i / 100 < 2 ^ 20 by omega) (show lw μ p st i < 2 ^ 20 by omega) (show a < 2 ^ 20 by omega) (show b < 2 ^ 20 by omega)]
        by_cases z : vs μ p st x (pK μ p) * sn μ i / 100 + b ≤ a + lw μ p st i
        · rw [if_pos z]
          refine keep ?_
          rw [g4, w4, cF, if_neg (fun w => by have := w.2; rw [egA] at this; omega)]
          exact Or.inr (Or.inl ⟨w, a, b, hw, r1, r2, ab, b4, r3, r4⟩)
        · rw [if_neg z]
          refine put ?_
          rw [cF]
          by_cases z2 : lw μ p st i < vs μ p st x (pK μ p) * sn μ i / 100
          · rw [if_pos ⟨y, by rw [r3, egA]; omega⟩]
            exact Or.inr (Or.inr ⟨i, hi, rfl, rfl, by rw [pk_sub (by omega)]; rfl, by rw [egA]; omega⟩)
          · rw [if_neg (fun w => by have := w.2; rw [egA] at this; omega)]
            exact Or.inr (Or.inl ⟨i, _, _, hi, rfl, rfl, by omega, vl, r3, r4⟩)
      · rw [r2]
        simp only [gn_le (show vs μ p st x (pK μ p) * sn μ i / 100 < 2 ^ 20 by omega) (show lw μ p st i < 2 ^ 20 by omega) (show (cF μ p st x i).1 < 2 ^ 20 by omega)]
        by_cases z : (cF μ p st x i).1 < vs μ p st x (pK μ p) * sn μ i / 100 - lw μ p st i
        · rw [if_neg (fun w => w z)]
          refine put ?_
          rw [cF, if_pos ⟨y, z⟩]
          exact Or.inr (Or.inr ⟨i, hi, rfl, rfl, by rw [pk_sub (by omega)]; rfl, by rw [egA]; omega⟩)
        · rw [if_pos z]
          refine keep ?_
          rw [g4, w4, cF, if_neg (fun w => z w.2)]
          exact Or.inr (Or.inr ⟨w, hw, r1, r4, r2, r3⟩)
    · have y' : okW μ p st x i = false := by
        cases q : okW μ p st x i
        · rfl
        · exact absurd q y
      rw [if_pos y']
      refine keep ?_
      rw [g4, w4, cF, if_neg (fun w => y w.1)]
      exact ri) (fun m ν' P => by
    show X11_findGain_L151 134 (nI p) (nI st) (nI (rS μ p x)) (nI (64 * st + x)) (nI (vs μ p st x (pK μ p))) (m + 1) (nI 4) ν' = _
    rw [X11_findGain_L151, if_pos (by decide)]) ν ⟨s, fun _ _ _ _ => rfl, fun _ _ _ _ => rfl, Or.inl ⟨w0, g0, rfl, rfl⟩⟩
  exact ⟨ν', _, P, e⟩
theorem gain_m {μ ν : Mem} (I : Inv μ) {p st x : Nat} (hp : p < 4) (hst : st < 6) (hx0 : x ≠ 0) (hx : x < 2 ^ pK μ p) (s : Sm μ ν) (pk : PKm μ p ν) : ∃ ν', (Sm μ ν' ∧ (∀ a, ¬ (141 ≤ a ∧ a ≤ 144) → a ≠ 168 → a ≠ 169 → mI ν' a = mI ν a) ∧ (∀ a j, a = 168 ∨ a = 169 → j ≠ 64 * st + x → mI ν' a j = mI ν a j) ∧ RI (mI ν' 168 (64 * st + x)) (mI ν' 169 (64 * st + x)) (cGW μ p st x)) ∧ X11_findGain 134 (nI p) (nI st) (nI x) ν = some ν' := by
  have I0 := I
  obtain ⟨o, W, C, T, S, X, L⟩ := I
  have hT := T.1.2.2
  have hK := pK_le μ p
  have x64 : x < 64 := Nat.lt_of_lt_of_le hx (show 2 ^ pK μ p ≤ 2 ^ 6 from Nat.pow_le_pow_right (by decide) hK)
  have hix : 64 * st + x < 384 := by omega
  have oν := s.1
  have hs10 : rS μ p x < 2 ^ 10 := Nat.lt_of_lt_of_le (rS_lt μ p x) (Nat.pow_le_pow_right (by decide) hT)
  have ⟨ν1, e1⟩ : ∃ m, m = wI (wI ν 169 (64 * st + x) (-1)) 168 (64 * st + x) (-1000000000) := ⟨_, rfl⟩
  have s1 : Sm μ ν1 := by
    rw [e1]
    exact (s.wI (corM (by decide) _)).wI (corM (by decide) _)
  have f1 : ∀ a, a ≠ 168 → a ≠ 169 → mI ν1 a = mI ν a := fun a q1 q2 => by rw [e1, row_ne q1, row_ne q2]
  have j1 : ∀ a j, j ≠ 64 * st + x → mI ν1 a j = mI ν a j := fun a j hj => by rw [e1, fld_ne (by omega), fld_ne (by omega)]
  have g1 : mI ν1 168 (64 * st + x) = -1000000000 := by rw [e1, fld_eq]
  have w1 : mI ν1 169 (64 * st + x) = -1 := by rw [e1, row_ne (by decide), fld_eq]
  have pk1 : PKm μ p ν1 := by
    unfold PKm
    rw [f1 134 (by decide) (by decide), f1 166 (by decide) (by decide)]
    exact pk
  have I1 := I0.sm s1
  have om := oneM_m (set := rS μ p x) s1.1 I1.2.2.2.1 hs10
  rw [tn_sm s1, isM_sm s1] at om
  have kb := kindB_m I1.m (p := p) (set := rS μ p x) (k := st) hp (by omega) hs10
  rw [tn_sm s1, nw_sm s1, kT_sm s1] at kb
  unfold X11_findGain
  rw [vo_134 oν, Option.bind_some, setOf_m hT oν pk x64, Option.bind_some, show (64 : Int32) = nI 64 from rfl, pk_mul, nI_add, Option.bind_some, r_134_44 oν, Option.bind_some, si_169 oν hix, Option.bind_some, r_134_43 oν.wI, Option.bind_some, si_168 oν.wI hix, Option.bind_some, ← e1, vo_134 s1.1, Option.bind_some, om, Option.bind_some]
  simp only [b01_z]
  have stop : cGW μ p st x = (0, -1) → ∃ ν', (Sm μ ν' ∧ (∀ a, ¬ (141 ≤ a ∧ a ≤ 144) → a ≠ 168 → a ≠ 169 → mI ν' a = mI ν a) ∧ (∀ a j, a = 168 ∨ a = 169 → j ≠ 64 * st + x → mI ν' a j = mI ν a j) ∧ RI (mI ν' 168 (64 * st + x)) (mI ν' 169 (64 * st + x)) (cGW μ p st x)) ∧ some ν1 = some ν' := fun h => by
    refine ⟨ν1, ⟨s1, fun a _ q2 q3 => f1 a q2 q3, fun a j _ hj => j1 a j hj, ?_⟩, rfl⟩
    rw [h]
    exact Or.inl ⟨w1, g1, rfl, rfl⟩
  by_cases z1 : isM μ (rS μ p x) (tn μ) = false
  · rw [if_pos z1]
    rw [one_eq T hx0 hx] at z1
    exact stop (by unfold cGW; rw [if_pos z1])
  · rw [if_neg z1, Option.bind_some, kb, Option.bind_some]
    rw [one_eq T hx0 hx] at z1
    simp only [b01_z, decide_eq_false_iff_not, Decidable.not_not]
    by_cases z2 : rS μ p x &&& kT μ p (nw μ + st) (tn μ) = 0
    · rw [if_pos z2]
      obtain ⟨ν2, ⟨s2, f2⟩, e2⟩ := gain60 I0 hp hst x64 s1 pk1 (nI (rS μ p x)) (nI (64 * st + x))
      obtain ⟨ν3, zz', ⟨s3, f3, j3, ri⟩, e3⟩ := gain151 I0 hp hst x64 s2 z2 (by rw [f2 168 (by omega)]; exact g1) (by rw [f2 169 (by omega)]; exact w1)
      rw [e2, Option.bind_some, e3, Option.bind_some]
      refine ⟨ν3, ⟨s3, fun a q1 q2 q3 => ?_, fun a j ha hj => ?_, ?_⟩, rfl⟩
      · rw [f3 a q1 q2 q3, f2 a q1, f1 a q2 q3]
      · rw [j3 a j ha hj, f2 a (by omega), j1 a j hj]
      · unfold cGW
        rw [if_neg z1]
        exact ri
    · rw [if_neg z2]
      refine stop ?_
      unfold cGW
      rw [if_neg z1]
      have : ∀ w, cF μ p st x w = (0, -1) := fun w => by
        induction w with
        | zero => rfl
        | succ w ih =>
          rw [cF, if_neg (fun v => by
            have := v.1
            unfold okW at this
            rw [decide_eq_false z2, Bool.false_and] at this
            cases this)]
          exact ih
      exact this 4
