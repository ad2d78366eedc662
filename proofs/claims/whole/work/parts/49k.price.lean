/-! ===== what a set gains in a step ===== -/
def vW (μ : Mem) (t k s : Nat) : Nat := vN (valV μ t k s)
theorem vW_ok {μ : Mem} (T : RelT μ) {t k s : Nat} (ht : t < 10) (hk : k ≤ 8) (hs : s ≤ 1000000) (hn : nw μ ≤ 60) : valV μ t k s = nI (vW μ t k s) ∧ vW μ t k s ≤ 999 := by
  have b4 : tv μ 4 t ≤ 999 := (T.2.1 4 t (by decide) ht).2.2
  have b5 : tv μ 5 t ≤ 99 := (T.2.1 5 t (by decide) ht).2.2
  have b7 := T.2.2.1 t ht
  have e : ∀ c : Int32, (∃ v, v ≤ 999 ∧ c = nI v) → c = nI (vN c) ∧ vN c ≤ 999 := fun c ⟨v, hv, ec⟩ => by
    rw [ec, vN_nI (by omega)]
    exact ⟨rfl, hv⟩
  unfold vW
  apply e
  have hz : ∃ v, v ≤ 999 ∧ (0 : Int32) = nI v := ⟨0, by decide, rfl⟩
  unfold valV
  by_cases q1 : tv μ 8 t = 0
  · rw [if_pos q1]
    by_cases q2 : nw μ + k ≤ tv μ 6 t
    · rw [if_pos q2]
      by_cases q3 : 0 < valD μ t k
      · have ed : valD μ t k = nI (tv μ 4 t) - nI (tv μ 5 t * (nw μ + k - tv μ 7 t)) := by
          unfold valD
          rw [pk_sub (by omega), pk_mul]
        have bm : tv μ 5 t * (nw μ + k - tv μ 7 t) ≤ 99 * 68 := Nat.mul_le_mul b5 (by omega)
        have hlt : tv μ 5 t * (nw μ + k - tv μ 7 t) < tv μ 4 t := by
          rw [ed, Int32.lt_iff_toInt_lt, pk_sub_toInt (by omega) (by omega)] at q3
          have : (0 : Int32).toInt = 0 := rfl
          omega
        rw [pk_sub (by omega)] at ed
        rw [if_pos q3, ed]
        by_cases q4 : tv μ 1 t = 2
        · rw [if_pos q4, nI_l (by omega), nI_l (by omega), lN_mul, show (1000000 : Int64) = lN 1000000 from rfl]
          have bp : (tv μ 4 t - tv μ 5 t * (nw μ + k - tv μ 7 t)) * s ≤ 999 * 1000000 := Nat.mul_le_mul (by omega) hs
          rw [pk_lDiv (by omega) (by decide) (by decide), lN_i]
          exact ⟨_, by omega, rfl⟩
        · rw [if_neg q4]
          exact ⟨_, by omega, rfl⟩
      · rw [if_neg q3]
        exact hz
    · rw [if_neg q2]
      exact hz
  · rw [if_neg q1]
    exact hz
def oV (μ : Mem) (p t k : Nat) : Nat := vW μ t k (sS μ (odd μ p (nw μ) k)) + (if muV μ t = 1 ∧ nw μ + k ≤ tv μ 6 t then 2000 else 0)
theorem vW_sm {μ μ' : Mem} (s : Sm μ μ') : vW μ' = vW μ := by
  funext t k z
  unfold vW
  rw [valV_sm s]
theorem planV_c {μ ν : Mem} (I : Inv μ) (s : Sm μ ν) {p t k : Nat} (ht : t < 10) (hk : k ≤ 8) : X6_planValueIn (40 + t) (nI (nw μ + k)) (nI (sS μ (odd μ p (nw μ) k))) ν = some (nI (oV μ p t k)) := by
  obtain ⟨o, W, C, T, S, X, L⟩ := I
  have hn := W.2.2.2.2.2.2.2
  have oν := s.1
  have Tν := Onl.T s T
  have f6 := (Tν.2.1 6 t (by decide) ht).1
  rw [tv_sm s (by decide)] at f6
  have b6 : tv μ 6 t ≤ 60 := (T.2.1 6 t (by decide) ht).2.2
  have ev := val_c oν Tν (t := t) (k := k) (s := sS μ (odd μ p (nw μ) k)) ht (by rw [nw_sm s]; omega)
  rw [nw_sm s, valV_sm s, (vW_ok T ht hk sS_le hn).1] at ev
  have mu := must_c oν Tν ht
  rw [muV_sm s] at mu
  have ml := muV_le μ t
  have cm : (nI (muV μ t) = 0) = (muV μ t = 0) := n_eq (b := 0) (by omega) (by decide)
  have c6 : (nI (tv μ 6 t) < nI (nw μ + k)) = (tv μ 6 t < nw μ + k) := n_lt (by omega) (by omega)
  unfold X6_planValueIn oV
  rw [vo_T oν ht, Option.bind_some, mu, Option.bind_some, gi_T oν ht, f6]
  simp only [cm, Option.bind_some, c6, ev]
  by_cases q1 : muV μ t = 0
  · rw [if_pos q1, if_neg (by omega), Option.bind_some, Int32.add_zero, Nat.add_zero]
  · rw [if_neg q1]
    by_cases q2 : tv μ 6 t < nw μ + k
    · rw [if_pos q2, if_neg (by omega), Option.bind_some, Int32.add_zero, Nat.add_zero]
    · rw [if_neg q2, if_pos (by omega), Option.bind_some, show (2000 : Int32) = nI 2000 from rfl, nI_add]
def vs (μ : Mem) (p st x : Nat) : Nat → Nat
  | 0 => 0
  | k + 1 => if x.testBit k = true then vs μ p st x k + oV μ p (pA μ p k) st else vs μ p st x k
theorem vs_hi {μ : Mem} {p st x j : Nat} (hx : x < 2 ^ j) : ∀ d, vs μ p st x (j + d) = vs μ p st x j
  | 0 => rfl
  | d + 1 => by rw [show j + (d + 1) = j + d + 1 by omega, vs, if_neg (by rw [tb_hi hx]; decide), vs_hi hx d]
theorem vs_or {μ : Mem} {p st r j : Nat} (hr : r < 2 ^ j) : ∀ k, k ≤ j → vs μ p st (r ||| 2 ^ j) k = vs μ p st r k
  | 0, _ => rfl
  | k + 1, hk => by rw [vs, vs, tb_or hr (by omega), vs_or hr k (by omega)]
theorem oV_le {μ : Mem} (I : Inv μ) {p t k : Nat} (ht : t < 10) (hk : k ≤ 8) : oV μ p t k ≤ 2999 := by
  have := (vW_ok I.2.2.2.1 ht hk (s := sS μ (odd μ p (nw μ) k)) sS_le I.2.1.2.2.2.2.2.2.2).2
  unfold oV
  split <;> omega
theorem vs_le {μ : Mem} (I : Inv μ) {p st : Nat} (hst : st ≤ 8) (x : Nat) : ∀ k, k ≤ pK μ p → vs μ p st x k ≤ 2999 * k
  | 0, _ => Nat.zero_le _
  | k + 1, hk => by
    have ih := vs_le I (p := p) hst x k (by omega)
    have hn := I.2.2.2.1.1.2.2
    have h2 := oV_le I (p := p) (t := pA μ p k) (k := st) (by have := pA_lt (μ := μ) (p := p) (k := k) (by omega); omega) hst
    rw [vs]
    split <;> omega
def lw (μ : Mem) (p st w : Nat) : Nat := lsS μ w (odd μ p (nw μ) st)
theorem lw_le {μ : Mem} (C : RelC μ) {p st w : Nat} (hw : w < 4) : lw μ p st w ≤ 3996 := by
  have e : ∀ i, i < 4 → odd μ p (nw μ) st i * cs μ w i / 1000000 ≤ 999 := fun i hi => by
    have h1 := odd_le (μ := μ) (p := p) (t := nw μ) (k := st) hi
    have h2 := (C.1 w i hw hi).2.2
    have h3 : odd μ p (nw μ) st i * cs μ w i ≤ 1000000 * 999 := Nat.mul_le_mul h1 h2
    omega
  unfold lw lsS
  have h0 := e 0 (by decide)
  have h1 := e 1 (by decide)
  have h2 := e 2 (by decide)
  have h3 := e 3 (by decide)
  omega
def gA (μ : Mem) (p st x w : Nat) : Nat := vs μ p st x (pK μ p) * sn μ w / 100 - lw μ p st w
def aw (μ : Mem) (p x : Nat) : Bool := decide (nd (rS μ p x) (aT μ p (tn μ)) = 0)
noncomputable def okW (μ : Mem) (p st x w : Nat) : Bool := decide (rS μ p x &&& kT μ p (nw μ + st) (tn μ) = 0) && (aw μ p x || !(bW μ p (odd μ p (nw μ) st) (lc μ p)).testBit w)
noncomputable def cF (μ : Mem) (p st x : Nat) : Nat → Nat × Int32
  | 0 => (0, -1)
  | w + 1 => if okW μ p st x w = true ∧ (cF μ p st x w).1 < gA μ p st x w then (gA μ p st x w, nI w) else cF μ p st x w
noncomputable def cGW (μ : Mem) (p st x : Nat) : Nat × Int32 := if mS' μ p x = -1 then (0, -1) else cF μ p st x 4
noncomputable def cG (μ : Mem) (p st x : Nat) : Nat := (cGW μ p st x).1
noncomputable def cW (μ : Mem) (p st x : Nat) : Int32 := (cGW μ p st x).2
theorem barV0 {μ : Mem} {p st x w : Nat} : (barV μ p (nw μ + st) (odd μ p (nw μ) st) (rS μ p x) w 0 = 0) = (okW μ p st x w = true) := by
  unfold barV okW aw
  by_cases q1 : nd (rS μ p x) (aT μ p (tn μ)) = 0
  · rw [if_pos q1, decide_eq_true q1, Bool.true_or, Bool.and_true, decide_eq_true_eq]
    by_cases q2 : rS μ p x &&& kT μ p (nw μ + st) (tn μ) = 0
    · rw [if_pos q2]
      exact propext ⟨fun _ => q2, fun _ => rfl⟩
    · rw [if_neg q2]
      exact propext ⟨fun z => absurd z (by decide), fun z => absurd z q2⟩
  · rw [if_neg q1, decide_eq_false q1, Bool.false_or]
    cases q3 : (bW μ p (odd μ p (nw μ) st) (lc μ p)).testBit w
    · rw [if_neg (by decide), Bool.not_false, Bool.and_true, decide_eq_true_eq]
      by_cases q2 : rS μ p x &&& kT μ p (nw μ + st) (tn μ) = 0
      · rw [if_pos q2, if_pos rfl]
        exact propext ⟨fun _ => q2, fun _ => rfl⟩
      · rw [if_neg q2]
        exact propext ⟨fun z => absurd z (by decide), fun z => absurd z q2⟩
    · rw [if_pos rfl, Bool.not_true, Bool.and_false]
      exact propext ⟨fun z => absurd z (by decide), fun z => absurd z (by decide)⟩
theorem gA_le {μ : Mem} (I : Inv μ) {p st x w : Nat} (hst : st ≤ 8) (hw : w < 4) : vs μ p st x (pK μ p) * sn μ w / 100 ≤ 17994 := by
  have h1 := vs_le I (p := p) hst x (pK μ p) (Nat.le_refl _)
  have h2 := (I.2.2.1.2 w hw).2.2
  have h3 := pK_le μ p
  have h4 : vs μ p st x (pK μ p) * sn μ w ≤ 17994 * 100 := Nat.mul_le_mul (by omega) h2
  omega
theorem cF_le {μ : Mem} (I : Inv μ) {p st x : Nat} (hst : st ≤ 8) : ∀ w, w ≤ 4 → (cF μ p st x w).1 ≤ 17994
  | 0, _ => Nat.zero_le _
  | w + 1, hw => by
    have ih := cF_le I (p := p) (x := x) hst w (by omega)
    have := gA_le I (p := p) (x := x) hst (show w < 4 by omega)
    rw [cF]
    split
    · show gA μ p st x w ≤ _
      unfold gA
      omega
    · exact ih
theorem cG_le {μ : Mem} (I : Inv μ) {p st x : Nat} (hst : st ≤ 8) : cG μ p st x ≤ 17994 := by
  unfold cG cGW
  split
  · exact Nat.zero_le _
  · exact cF_le I hst 4 (by decide)
/-- a gain, as the class and the reference find it -/
theorem gn_le {a c b : Nat} (ha : a < 2 ^ 20) (hc : c < 2 ^ 20) (hb : b < 2 ^ 20) : (nI a - nI c ≤ nI b) = ¬ (b < a - c) := by
  refine propext ?_
  rw [Int32.le_iff_toInt_le, pk_sub_toInt (by omega) (by omega), nI_toInt (by omega)]
  omega
/-! the class -/
def Fq (ν ν' : Mem) : Prop := Sm ν ν' ∧ ∀ a, a ≠ 97 → a ≠ 101 → a ≠ 102 → a ≠ 103 → a ≠ 104 → mI ν' a = mI ν a
theorem Fq.rf {ν : Mem} (h : Ok ν) : Fq ν ν := ⟨Sm.rf h, fun _ _ _ _ _ _ => rfl⟩
theorem Fq.tr {ν ν' ν'' : Mem} (h : Fq ν ν') (h2 : Fq ν' ν'') : Fq ν ν'' := ⟨h.1.tr h2.1, fun a q1 q2 q3 q4 q5 => (h2.2 a q1 q2 q3 q4 q5).trans (h.2 a q1 q2 q3 q4 q5)⟩
theorem Fq.w {ν ν' : Mem} {a k : Nat} {v : Int32} (h : Fq ν ν') (ha : a = 97 ∨ a = 101 ∨ a = 102 ∨ a = 103 ∨ a = 104) : Fq ν (wI ν' a k v) := ⟨h.1.wI (corP (by omega) _), fun b q1 q2 q3 q4 q5 => by rw [row_ne (by omega)]; exact h.2 b q1 q2 q3 q4 q5⟩
/-- what stays while prices are found -/
def Bq (μ : Mem) (p st : Nat) (ν : Mem) : Prop := Sm μ ν ∧ PK μ p ν ∧ PR μ p (pK μ p) ν ∧ HI ν (19 + st) 4 (odd μ p (nw μ) st)
theorem Bq.fq {μ ν ν' : Mem} {p st : Nat} (hst : st < 9) (h : Bq μ p st ν) (f : Fq ν ν') : Bq μ p st ν' := by
  obtain ⟨s, k, r, h⟩ := h
  refine ⟨s.tr f.1, ⟨by rw [f.2 94 (by decide) (by decide) (by decide) (by decide) (by decide)]; exact k.1, fun j hj => by rw [f.2 98 (by decide) (by decide) (by decide) (by decide) (by decide)]; exact k.2 j hj⟩, fun x hx => by rw [f.2 99 (by decide) (by decide) (by decide) (by decide) (by decide), f.2 100 (by decide) (by decide) (by decide) (by decide) (by decide)]; exact r x hx, fun i hi => by rw [f.2 (19 + st) (by omega) (by omega) (by omega) (by omega) (by omega)]; exact h i hi⟩
theorem pset27 {μ ν : Mem} (I : Inv μ) {p st x : Nat} (hp : p < 4) (hst : st < 6) (hx : x < 2 ^ pK μ p) (h : Bq μ p st ν) (hg : Gt μ 97 p (nw μ + st) (odd μ p (nw μ) st) ν) (hv : mI ν 101 x = nI (vs μ p st x (pK μ p))) (hl : ∀ w, w < 4 → mI ν 102 w = nI (lw μ p st w)) (g0 : mI ν 103 (st * 64 + x) = nI 0) (w0 : mI ν 104 (st * 64 + x) = -1) : ∃ ν' z, (Fq ν ν' ∧ (∀ a, a ≠ 103 → a ≠ 104 → mI ν' a = mI ν a) ∧ (∀ a j, j ≠ st * 64 + x → mI ν' a j = mI ν a j) ∧ mI ν' 103 (st * 64 + x) = nI (cF μ p st x 4).1 ∧ mI ν' 104 (st * 64 + x) = (cF μ p st x 4).2) ∧ X4_priceSet_L27 94 (nI (st * 64 + x)) (nI x) FU 0 ν = some (z, ν') := by
  have I0 := I
  obtain ⟨o, W, C, T, S, X, L⟩ := I
  have hK := pK_le μ p
  have x64 : x < 64 := Nat.lt_of_lt_of_le hx (show 2 ^ pK μ p ≤ 2 ^ 6 from Nat.pow_le_pow_right (by decide) hK)
  have hs10 : rS μ p x < 2 ^ 10 := Nat.lt_of_lt_of_le (rS_lt μ p x) (Nat.pow_le_pow_right (by decide) T.1.2.2)
  obtain ⟨ν', P, e⟩ := loopF (F := fun m (ν' : Mem) i => X4_priceSet_L27 94 (nI (st * 64 + x)) (nI x) m (nI i) ν') (P := fun i ν' => Fq ν ν' ∧ (∀ a, a ≠ 103 → a ≠ 104 → mI ν' a = mI ν a) ∧ (∀ a j, j ≠ st * 64 + x → mI ν' a j = mI ν a j) ∧ mI ν' 103 (st * 64 + x) = nI (cF μ p st x i).1 ∧ mI ν' 104 (st * 64 + x) = (cF μ p st x i).2) (n := 4) (r := fun ν' => (nI 4, ν')) (by decide) (fun m ν' i hi P => by
    obtain ⟨f, fr, fj, c1, c2⟩ := P
    have hB := h.fq (by omega) f
    have o' := hB.1.1
    have s' := hB.1
    have gG : Gt μ 97 p (nw μ + st) (odd μ p (nw μ) st) ν' := by
      unfold Gt
      rw [fr 97 (by decide) (by decide)]
      exact hg
    have e101 : mI ν' 101 x = nI (vs μ p st x (pK μ p)) := by rw [fr 101 (by decide) (by decide)]; exact hv
    have e102 : mI ν' 102 i = nI (lw μ p st i) := by rw [fr 102 (by decide) (by decide)]; exact hl i hi
    have e36 : mI ν' 36 i = nI (sn μ i) := by rw [s'.row (a := 36) rfl]; exact (C.2 i hi).1
    have e99 := (hB.2.2.1 x hx).1
    have va := vs_le I0 (p := p) (st := st) (by omega) x (pK μ p) (Nat.le_refl _)
    have vb := (C.2 i hi).2.2
    have vm : vs μ p st x (pK μ p) * sn μ i ≤ 17994 * 100 := Nat.mul_le_mul (by omega) vb
    have vl := lw_le C (p := p) (st := st) hi
    have ga := gA_le I0 (p := p) (st := st) (x := x) (by omega) hi
    have cl := cF_le I0 (p := p) (st := st) (x := x) (by omega) i (by omega)
    have cc := gn_le (a := vs μ p st x (pK μ p) * sn μ i / 100) (c := lw μ p st i) (b := (cF μ p st x i).1) (by omega) (by omega) (by omega)
    have br := bar_c I0 (G := 97) (p := p) (u := nw μ + st) (Or.inr rfl) hp o' gG (set := rS μ p x) (way := i) (m := 0) hs10 hi (by decide)
    have bl := barV_le μ p (nw μ + st) (odd μ p (nw μ) st) (rS μ p x) i 0
    have cb : (nI (barV μ p (nw μ + st) (odd μ p (nw μ) st) (rS μ p x) i 0) = 0) = (okW μ p st x i = true) := by
      rw [← barV0]
      exact n_eq (b := 0) (by omega) (by decide)
    have hix : st * 64 + x < 384 := by omega
    show ∃ a', _ ∧ X4_priceSet_L27 94 (nI (st * 64 + x)) (nI x) (m + 1) (nI i) ν' = _
    rw [X4_priceSet_L27, if_neg (ge4 hi), r_94_10 o', Option.bind_some, ai_101 o' x64, e101, Option.bind_some, r_94_4 o', Option.bind_some, r_30_1 o', Option.bind_some, ai_36 o' hi, e36, Option.bind_some, pk_mul, show (100 : Int32) = nI 100 from rfl, dvI_eq (by omega) (by decide) (by decide), Option.bind_some, r_94_11 o', Option.bind_some, ai_102 o' hi, e102, Option.bind_some, Option.bind_some, r_94_12 o', Option.bind_some, ai_103 o' hix, c1, Option.bind_some]
    simp only [cc]
    by_cases z : (cF μ p st x i).1 < gA μ p st x i
    · rw [if_neg (fun w => w z), r_94_6 o', Option.bind_some, r_94_8 o', Option.bind_some, ai_99 o' x64, show mI ν' 99 x = nI (rS μ p x) from e99, Option.bind_some, vo_97 o', Option.bind_some]
      rw [show X1_bar 97 (nI (rS μ p x)) (nI i) 0 ν' = _ from br, Option.bind_some]
      simp only [cb]
      by_cases y : okW μ p st x i = true
      · have eg : nI (vs μ p st x (pK μ p) * sn μ i / 100) - nI (lw μ p st i) = nI (gA μ p st x i) := by
          unfold gA at z ⊢
          rw [pk_sub (by omega)]
        refine ⟨wI (wI ν' 103 (st * 64 + x) (nI (gA μ p st x i))) 104 (st * 64 + x) (nI i), ⟨(f.w (by omega)).w (by omega), fun a q1 q2 => ?_, fun a j hj => ?_, ?_, ?_⟩, ?_⟩
        · rw [row_ne q2, row_ne q1]
          exact fr a q1 q2
        · rw [fld_ne (by omega), fld_ne (by omega)]
          exact fj a j hj
        · rw [row_ne (by decide), fld_eq, cF, if_pos ⟨y, z⟩]
        · rw [fld_eq, cF, if_pos ⟨y, z⟩]
        · rw [if_pos y, eg, Option.bind_some, si_103 o' hix, Option.bind_some, r_94_13 o'.wI, Option.bind_some, si_104 o'.wI hix, Option.bind_some, Option.bind_some, nI_add1]
      · refine ⟨ν', ⟨f, fr, fj, ?_, ?_⟩, ?_⟩
        · rw [cF, if_neg (fun w => y w.1)]
          exact c1
        · rw [cF, if_neg (fun w => y w.1)]
          exact c2
        · rw [if_neg y, Option.bind_some, nI_add1]
    · refine ⟨ν', ⟨f, fr, fj, ?_, ?_⟩, ?_⟩
      · rw [cF, if_neg (fun w => z w.2)]
        exact c1
      · rw [cF, if_neg (fun w => z w.2)]
        exact c2
      · rw [if_pos (show ¬ (cF μ p st x i).1 < vs μ p st x (pK μ p) * sn μ i / 100 - lw μ p st i from z), Option.bind_some, nI_add1]) (fun m ν' P => by
    show X4_priceSet_L27 94 (nI (st * 64 + x)) (nI x) (m + 1) (nI 4) ν' = _
    rw [X4_priceSet_L27, if_pos (by decide)]) ν ⟨Fq.rf h.1.1, fun _ _ _ => rfl, fun _ _ _ => rfl, g0, w0⟩
  exact ⟨ν', _, P, e⟩
theorem pset_c {μ ν : Mem} (I : Inv μ) {p st x : Nat} (hp : p < 4) (hst : st < 6) (hx0 : x ≠ 0) (hx : x < 2 ^ pK μ p) (h : Bq μ p st ν) (hg : Gt μ 97 p (nw μ + st) (odd μ p (nw μ) st) ν) (hv : mI ν 101 x = nI (vs μ p st x (pK μ p))) (hl : ∀ w, w < 4 → mI ν 102 w = nI (lw μ p st w)) : ∃ ν', (Fq ν ν' ∧ (∀ a, a ≠ 103 → a ≠ 104 → mI ν' a = mI ν a) ∧ (∀ a j, j ≠ st * 64 + x → mI ν' a j = mI ν a j) ∧ mI ν' 103 (st * 64 + x) = nI (cG μ p st x) ∧ mI ν' 104 (st * 64 + x) = cW μ p st x) ∧ X4_priceSet 94 (nI (st * 64 + x)) (nI x) ν = some ν' := by
  have hK := pK_le μ p
  have x64 : x < 64 := Nat.lt_of_lt_of_le hx (show 2 ^ pK μ p ≤ 2 ^ 6 from Nat.pow_le_pow_right (by decide) hK)
  have hix : st * 64 + x < 384 := by omega
  have o := h.1.1
  have ⟨ν1, e1⟩ : ∃ m, m = wI (wI ν 103 (st * 64 + x) 0) 104 (st * 64 + x) (-1) := ⟨_, rfl⟩
  have f1 : Fq ν ν1 := by
    rw [e1]
    exact ((Fq.rf o).w (by omega)).w (by omega)
  have fr1 : ∀ a, a ≠ 103 → a ≠ 104 → mI ν1 a = mI ν a := fun a q1 q2 => by rw [e1, row_ne q2, row_ne q1]
  have fj1 : ∀ a j, j ≠ st * 64 + x → mI ν1 a j = mI ν a j := fun a j hj => by rw [e1, fld_ne (by omega), fld_ne (by omega)]
  have h1 := h.fq (by omega) f1
  have o1 := h1.1.1
  have em : mI ν1 100 x = mS' μ p x := (h1.2.2.1 x hx).2 hx0
  have hd : X4_priceSet 94 (nI (st * 64 + x)) (nI x) ν = if mS' μ p x = -1 then some ν1 else (X4_priceSet_L27 94 (nI (st * 64 + x)) (nI x) FU 0 ν1).bind fun z8 => some z8.2 := by
    unfold X4_priceSet
    rw [r_94_12 o, Option.bind_some, si_103 o hix, Option.bind_some, r_94_13 o.wI, Option.bind_some, si_104 o.wI hix, Option.bind_some, ← e1, r_94_9 o1, Option.bind_some, ai_100 o1 x64, em, Option.bind_some]
  rw [hd]
  unfold cG cW cGW
  by_cases z : mS' μ p x = -1
  · rw [if_pos z, if_pos z]
    refine ⟨ν1, ⟨f1, fr1, fj1, ?_, ?_⟩, rfl⟩
    · rw [e1, row_ne (by decide), fld_eq]
      rfl
    · rw [e1, fld_eq]
  · obtain ⟨ν2, zz', ⟨f2, fr2, fj2, c1, c2⟩, e2⟩ := pset27 I hp hst hx h1 (by unfold Gt; rw [fr1 97 (by decide) (by decide)]; exact hg) (by rw [fr1 101 (by decide) (by decide)]; exact hv) (fun w hw => by rw [fr1 102 (by decide) (by decide)]; exact hl w hw) (by rw [e1, row_ne (by decide), fld_eq]; rfl) (by rw [e1, fld_eq])
    rw [if_neg z, if_neg z, e2, Option.bind_some]
    exact ⟨ν2, ⟨f1.tr f2, fun a q1 q2 => (fr2 a q1 q2).trans (fr1 a q1 q2), fun a j hj => (fj2 a j hj).trans (fj1 a j hj), c1, c2⟩, rfl⟩
