/-! ===== the reference reads the text ===== -/
def FB (μ : Mem) (m : Nat) (μ' : Mem) : Prop := Ok μ' ∧ mR μ' = mR μ ∧ ∀ a j, ¬ (a = 134 ∧ (j = 35 ∨ j = 36 ∨ j = 38 ∨ j = 39)) → ¬ (161 ≤ a ∧ a ≤ 164 ∧ j = m) → mI μ' a j = mI μ a j
def STm (μ : Mem) (n : Nat) (T : Nat → Nat) : Prop := mI μ 134 34 = nI n ∧ n ≤ 160 ∧ ∀ i, i < 160 → mI μ 165 i = nI (T i) ∧ T i ≤ 255
def MB (n : Nat) (T : Nat → Nat) (μ0 : Mem) (m : Nat) (μ : Mem) (f : Int32) (q : Nat) : Prop := FB μ0 m μ ∧ STm μ n T ∧ (mI μ 134 35 = f ∧ mI μ 134 36 = nI q) ∧ q ≤ n
def Kp (μ μ' : Mem) : Prop := ∀ a, 161 ≤ a ∧ a ≤ 164 → mI μ' a = mI μ a
theorem Kp.rf {μ : Mem} : Kp μ μ := fun _ _ => rfl
theorem Kp.tr {μ μ' μ'' : Mem} (h : Kp μ μ') (h2 : Kp μ' μ'') : Kp μ μ'' := fun a q => (h2 a q).trans (h a q)
theorem Kp.w {μ : Mem} {k : Nat} {v : Int32} : Kp μ (wI μ 134 k v) := fun a q => row_ne (by omega)
section MR
variable {n : Nat} {T : Nat → Nat} {μ0 μ : Mem} {m q : Nat} {f : Int32}
theorem MB.ok (h : MB n T μ0 m μ f q) : Ok μ := h.1.1
theorem MB.rd (h : MB n T μ0 m μ f q) {i : Nat} (hi : i < 160) : aI 165 (nI i) μ = some (nI (T i)) := by rw [ai_165 h.ok hi, (h.2.1.2.2 i hi).1]
theorem MB.b (h : MB n T μ0 m μ f q) {i : Nat} (hi : i < 160) : T i ≤ 255 := (h.2.1.2.2 i hi).2
theorem MB.n0 (h : MB n T μ0 m μ f q) : n ≤ 160 := h.2.1.2.1
theorem MB.w (h : MB n T μ0 m μ f q) (j : Nat) (v f' : Int32) (q' : Nat) (hj : j = 35 ∨ j = 36 ∨ j = 38 ∨ j = 39) (e1 : mI (wI μ 134 j v) 134 35 = f') (e2 : mI (wI μ 134 j v) 134 36 = nI q') (hq : q' ≤ n) : MB n T μ0 m (wI μ 134 j v) f' q' := by
  obtain ⟨⟨o, r, fr⟩, ⟨t1, t2, t3⟩, -, -⟩ := h
  refine ⟨⟨o, r, fun a i z z2 => ?_⟩, ⟨(fld_ne (by omega)).trans t1, t2, fun i hi => ?_⟩, ⟨e1, e2⟩, hq⟩
  · rw [fld_ne (by omega)]
    exact fr a i z z2
  · rw [row_ne (by omega)]
    exact t3 i hi
theorem MB.at' (h : MB n T μ0 m μ f q) (q' : Nat) (hq : q' ≤ n) : MB n T μ0 m (wI μ 134 36 (nI q')) f q' := h.w 36 _ _ _ (by omega) ((fld_ne (by omega)).trans h.2.2.1.1) fld_eq hq
theorem MB.pl (h : MB n T μ0 m μ f q) (x : Int32) : MB n T μ0 m (wI μ 134 35 x) x q := h.w 35 _ _ _ (by omega) fld_eq ((fld_ne (by omega)).trans h.2.2.1.2) h.2.2.2
theorem MB.we (h : MB n T μ0 m μ f q) (x : Int32) : MB n T μ0 m (wI μ 134 38 x) f q := h.w 38 _ _ _ (by omega) ((fld_ne (by omega)).trans h.2.2.1.1) ((fld_ne (by omega)).trans h.2.2.1.2) h.2.2.2
theorem MB.nm (h : MB n T μ0 m μ f q) (x : Int32) : MB n T μ0 m (wI μ 134 39 x) f q := h.w 39 _ _ _ (by omega) ((fld_ne (by omega)).trans h.2.2.1.1) ((fld_ne (by omega)).trans h.2.2.1.2) h.2.2.2
theorem MB.wj (h : MB n T μ0 m μ f q) (k : Nat) (x : Int64) : MB n T μ0 m (wJ μ 134 k x) f q := h
theorem MB.fr (h : MB n T μ0 m μ f q) (a : Nat) (x : Int32) (ha : 161 ≤ a ∧ a ≤ 164) : MB n T μ0 m (wI μ a m x) f q := by
  obtain ⟨⟨o, r, fr⟩, ⟨t1, t2, t3⟩, ⟨f1, f2⟩, hq⟩ := h
  refine ⟨⟨o, r, fun b i z z2 => ?_⟩, ⟨(fld_ne (by omega)).trans t1, t2, fun i hi => ?_⟩, ⟨(fld_ne (by omega)).trans f1, (fld_ne (by omega)).trans f2⟩, hq⟩
  · rw [fld_ne (by omega)]
    exact fr b i z z2
  · rw [row_ne (by omega)]
    exact t3 i hi
theorem here0_m : ∀ d c μ q, n - q = d → MB n T μ0 m μ f q → ∃ μ', MB n T μ0 m μ' f (sk n T q) ∧ Kp μ μ' ∧ X11_here_L0 134 (c + d + 1) μ = some μ' := by
  intro d
  induction d with
  | zero =>
    intro c μ q hd h
    have hn := h.n0
    refine ⟨μ, ?_, Kp.rf, ?_⟩
    · rw [show sk n T q = q by unfold sk; rw [scn_eq, if_neg (by omega)]]
      exact h
    · rw [X11_here_L0, gi_134 h.ok, h.2.2.1.2, Option.bind_some, gi_134 h.ok, h.2.1.1, Option.bind_some, if_pos (nI_le (by omega) (by have := h.2.2.2; omega))]
  | succ d ih =>
    intro c μ q hd h
    have hn := h.n0
    have hq := h.2.2.2
    have b := h.b (i := q) (by omega)
    rw [show c + (d + 1) + 1 = c + d + 1 + 1 by omega, X11_here_L0, gi_134 h.ok, h.2.2.1.2, Option.bind_some, gi_134 h.ok, h.2.1.1, Option.bind_some, if_neg (nI_ge (by omega) (by omega)), r_134_33 h.ok, Option.bind_some, Option.bind_some, h.rd (by omega), Option.bind_some]
    simp only [isB_n b]
    by_cases z : isB (T q) = true
    · obtain ⟨μ', h', kp, e⟩ := ih c (wI μ 134 36 (nI (q + 1))) (q + 1) (by omega) (h.at' (q + 1) (by omega))
      refine ⟨μ', ?_, Kp.w.tr kp, ?_⟩
      · rw [show sk n T q = sk n T (q + 1) by unfold sk; rw [scn_eq, if_pos ⟨by omega, z⟩]]
        exact h'
      · rw [if_pos z, Option.bind_some, nI_add1, pi_134 h.ok, Option.bind_some]
        exact e
    · refine ⟨μ, ?_, Kp.rf, ?_⟩
      · rw [show sk n T q = q by unfold sk; rw [scn_eq, if_neg (fun w => z w.2)]]
        exact h
      · rw [if_neg z]
def chV (n : Nat) (T : Nat → Nat) (s : Nat) : Int32 := if s < n then nI (T s) else -1
theorem here_m (h : MB n T μ0 m μ f q) : ∃ μ', MB n T μ0 m μ' f (sk n T q) ∧ Kp μ μ' ∧ X11_here 134 μ = some (chV n T (sk n T q), μ') := by
  have hn := h.n0
  obtain ⟨μ', h', kp, e⟩ := here0_m (n - q) (99999 - (n - q)) μ q rfl h
  have hs := h'.2.2.2
  refine ⟨μ', h', kp, ?_⟩
  rw [show 99999 - (n - q) + (n - q) + 1 = FU by unfold FU; omega] at e
  unfold X11_here chV
  rw [e, Option.bind_some, gi_134 h'.ok, h'.2.2.1.2, Option.bind_some, gi_134 h'.ok, h'.2.1.1, Option.bind_some]
  by_cases y : sk n T q < n
  · rw [if_neg (nI_ge y (by omega)), if_pos y, r_134_33 h'.ok, Option.bind_some, Option.bind_some, h'.rd (by omega), Option.bind_some, Option.bind_some]
  · rw [if_pos (nI_le (by omega) (by omega)), if_neg y, Option.bind_some]
/-- letters and figures, as the reference looks at them -/
theorem in_ch {s lo hi : Nat} (h : MB n T μ0 m μ f q) (hlo : 0 < lo) (hlo2 : lo < 1000) (hhi : hi < 1000) (hs : s ≤ n) : (X11_in (chV n T s).toInt64 (nI lo).toInt64 (nI hi).toInt64 = 0) = ¬ (s < n ∧ lo ≤ T s ∧ T s ≤ hi) := by
  have hn := h.n0
  rw [in_eq]
  unfold chV X10_within
  by_cases y : s < n
  · have b := h.b (i := s) (by omega)
    rw [if_pos y]
    simp only [n_lt (show T s < 2 ^ 31 by omega) (show lo < 2 ^ 31 by omega), n_lt (show hi < 2 ^ 31 by omega) (show T s < 2 ^ 31 by omega)]
    by_cases z1 : T s < lo
    · rw [if_pos z1]
      exact propext ⟨fun _ w => by omega, fun _ => rfl⟩
    · rw [if_neg z1]
      by_cases z2 : hi < T s
      · rw [if_pos z2]
        exact propext ⟨fun _ w => by omega, fun _ => rfl⟩
      · rw [if_neg z2]
        exact propext ⟨fun w => absurd w (by decide), fun w => absurd ⟨y, by omega, by omega⟩ w⟩
  · rw [if_neg y, if_pos]
    · exact propext ⟨fun _ w => y w.1, fun _ => rfl⟩
    · rw [Int32.lt_iff_toInt_lt, nI_toInt (by omega)]
      have : (-1 : Int32).toInt = -1 := rfl
      omega
theorem word18_m {s : Nat} : ∀ d c μ p, n - p = d → s ≤ p → p ≤ n → MB n T μ0 m μ f q → (∀ i, s ≤ i → i < p → isL (T i) = true) → mI μ 134 38 = nI p → mJ μ 134 37 = lN (wcN T s (p - s)) → ∃ μ', MB n T μ0 m μ' f q ∧ Kp μ μ' ∧ mI μ' 134 38 = nI (we n T p) ∧ mJ μ' 134 37 = lN (wcN T s (we n T p - s)) ∧ X11_readWord_L18 134 (c + d + 1) μ = some μ' := by
  intro d
  induction d with
  | zero =>
    intro c μ p hd hsp hp h hl e1 e2
    have hn := h.n0
    have ew : we n T p = p := by unfold we; rw [scn_eq, if_neg (by omega)]
    rw [ew]
    refine ⟨μ, h, Kp.rf, e1, e2, ?_⟩
    rw [X11_readWord_L18, gi_134 h.ok, e1, Option.bind_some, gi_134 h.ok, h.2.1.1, Option.bind_some, if_pos (nI_le (by omega) (by omega))]
  | succ d ih =>
    intro c μ p hd hsp hp h hl e1 e2
    have hn := h.n0
    have b := h.b (i := p) (by omega)
    have hT : ∀ i, i < p - s → 97 ≤ T (s + i) ∧ T (s + i) ≤ 122 := fun i hi => by
      have := hl (s + i) (by omega) (by omega)
      unfold isL at this
      rw [decide_eq_true_eq] at this
      exact this
    have wb := (wcN_bd (p - s) hT).1
    have ci : (X11_in (nI (T p)).toInt64 97 122 = 0) = ¬ (p < n ∧ 97 ≤ T p ∧ T p ≤ 122) := by
      have := in_ch (s := p) (lo := 97) (hi := 122) h (by decide) (by decide) (by decide) hp
      unfold chV at this
      rw [if_pos (show p < n by omega)] at this
      exact this
    rw [show c + (d + 1) + 1 = c + d + 1 + 1 by omega, X11_readWord_L18, gi_134 h.ok, e1, Option.bind_some, gi_134 h.ok, h.2.1.1, Option.bind_some, if_neg (nI_ge (by omega) (by omega)), r_134_33 h.ok, Option.bind_some, Option.bind_some, h.rd (by omega), Option.bind_some]
    simp only [ci]
    by_cases z : isL (T p) = true
    · have z' := z
      unfold isL at z'
      rw [decide_eq_true_eq] at z'
      have cz : (lg_cmp (lN (wcN T s (p - s))) 10000000000 ≤ 0) = (wcN T s (p - s) ≤ 10000000000) := propext ((lg_cmp_le _ _).trans (pk_lLE (b := 10000000000) (by omega) (by decide)))
      have gj : gJ 11 37 134 μ = some (lN (wcN T s (p - s))) := by rw [gJ_eq (a := 134) h.ok (by decide) rfl, e2]
      have ev : ((if lg_cmp (lN (wcN T s (p - s))) 10000000000 ≤ 0 then (some (lN (wcN T s (p - s)))).bind fun v10 => (some 165).bind fun v11 => (some (nI p)).bind fun v12 => (aI v11 v12 μ).bind fun v13 => some (27 * v10 + v13.toInt64 - 96) else some 20000000000 : Option Int64)) = some (lN (wcN T s (p + 1 - s))) := by
        simp only [cz]
        rw [show p + 1 - s = p - s + 1 by omega, wcN, show s + (p - s) = p by omega]
        by_cases y : wcN T s (p - s) ≤ 10000000000
        · rw [if_pos y, if_pos y, Option.bind_some, Option.bind_some, Option.bind_some, h.rd (by omega), Option.bind_some, nI_l (by omega), show (27 : Int64) = lN 27 from rfl, lN_mul, lN_add, show (96 : Int64) = lN 96 from rfl, lN_sub (by omega)]
        · rw [if_neg y, if_neg y]
          rfl
      have h2 : MB n T μ0 m (wI (wJ μ 134 37 (lN (wcN T s (p + 1 - s)))) 134 38 (nI (p + 1))) f q := (h.wj 37 _).we _
      obtain ⟨μ', h', kp, f1, f2, e⟩ := ih c _ (p + 1) (by omega) (by omega) (by omega) h2 (fun i i1 i2 => by
        by_cases y : i = p
        · subst y
          exact z
        · exact hl i i1 (by omega)) fld_eq (by rw [mJ_wI, mJ_wJ, if_pos ⟨rfl, rfl⟩])
      have ew : we n T p = we n T (p + 1) := by
        show scn isL n T p = scn isL n T (p + 1)
        rw [scn_eq, if_pos ⟨by omega, z⟩]
      rw [ew]
      refine ⟨μ', h', (show Kp μ (wI (wJ μ 134 37 (lN (wcN T s (p + 1 - s)))) 134 38 (nI (p + 1))) from fun a q => row_ne (by omega)).tr kp, f1, f2, ?_⟩
      rw [if_neg (fun w => w ⟨by omega, by omega, by omega⟩), gj, Option.bind_some]
      rw [ev, Option.bind_some, pJ_eq (a := 134) h.ok (by decide) rfl, Option.bind_some, gi_134 h.ok.wJ, show mI (wJ μ 134 37 (lN (wcN T s (p + 1 - s)))) 134 38 = nI p from e1, Option.bind_some, nI_add1, pi_134 h.ok.wJ, Option.bind_some]
      exact e
    · have z' := z
      unfold isL at z'
      rw [decide_eq_true_eq] at z'
      have ew : we n T p = p := by unfold we; rw [scn_eq, if_neg (fun w => z w.2)]
      rw [ew]
      refine ⟨μ, h, Kp.rf, e1, e2, ?_⟩
      rw [if_pos (fun w => z' w.2)]
theorem word_m (h : MB n T μ0 m μ f q) : ∃ μ', MB n T μ0 m μ' f (sk n T q) ∧ Kp μ μ' ∧ mI μ' 134 38 = nI (we n T (sk n T q)) ∧ mJ μ' 134 37 = lN (wcN T (sk n T q) (we n T (sk n T q) - sk n T q)) ∧ X11_readWord 134 μ = some μ' := by
  have hn := h.n0
  obtain ⟨μ1, h1, kp1, e1⟩ := here_m h
  have hs := h1.2.2.2
  have h2 : MB n T μ0 m (wI (wJ μ1 134 37 0) 134 38 (nI (sk n T q))) f (sk n T q) := (h1.wj 37 _).we _
  obtain ⟨μ', h', kp, f1, f2, e⟩ := word18_m (s := sk n T q) (n - sk n T q) (99999 - (n - sk n T q)) _ (sk n T q) rfl (Nat.le_refl _) hs h2 (fun i i1 i2 => by omega) fld_eq (by rw [mJ_wI, mJ_wJ, if_pos ⟨rfl, rfl⟩, Nat.sub_self]; rfl)
  rw [show 99999 - (n - sk n T q) + (n - sk n T q) + 1 = FU by unfold FU; omega] at e
  refine ⟨μ', h', kp1.tr ((show Kp μ1 (wI (wJ μ1 134 37 0) 134 38 (nI (sk n T q))) from fun a q => row_ne (by omega)).tr kp), f1, f2, ?_⟩
  unfold X11_readWord
  rw [vo_134 h.ok, Option.bind_some, e1, Option.bind_some, pJ_eq (a := 134) h1.ok (by decide) rfl, Option.bind_some, gi_134 h1.ok.wJ, show mI (wJ μ1 134 37 0) 134 36 = nI (sk n T q) from h1.2.2.1.2, Option.bind_some, pi_134 h1.ok.wJ, Option.bind_some, e, Option.bind_some]
theorem wcB (s w : Nat) (hw : w < 9) (hT : ∀ i, i < we n T s - s → 97 ≤ T (s + i) ∧ T (s + i) ≤ 122) : (lg_cmp (lN (wcN T s (we n T s - s))) (lN (cdN (wC w) (wL w))) = 0) = (wQ n T s w = true) := by
  have b1 := (wcN_bd (we n T s - s) hT).1
  have h6 := wL_ok w hw
  have b2 := cdN_bd (L := wC w) (wL w) (fun i hi => (wC_ok w hw i (by omega) hi).2)
  have b3 : 27 ^ wL w ≤ 27 ^ 6 := Nat.pow_le_pow_right (by decide) h6.2
  rw [← wQ_code hw]
  exact propext ((lg_cmp_eq _ _).trans (pk_lEQ (by omega) (by omega)))
theorem weL (s : Nat) : ∀ i, i < we n T s - s → 97 ≤ T (s + i) ∧ T (s + i) ≤ 122 := fun i hi => by
  have := (scn_sp isL n T _ s rfl).2.2.2 (s + i) (by omega) (show s + i < we n T s by omega)
  unfold isL at this
  rw [decide_eq_true_eq] at this
  exact this
theorem fails_m (h : MB n T μ0 m μ f q) (x1 x2 : Int32) : X11_fails 134 x1 x2 μ = some (x1, wI μ 134 35 x2) := by
  unfold X11_fails
  rw [pi_134 h.ok, Option.bind_some]
theorem needs_m {w : Nat} (hw : w < 9) {j : Int64} (hj : j = lN (cdN (wC w) (wL w))) (h : MB n T μ0 m μ f q) : (wQ n T (sk n T q) w = true → ∃ μ', MB n T μ0 m μ' f (we n T (sk n T q)) ∧ Kp μ μ' ∧ X11_needs 134 j μ = some (0, μ')) ∧ (¬ wQ n T (sk n T q) w = true → ∃ μ', MB n T μ0 m μ' (nI (sk n T q)) (sk n T q) ∧ Kp μ μ' ∧ X11_needs 134 j μ = some (1, μ')) := by
  have hn := h.n0
  obtain ⟨μ1, h1, kp, f1, f2, e1⟩ := word_m h
  have hs := h1.2.2.2
  have gj : gJ 11 37 134 μ1 = some (lN (wcN T (sk n T q) (we n T (sk n T q) - sk n T q))) := by rw [gJ_eq (a := 134) h1.ok (by decide) rfl, f2]
  have cw := wcB (n := n) (T := T) (sk n T q) w hw (weL _)
  have we2 := we_le (n := n) (T := T) hs
  unfold X11_needs
  rw [vo_134 h.ok, Option.bind_some, e1, Option.bind_some, gj, Option.bind_some, hj]
  simp only [cw]
  refine ⟨fun z => ?_, fun z => ?_⟩
  · refine ⟨_, h1.at' _ we2, kp.tr Kp.w, ?_⟩
    rw [if_pos z, gi_134 h1.ok, f1, Option.bind_some, pi_134 h1.ok, Option.bind_some]
  · refine ⟨_, h1.pl (nI (sk n T q)), kp.tr Kp.w, ?_⟩
    rw [if_neg z, gi_134 h1.ok, h1.2.2.1.2, Option.bind_some, vo_134 h1.ok, Option.bind_some, fails_m h1, Option.bind_some]
theorem num40_m (x1 x2 x4 : Int32) {s : Nat} : ∀ d c μ p, n - p = d → s ≤ p → MB n T μ0 m μ f p → (∀ i, s ≤ i → i < p → isD (T i) = true) → mI μ 134 39 = nI (vM T s (p - s)) → ∃ μ', MB n T μ0 m μ' f (de n T p) ∧ Kp μ μ' ∧ mI μ' 134 39 = nI (vM T s (de n T p - s)) ∧ X11_readNumber_L40 134 x1 x2 x4 (c + d + 1) μ = some μ' := by
  intro d
  induction d with
  | zero =>
    intro c μ p hd hsp h hdg e1
    have hn := h.n0
    have hp := h.2.2.2
    have ed : de n T p = p := by unfold de; rw [scn_eq, if_neg (by omega)]
    rw [ed]
    refine ⟨μ, h, Kp.rf, e1, ?_⟩
    rw [X11_readNumber_L40, gi_134 h.ok, h.2.2.1.2, Option.bind_some, gi_134 h.ok, h.2.1.1, Option.bind_some, if_pos (nI_le (by omega) (by omega))]
  | succ d ih =>
    intro c μ p hd hsp h hdg e1
    have hn := h.n0
    have hp := h.2.2.2
    have b := h.b (i := p) (by omega)
    have hT : ∀ i, i < p - s → 48 ≤ T (s + i) ∧ T (s + i) ≤ 57 := fun i hi => by
      have := hdg (s + i) (by omega) (by omega)
      unfold isD at this
      rw [decide_eq_true_eq] at this
      exact this
    have vb := vM_bd (p - s) hT
    have ci : (X11_in (nI (T p)).toInt64 48 57 = 0) = ¬ (p < n ∧ 48 ≤ T p ∧ T p ≤ 57) := by
      have := in_ch (s := p) (lo := 48) (hi := 57) h (by decide) (by decide) (by decide) hp
      unfold chV at this
      rw [if_pos (show p < n by omega)] at this
      exact this
    have cz : (nI (vM T s (p - s)) ≤ 10000) = (vM T s (p - s) ≤ 10000) := n_le (b := 10000) (by omega) (by decide)
    rw [show c + (d + 1) + 1 = c + d + 1 + 1 by omega, X11_readNumber_L40, gi_134 h.ok, h.2.2.1.2, Option.bind_some, gi_134 h.ok, h.2.1.1, Option.bind_some, if_neg (nI_ge (by omega) (by omega)), r_134_33 h.ok, Option.bind_some, Option.bind_some, h.rd (by omega), Option.bind_some]
    simp only [ci]
    by_cases z : isD (T p) = true
    · have z' := z
      unfold isD at z'
      rw [decide_eq_true_eq] at z'
      have ed : de n T p = de n T (p + 1) := by
        show scn isD n T p = scn isD n T (p + 1)
        rw [scn_eq, if_pos ⟨by omega, z⟩]
      have h2 : MB n T μ0 m (wI (wI μ 134 39 (nI (vM T s (p + 1 - s)))) 134 36 (nI (p + 1))) f (p + 1) := (h.nm _).at' (p + 1) (by omega)
      obtain ⟨μ', h', kp, f1, e⟩ := ih c _ (p + 1) (by omega) (by omega) h2 (fun i i1 i2 => by
        by_cases y : i = p
        · subst y
          exact z
        · exact hdg i i1 (by omega)) ((fld_ne (by omega)).trans fld_eq)
      rw [ed]
      refine ⟨μ', h', (Kp.w.tr Kp.w).tr kp, f1, ?_⟩
      have ev : ((if vM T s (p - s) ≤ 10000 then (some (nI (vM T s (p - s)))).bind fun v10 => (some 165).bind fun v11 => (some (nI p)).bind fun v12 => (aI v11 v12 μ).bind fun v13 => some (10 * v10 + v13 - 48) else (some (nI (vM T s (p - s)))).bind fun v14 => some v14 : Option Int32)) = some (nI (vM T s (p + 1 - s))) := by
        rw [show p + 1 - s = p - s + 1 by omega, vM, show s + (p - s) = p by omega]
        by_cases y : vM T s (p - s) ≤ 10000
        · rw [if_pos y, if_pos y, Option.bind_some, Option.bind_some, Option.bind_some, h.rd (by omega), Option.bind_some, show (10 : Int32) = nI 10 from rfl, pk_mul, nI_add, show (48 : Int32) = nI 48 from rfl, pk_sub (by omega)]
        · rw [if_neg y, if_neg y, Option.bind_some]
      rw [if_neg (fun w => w ⟨by omega, by omega, by omega⟩), gi_134 h.ok, e1, Option.bind_some]
      simp only [cz]
      rw [ev, Option.bind_some, pi_134 h.ok, Option.bind_some, gi_134 h.ok.wI, fld_ne (by omega), h.2.2.1.2, Option.bind_some, nI_add1, pi_134 h.ok.wI, Option.bind_some]
      exact e
    · have z' := z
      unfold isD at z'
      rw [decide_eq_true_eq] at z'
      have ed : de n T p = p := by unfold de; rw [scn_eq, if_neg (fun w => z w.2)]
      rw [ed]
      refine ⟨μ, h, Kp.rf, e1, ?_⟩
      rw [if_pos (fun w => z' w.2)]
theorem num_m {lo hi : Nat} (hlo : lo < 1000) (hhi : hi < 1000) (h : MB n T μ0 m μ f q) : match pN n T lo hi q with
    | .inl (k', s) => ∃ μ' q', MB n T μ0 m μ' (nI s) q' ∧ Kp μ μ' ∧ (1 ≤ k' ∧ k' ≤ 3) ∧ X11_readNumber 134 (nI lo) (nI hi) μ = some (nI k', μ')
    | .inr (v, q') => ∃ μ', MB n T μ0 m μ' f q' ∧ Kp μ μ' ∧ mI μ' 134 39 = nI v ∧ X11_readNumber 134 (nI lo) (nI hi) μ = some (0, μ') := by
  have hn := h.n0
  obtain ⟨μ1, h1, kp1, e1⟩ := here_m h
  have hs := h1.2.2.2
  have ci := in_ch (s := sk n T q) (lo := 48) (hi := 57) h (by decide) (by decide) (by decide) hs
  have ci : (X11_in (chV n T (sk n T q)).toInt64 48 57 = 0) = ¬ (sk n T q < n ∧ 48 ≤ T (sk n T q) ∧ T (sk n T q) ≤ 57) := ci
  unfold X11_readNumber pN
  rw [vo_134 h.ok, Option.bind_some, e1, Option.bind_some]
  simp only [ci]
  by_cases z1 : de n T (sk n T q) = sk n T q
  · have z2 : ¬ (sk n T q < n ∧ 48 ≤ T (sk n T q) ∧ T (sk n T q) ≤ 57) := fun w => by
      have e : de n T (sk n T q) = de n T (sk n T q + 1) := by
        show scn isD n T (sk n T q) = scn isD n T (sk n T q + 1)
        rw [scn_eq, if_pos ⟨w.1, decide_eq_true w.2⟩]
      have := de_ge (n := n) (T := T) (q := sk n T q + 1)
      omega
    rw [if_pos z1, if_pos z2, gi_134 h1.ok, h1.2.2.1.2, Option.bind_some, vo_134 h1.ok, Option.bind_some, fails_m h1, Option.bind_some]
    exact ⟨_, _, h1.pl _, kp1.tr Kp.w, by decide, rfl⟩
  · have z2 : sk n T q < n ∧ 48 ≤ T (sk n T q) ∧ T (sk n T q) ≤ 57 := by
      by_cases y : sk n T q < n ∧ isD (T (sk n T q)) = true
      · have y2 := y.2
        unfold isD at y2
        rw [decide_eq_true_eq] at y2
        exact ⟨y.1, y2⟩
      · exact absurd (by unfold de; rw [scn_eq, if_neg y]) z1
    obtain ⟨μ2, h2, kp2, f2, e2⟩ := num40_m (nI lo) (nI hi) (nI (sk n T q)) (s := sk n T q) (n - sk n T q) (99999 - (n - sk n T q)) (wI μ1 134 39 0) (sk n T q) rfl (Nat.le_refl _) (h1.nm 0) (fun i i1 i2 => by omega) (by rw [fld_eq, Nat.sub_self]; rfl)
    rw [show 99999 - (n - sk n T q) + (n - sk n T q) + 1 = FU by unfold FU; omega] at e2
    have d1 := de_ge (n := n) (T := T) (q := sk n T q)
    have d2 := de_le (n := n) (T := T) hs
    have dg : ∀ i, i < de n T (sk n T q) - sk n T q → 48 ≤ T (sk n T q + i) ∧ T (sk n T q + i) ≤ 57 := fun i hi => by
      have := (scn_sp isD n T _ (sk n T q) rfl).2.2.2 (sk n T q + i) (by omega) (show sk n T q + i < de n T (sk n T q) by omega)
      unfold isD at this
      rw [decide_eq_true_eq] at this
      exact this
    have bd := (vC_bd (T := T) (s := sk n T q) _ dg).1
    have c3 : ((3 : Int32) < nI (de n T (sk n T q) - sk n T q)) = (3 < de n T (sk n T q) - sk n T q) := n_lt (a := 3) (by decide) (by omega)
    rw [if_neg z1, if_neg (show ¬ ¬ (sk n T q < n ∧ 48 ≤ T (sk n T q) ∧ T (sk n T q) ≤ 57) from fun w => w z2), gi_134 h1.ok, h1.2.2.1.2, Option.bind_some, pi_134 h1.ok, Option.bind_some, e2, Option.bind_some, gi_134 h2.ok, h2.2.2.1.2, Option.bind_some, pk_sub d1]
    simp only [c3]
    by_cases y3 : 3 < de n T (sk n T q) - sk n T q
    · rw [if_pos y3, if_pos (Or.inl y3), vo_134 h2.ok, Option.bind_some, fails_m h2, Option.bind_some, Option.bind_some]
      exact ⟨_, _, h2.pl _, (kp1.tr Kp.w).tr (kp2.tr Kp.w), by decide, rfl⟩
    · have ev := vM_eq (de n T (sk n T q) - sk n T q) (by omega) dg
      rw [ev] at f2
      rw [if_neg y3, gi_134 h2.ok, f2, Option.bind_some, in_eq]
      have cw : (X10_within (nI (vC T (sk n T q) (de n T (sk n T q) - sk n T q))) (nI lo) (nI hi) = 0) = (vC T (sk n T q) (de n T (sk n T q) - sk n T q) < lo ∨ hi < vC T (sk n T q) (de n T (sk n T q) - sk n T q)) := by
        unfold X10_within
        simp only [n_lt (show vC T (sk n T q) (de n T (sk n T q) - sk n T q) < 2 ^ 31 by omega) (show lo < 2 ^ 31 by omega), n_lt (show hi < 2 ^ 31 by omega) (show vC T (sk n T q) (de n T (sk n T q) - sk n T q) < 2 ^ 31 by omega)]
        by_cases y1 : vC T (sk n T q) (de n T (sk n T q) - sk n T q) < lo
        · rw [if_pos y1]
          exact propext ⟨fun _ => Or.inl y1, fun _ => rfl⟩
        · rw [if_neg y1]
          by_cases y2 : hi < vC T (sk n T q) (de n T (sk n T q) - sk n T q)
          · rw [if_pos y2]
            exact propext ⟨fun _ => Or.inr y2, fun _ => rfl⟩
          · rw [if_neg y2]
            exact propext ⟨fun z => absurd z (by decide), fun z => by omega⟩
      simp only [cw]
      by_cases y4 : vC T (sk n T q) (de n T (sk n T q) - sk n T q) < lo ∨ hi < vC T (sk n T q) (de n T (sk n T q) - sk n T q)
      · rw [if_pos y4, if_pos (Or.inr y4), vo_134 h2.ok, Option.bind_some, fails_m h2, Option.bind_some, Option.bind_some]
        exact ⟨_, _, h2.pl _, (kp1.tr Kp.w).tr (kp2.tr Kp.w), by decide, rfl⟩
      · rw [if_neg y4, if_neg (fun w => w.elim y3 y4), Option.bind_some]
        exact ⟨_, h2, (kp1.tr Kp.w).tr kp2, f2, rfl⟩
end MR
