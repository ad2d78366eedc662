/-! ===== the reference reads clauses ===== -/
def Fr (m : Nat) (μ : Mem) (c : Cls) : Prop := mI μ 161 m = nI c.1 ∧ mI μ 162 m = nI c.2.1 ∧ (1 ≤ c.1 → c.1 ≤ 3 → mI μ 163 m = nI c.2.2.1) ∧ (c.1 = 1 → mI μ 164 m = nI c.2.2.2)
def PM (n : Nat) (T : Nat → Nat) (μ0 : Mem) (m : Nat) (f : Int32) (o : Flt ⊕ (Cls × Nat)) (r : Option (Int32 × Mem)) : Prop := match o with
  | .inl (k, s) => ∃ μ' q', MB n T μ0 m μ' (nI s) q' ∧ (1 ≤ k ∧ k ≤ 3) ∧ r = some (nI k, μ')
  | .inr (c, q') => ∃ μ', MB n T μ0 m μ' f q' ∧ Fr m μ' c ∧ r = some (0, μ')
theorem kn {k : Nat} (h : 1 ≤ k ∧ k ≤ 3) : ¬ nI k ≤ 0 := nI_nle (by omega) (by omega)
theorem kp0 {k : Nat} (h : 1 ≤ k ∧ k ≤ 3) : (0 : Int32) < nI k := nI_lt (a := 0) (by omega) (by omega)
theorem z00 : (0 : Int32) ≤ 0 := by decide
theorem cd_0 : X11_code 110 101 118 101 114 0 = lN (cdN (wC 0) (wL 0)) := by decide +kernel
theorem cd_1 : X11_code 119 97 121 0 0 0 = lN (cdN (wC 1) (wL 1)) := by decide +kernel
theorem cd_2 : X11_code 115 116 97 116 101 0 = lN (cdN (wC 2) (wL 2)) := by decide +kernel
theorem cd_3 : X11_code 107 105 110 100 0 0 = lN (cdN (wC 3) (wL 3)) := by decide +kernel
theorem cd_4 : X11_code 97 102 116 101 114 0 = lN (cdN (wC 4) (wL 4)) := by decide +kernel
theorem cd_5 : X11_code 109 111 115 116 0 0 = lN (cdN (wC 5) (wL 5)) := by decide +kernel
theorem cd_6 : X11_code 105 110 0 0 0 0 = lN (cdN (wC 6) (wL 6)) := by decide +kernel
theorem cd_7 : X11_code 97 108 119 97 121 115 = lN (cdN (wC 7) (wL 7)) := by decide +kernel
theorem cd_8 : X11_code 102 114 111 109 0 0 = lN (cdN (wC 8) (wL 8)) := by decide +kernel
section MC
variable {n : Nat} {T : Nat → Nat} {μ0 μ : Mem} {m q : Nat} {f : Int32}
/-- word, number, then the number is put into row 163: the end of three clauses -/
theorem tail_m (h : MB n T μ0 m μ f q) (hm : m < 9) {w lo hi : Nat} (hw : w < 9) {j : Int64} (hj : j = lN (cdN (wC w) (wL w))) (hlo : lo < 1000) (hhi : hi < 1000) {so a : Nat} (hs : so = 2 ∨ so = 3) (e1 : mI μ 161 m = nI so) (e2 : mI μ 162 m = nI a) : PM n T μ0 m f (sb (pW n T w q) fun q2 => sb (pN n T lo hi q2) fun b => .inr ((so, a, b.1, 0), b.2)) ((X11_needs 134 j μ).bind fun z10 => ((if z10.1 ≤ 0 then (vO 11 134 z10.2).bind fun g13 => (X11_readNumber 134 (nI lo) (nI hi) z10.2).bind fun z14 => some ((z14.1, z14.2)) else some ((z10.1, z10.2))) : Option (Int32 × Mem)).bind fun z15 => (gR 11 31 134 z15.2).bind fun v16 => (gI 11 39 134 z15.2).bind fun v17 => (sI v16 (nI m) v17 z15.2).bind fun μ18 => some (z15.1, μ18)) := by
  obtain ⟨hy, hn⟩ := needs_m hw hj h
  unfold pW
  by_cases z : wQ n T (sk n T q) w = true
  · obtain ⟨μ1, h1, kp1, f1⟩ := hy z
    rw [if_pos z, f1, Option.bind_some, if_pos z00, vo_134 h1.ok, Option.bind_some]
    have hc := num_m hlo hhi h1
    show PM n T μ0 m f (sb (pN n T lo hi (we n T (sk n T q))) fun b => .inr ((so, a, b.1, 0), b.2)) _
    cases hp : pN n T lo hi (we n T (sk n T q)) with
    | inl c =>
      rw [hp] at hc
      obtain ⟨μ2, q2, h2, kp2, hk, f2⟩ := hc
      rw [f2, Option.bind_some, Option.bind_some, r_134_31 h2.ok, Option.bind_some, gi_134 h2.ok, Option.bind_some, si_163 h2.ok hm, Option.bind_some]
      exact ⟨_, _, h2.fr 163 _ (by decide), hk, rfl⟩
    | inr c =>
      rw [hp] at hc
      obtain ⟨μ2, h2, kp2, nv, f2⟩ := hc
      rw [f2, Option.bind_some, Option.bind_some, r_134_31 h2.ok, Option.bind_some, gi_134 h2.ok, nv, Option.bind_some, si_163 h2.ok hm, Option.bind_some]
      refine ⟨_, h2.fr 163 _ (by decide), ⟨?_, ?_, fun _ _ => fld_eq, fun x => ?_⟩, rfl⟩
      · rw [row_ne (by decide), kp2 161 (by decide), kp1 161 (by decide)]
        exact e1
      · rw [row_ne (by decide), kp2 162 (by decide), kp1 162 (by decide)]
        exact e2
      · have x : so = 1 := x
        omega
  · obtain ⟨μ1, h1, kp1, f1⟩ := hn z
    rw [if_neg z, f1, Option.bind_some, if_neg (show ¬ (1 : Int32) ≤ 0 by decide), Option.bind_some, r_134_31 h1.ok, Option.bind_some, gi_134 h1.ok, Option.bind_some, si_163 h1.ok hm, Option.bind_some]
    exact ⟨_, _, h1.fr 163 _ (by decide), by decide, rfl⟩
theorem most_m (h : MB n T μ0 m μ f q) (hm : m < 9) : PM n T μ0 m f (pMost n T q) (X11_readMost 134 (nI m) μ) := by
  have hc := num_m (lo := 0) (hi := 9) (by decide) (by decide) h
  unfold X11_readMost pMost
  rw [vo_134 h.ok, Option.bind_some]
  cases hp : pN n T 0 9 q with
  | inl a =>
    rw [hp] at hc
    obtain ⟨μ1, q1, h1, kp1, hk, e1⟩ := hc
    have e1 : X11_readNumber 134 0 9 μ = _ := e1
    have h2 := h1.fr 161 3 (by decide)
    have h3 := h2.fr 162 (mI (wI μ1 161 m 3) 134 39) (by decide)
    rw [e1, Option.bind_some, r_134_29 h1.ok, Option.bind_some, si_161 h1.ok hm, Option.bind_some, r_134_30 h2.ok, Option.bind_some, gi_134 h2.ok, Option.bind_some, si_162 h2.ok hm, Option.bind_some, if_neg (kn hk), Option.bind_some, if_neg (kn hk), Option.bind_some, r_134_31 h3.ok, Option.bind_some, gi_134 h3.ok, Option.bind_some, si_163 h3.ok hm, Option.bind_some]
    exact ⟨_, _, h3.fr 163 _ (by decide), hk, rfl⟩
  | inr a =>
    rw [hp] at hc
    obtain ⟨μ1, h1, kp1, nv, e1⟩ := hc
    have e1 : X11_readNumber 134 0 9 μ = _ := e1
    have h2 := h1.fr 161 3 (by decide)
    have h3 := h2.fr 162 (nI a.1) (by decide)
    have g1 : mI (wI (wI μ1 161 m 3) 162 m (nI a.1)) 161 m = nI 3 := (fld_ne (by omega)).trans fld_eq
    have t := tail_m h3 hm (w := 6) (by decide) cd_6 (lo := 1) (hi := 60) (by decide) (by decide) (so := 3) (a := a.1) (Or.inr rfl) g1 fld_eq
    rw [e1, Option.bind_some, r_134_29 h1.ok, Option.bind_some, si_161 h1.ok hm, Option.bind_some, r_134_30 h2.ok, Option.bind_some, gi_134 h2.ok, row_ne (by decide), nv, Option.bind_some, si_162 h2.ok hm, Option.bind_some, if_pos z00, vo_134 h3.ok, Option.bind_some]
    have ass : ∀ {A B C : Type} (x : Option A) (g : A → Option B) (k : B → Option C), (x.bind g).bind k = x.bind fun y => (g y).bind k := fun x g k => by cases x <;> rfl
    rw [ass]
    exact t
theorem kind_m (h : MB n T μ0 m μ f q) (hm : m < 9) : PM n T μ0 m f (pKind n T q) ((X11_readNumber 134 0 3 μ).bind fun z36 => (gR 11 29 134 z36.2).bind fun v37 => (sI v37 (nI m) 2 z36.2).bind fun μ38 => (gR 11 30 134 μ38).bind fun v39 => (gI 11 39 134 μ38).bind fun v40 => (sI v39 (nI m) v40 μ38).bind fun μ41 => ((if z36.1 ≤ 0 then (vO 11 134 μ41).bind fun g43 => (X11_needs 134 (X11_code 97 102 116 101 114 0) μ41).bind fun z44 => some ((z44.1, z44.2)) else some ((z36.1, μ41))) : Option (Int32 × Mem)).bind fun z45 => ((if z45.1 ≤ 0 then (vO 11 134 z45.2).bind fun g47 => (X11_readNumber 134 0 60 z45.2).bind fun z48 => some ((z48.1, z48.2)) else some ((z45.1, z45.2))) : Option (Int32 × Mem)).bind fun z49 => (gR 11 31 134 z49.2).bind fun v50 => (gI 11 39 134 z49.2).bind fun v51 => (sI v50 (nI m) v51 z49.2).bind fun μ52 => some (z49.1, μ52)) := by
  have hc := num_m (lo := 0) (hi := 3) (by decide) (by decide) h
  unfold pKind
  cases hp : pN n T 0 3 q with
  | inl a =>
    rw [hp] at hc
    obtain ⟨μ1, q1, h1, kp1, hk, e1⟩ := hc
    have e1 : X11_readNumber 134 0 3 μ = _ := e1
    have h2 := h1.fr 161 2 (by decide)
    have h3 := h2.fr 162 (mI (wI μ1 161 m 2) 134 39) (by decide)
    rw [e1, Option.bind_some, r_134_29 h1.ok, Option.bind_some, si_161 h1.ok hm, Option.bind_some, r_134_30 h2.ok, Option.bind_some, gi_134 h2.ok, Option.bind_some, si_162 h2.ok hm, Option.bind_some, if_neg (kn hk), Option.bind_some, if_neg (kn hk), Option.bind_some, r_134_31 h3.ok, Option.bind_some, gi_134 h3.ok, Option.bind_some, si_163 h3.ok hm, Option.bind_some]
    exact ⟨_, _, h3.fr 163 _ (by decide), hk, rfl⟩
  | inr a =>
    rw [hp] at hc
    obtain ⟨μ1, h1, kp1, nv, e1⟩ := hc
    have e1 : X11_readNumber 134 0 3 μ = _ := e1
    have h2 := h1.fr 161 2 (by decide)
    have h3 := h2.fr 162 (nI a.1) (by decide)
    have g1 : mI (wI (wI μ1 161 m 2) 162 m (nI a.1)) 161 m = nI 2 := (fld_ne (by omega)).trans fld_eq
    have t := tail_m h3 hm (w := 4) (by decide) cd_4 (lo := 0) (hi := 60) (by decide) (by decide) (so := 2) (a := a.1) (Or.inl rfl) g1 fld_eq
    rw [e1, Option.bind_some, r_134_29 h1.ok, Option.bind_some, si_161 h1.ok hm, Option.bind_some, r_134_30 h2.ok, Option.bind_some, gi_134 h2.ok, row_ne (by decide), nv, Option.bind_some, si_162 h2.ok hm, Option.bind_some, if_pos z00, vo_134 h3.ok, Option.bind_some]
    have ass : ∀ {A B C : Type} (x : Option A) (g : A → Option B) (k : B → Option C), (x.bind g).bind k = x.bind fun y => (g y).bind k := fun x g k => by cases x <;> rfl
    rw [ass]
    exact t
theorem always_m (h : MB n T μ0 m μ f q) (hm : m < 9) : PM n T μ0 m f (pAlways n T q) (X11_readAlways 134 (nI m) μ) := by
  obtain ⟨hy, hn⟩ := needs_m (w := 8) (by decide) cd_8 h
  unfold X11_readAlways pAlways pW
  rw [vo_134 h.ok, Option.bind_some]
  by_cases z : wQ n T (sk n T q) 8 = true
  · obtain ⟨μ1, h1, kp1, f1⟩ := hy z
    rw [if_pos z, f1, Option.bind_some, if_pos z00, vo_134 h1.ok, Option.bind_some]
    have hc := num_m (lo := 0) (hi := 9) (by decide) (by decide) h1
    show PM n T μ0 m f (sb (pN n T 0 9 (we n T (sk n T q))) fun a => .inr ((4, a.1, 0, 0), a.2)) _
    cases hp : pN n T 0 9 (we n T (sk n T q)) with
    | inl c =>
      rw [hp] at hc
      obtain ⟨μ2, q2, h2, kp2, hk, f2⟩ := hc
      have f2 : X11_readNumber 134 0 9 μ1 = _ := f2
      have h3 := h2.fr 161 4 (by decide)
      rw [f2, Option.bind_some, Option.bind_some, r_134_29 h2.ok, Option.bind_some, si_161 h2.ok hm, Option.bind_some, r_134_30 h3.ok, Option.bind_some, gi_134 h3.ok, Option.bind_some, si_162 h3.ok hm, Option.bind_some]
      exact ⟨_, _, h3.fr 162 _ (by decide), hk, rfl⟩
    | inr c =>
      rw [hp] at hc
      obtain ⟨μ2, h2, kp2, nv, f2⟩ := hc
      have f2 : X11_readNumber 134 0 9 μ1 = _ := f2
      have h3 := h2.fr 161 4 (by decide)
      rw [f2, Option.bind_some, Option.bind_some, r_134_29 h2.ok, Option.bind_some, si_161 h2.ok hm, Option.bind_some, r_134_30 h3.ok, Option.bind_some, gi_134 h3.ok, row_ne (by decide), nv, Option.bind_some, si_162 h3.ok hm, Option.bind_some]
      refine ⟨_, h3.fr 162 _ (by decide), ⟨(fld_ne (by omega)).trans fld_eq, fld_eq, fun _ x => ?_, fun x => ?_⟩, rfl⟩
      · exact absurd (show (4 : Nat) ≤ 3 from x) (by decide)
      · exact absurd (show (4 : Nat) = 1 from x) (by decide)
  · obtain ⟨μ1, h1, kp1, f1⟩ := hn z
    have h3 := h1.fr 161 4 (by decide)
    rw [if_neg z, f1, Option.bind_some, if_neg (show ¬ (1 : Int32) ≤ 0 by decide), Option.bind_some, r_134_29 h1.ok, Option.bind_some, si_161 h1.ok hm, Option.bind_some, r_134_30 h3.ok, Option.bind_some, gi_134 h3.ok, Option.bind_some, si_162 h3.ok hm, Option.bind_some]
    exact ⟨_, _, h3.fr 162 _ (by decide), by decide, rfl⟩
theorem way_m (h : MB n T μ0 m μ f q) (hm : m < 9) : PM n T μ0 m f (pWay n T q) (X11_readWay 134 (nI m) μ) := by
  have hc := num_m (lo := 0) (hi := 3) (by decide) (by decide) h
  unfold X11_readWay pWay
  rw [vo_134 h.ok, Option.bind_some]
  cases hp : pN n T 0 3 q with
  | inl a =>
    rw [hp] at hc
    obtain ⟨μ1, q1, h1, kp1, hk, e1⟩ := hc
    have e1 : X11_readNumber 134 0 3 μ = _ := e1
    have h2 := h1.fr 161 0 (by decide)
    rw [e1, Option.bind_some, r_134_29 h1.ok, Option.bind_some, si_161 h1.ok hm, Option.bind_some, r_134_30 h2.ok, Option.bind_some, gi_134 h2.ok, Option.bind_some, si_162 h2.ok hm, Option.bind_some, if_pos (kp0 hk)]
    exact ⟨_, _, h2.fr 162 _ (by decide), hk, rfl⟩
  | inr a =>
    rw [hp] at hc
    obtain ⟨μ1, h1, kp1, nv, e1⟩ := hc
    have e1 : X11_readNumber 134 0 3 μ = _ := e1
    have h2 := h1.fr 161 0 (by decide)
    have h3 := h2.fr 162 (nI a.1) (by decide)
    have g1 : mI (wI (wI μ1 161 m 0) 162 m (nI a.1)) 161 m = 0 := (fld_ne (by omega)).trans fld_eq
    have g2 : mI (wI (wI μ1 161 m 0) 162 m (nI a.1)) 162 m = nI a.1 := fld_eq
    obtain ⟨μ4, h4, kp4, e4⟩ := here_m h3
    have hs := h4.2.2.2
    have ci : (X11_in (chV n T (sk n T a.2)).toInt64 97 122 = 0) = ¬ (sk n T a.2 < n ∧ 97 ≤ T (sk n T a.2) ∧ T (sk n T a.2) ≤ 122) := in_ch (s := sk n T a.2) (lo := 97) (hi := 122) h (by decide) (by decide) (by decide) hs
    rw [e1, Option.bind_some, r_134_29 h1.ok, Option.bind_some, si_161 h1.ok hm, Option.bind_some, r_134_30 h2.ok, Option.bind_some, gi_134 h2.ok, row_ne (by decide), nv, Option.bind_some, si_162 h2.ok hm, Option.bind_some, if_neg (show ¬ (0 : Int32) < 0 by decide), vo_134 h3.ok, Option.bind_some, e4, Option.bind_some]
    simp only [ci]
    show PM n T μ0 m f (if sk n T a.2 < n ∧ isL (T (sk n T a.2)) = true then sb (pW n T 2 a.2) fun q1 => sb (pN n T 0 3 q1) fun b => sb (pN n T 0 100 b.2) fun c => .inr ((1, a.1, b.1, c.1), c.2) else .inr ((0, a.1, 0, 0), sk n T a.2)) _
    by_cases y : sk n T a.2 < n ∧ isL (T (sk n T a.2)) = true
    · have y2 : ¬ ¬ (sk n T a.2 < n ∧ 97 ≤ T (sk n T a.2) ∧ T (sk n T a.2) ≤ 122) := fun w => w ⟨y.1, by
        have := y.2
        unfold isL at this
        rw [decide_eq_true_eq] at this
        exact this⟩
      rw [if_pos y, if_neg y2, vo_134 h4.ok, Option.bind_some]
      obtain ⟨hy, hn⟩ := needs_m (w := 2) (by decide) cd_2 h4
      rw [show sk n T (sk n T a.2) = sk n T a.2 from sk_idem] at hy hn
      unfold pW
      by_cases z : wQ n T (sk n T a.2) 2 = true
      · obtain ⟨μ5, h5, kp5, e5⟩ := hy z
        rw [if_pos z, e5, Option.bind_some, if_pos z00, vo_134 h5.ok, Option.bind_some]
        have hc2 := num_m (lo := 0) (hi := 3) (by decide) (by decide) h5
        show PM n T μ0 m f (sb (pN n T 0 3 (we n T (sk n T a.2))) fun b => sb (pN n T 0 100 b.2) fun c => .inr ((1, a.1, b.1, c.1), c.2)) _
        cases hp2 : pN n T 0 3 (we n T (sk n T a.2)) with
        | inl b =>
          rw [hp2] at hc2
          obtain ⟨μ6, q6, h6, kp6, hk, e6⟩ := hc2
          have e6 : X11_readNumber 134 0 3 μ5 = _ := e6
          have h7 := h6.fr 161 1 (by decide)
          have h8 := h7.fr 163 (mI (wI μ6 161 m 1) 134 39) (by decide)
          rw [e6, Option.bind_some, Option.bind_some, r_134_29 h6.ok, Option.bind_some, si_161 h6.ok hm, Option.bind_some, r_134_31 h7.ok, Option.bind_some, gi_134 h7.ok, Option.bind_some, si_163 h7.ok hm, Option.bind_some, if_neg (kn hk), Option.bind_some, r_134_32 h8.ok, Option.bind_some, gi_134 h8.ok, Option.bind_some, si_164 h8.ok hm, Option.bind_some]
          exact ⟨_, _, h8.fr 164 _ (by decide), hk, rfl⟩
        | inr b =>
          rw [hp2] at hc2
          obtain ⟨μ6, h6, kp6, nv6, e6⟩ := hc2
          have e6 : X11_readNumber 134 0 3 μ5 = _ := e6
          have h7 := h6.fr 161 1 (by decide)
          have h8 := h7.fr 163 (nI b.1) (by decide)
          rw [e6, Option.bind_some, Option.bind_some, r_134_29 h6.ok, Option.bind_some, si_161 h6.ok hm, Option.bind_some, r_134_31 h7.ok, Option.bind_some, gi_134 h7.ok, row_ne (by decide), nv6, Option.bind_some, si_163 h7.ok hm, Option.bind_some, if_pos z00, vo_134 h8.ok, Option.bind_some]
          have hc3 := num_m (lo := 0) (hi := 100) (by decide) (by decide) h8
          show PM n T μ0 m f (sb (pN n T 0 100 b.2) fun c => .inr ((1, a.1, b.1, c.1), c.2)) _
          cases hp3 : pN n T 0 100 b.2 with
          | inl c =>
            rw [hp3] at hc3
            obtain ⟨μ9, q9, h9, kp9, hk, e9⟩ := hc3
            have e9 : X11_readNumber 134 0 100 (wI (wI μ6 161 m 1) 163 m (nI b.1)) = _ := e9
            rw [e9, Option.bind_some, Option.bind_some, r_134_32 h9.ok, Option.bind_some, gi_134 h9.ok, Option.bind_some, si_164 h9.ok hm, Option.bind_some]
            exact ⟨_, _, h9.fr 164 _ (by decide), hk, rfl⟩
          | inr c =>
            rw [hp3] at hc3
            obtain ⟨μ9, h9, kp9, nv9, e9⟩ := hc3
            have e9 : X11_readNumber 134 0 100 (wI (wI μ6 161 m 1) 163 m (nI b.1)) = _ := e9
            rw [e9, Option.bind_some, Option.bind_some, r_134_32 h9.ok, Option.bind_some, gi_134 h9.ok, nv9, Option.bind_some, si_164 h9.ok hm, Option.bind_some]
            refine ⟨_, h9.fr 164 _ (by decide), ⟨?_, ?_, fun _ _ => ?_, fun _ => fld_eq⟩, rfl⟩
            · rw [row_ne (by decide), kp9 161 (by decide), row_ne (by decide)]
              exact fld_eq
            · rw [row_ne (by decide), kp9 162 (by decide), row_ne (by decide), row_ne (by decide), kp6 162 (by decide), kp5 162 (by decide), kp4 162 (by decide)]
              exact g2
            · rw [row_ne (by decide), kp9 163 (by decide)]
              exact fld_eq
      · obtain ⟨μ5, h5, kp5, e5⟩ := hn z
        have h7 := h5.fr 161 1 (by decide)
        have h8 := h7.fr 163 (mI (wI μ5 161 m 1) 134 39) (by decide)
        rw [if_neg z, e5, Option.bind_some, if_neg (show ¬ (1 : Int32) ≤ 0 by decide), Option.bind_some, r_134_29 h5.ok, Option.bind_some, si_161 h5.ok hm, Option.bind_some, r_134_31 h7.ok, Option.bind_some, gi_134 h7.ok, Option.bind_some, si_163 h7.ok hm, Option.bind_some, if_neg (show ¬ (1 : Int32) ≤ 0 by decide), Option.bind_some, r_134_32 h8.ok, Option.bind_some, gi_134 h8.ok, Option.bind_some, si_164 h8.ok hm, Option.bind_some]
        exact ⟨_, _, h8.fr 164 _ (by decide), by decide, rfl⟩
    · have y2 : ¬ (sk n T a.2 < n ∧ 97 ≤ T (sk n T a.2) ∧ T (sk n T a.2) ≤ 122) := fun w => y ⟨w.1, decide_eq_true w.2⟩
      rw [if_neg y, if_pos y2]
      refine ⟨μ4, h4, ⟨?_, ?_, fun x _ => ?_, fun x => ?_⟩, rfl⟩
      · rw [kp4 161 (by decide)]
        exact g1
      · rw [kp4 162 (by decide)]
        exact g2
      · exact absurd (show 1 ≤ 0 from x) (by decide)
      · exact absurd (show (0 : Nat) = 1 from x) (by decide)
theorem never_m (h : MB n T μ0 m μ f q) (hm : m < 9) : PM n T μ0 m f (pNever n T q) (X11_readNever 134 (nI m) μ) := by
  have hn := h.n0
  obtain ⟨μ1, h1, kp, f1, f2, e1⟩ := word_m h
  have hs := h1.2.2.2
  have gj : gJ 11 37 134 μ1 = some (lN (wcN T (sk n T q) (we n T (sk n T q) - sk n T q))) := by rw [gJ_eq (a := 134) h1.ok (by decide) rfl, f2]
  have cw1 := wcB (n := n) (T := T) (sk n T q) 1 (by decide) (weL _)
  have cw3 := wcB (n := n) (T := T) (sk n T q) 3 (by decide) (weL _)
  have we2 := we_le (n := n) (T := T) hs
  have pid : ∀ r : Option (Int32 × Mem), (r.bind fun z => some (z.1, z.2)) = r := fun r => by cases r <;> rfl
  unfold X11_readNever pNever
  rw [vo_134 h.ok, Option.bind_some, e1, Option.bind_some, gj, Option.bind_some, cd_1, cd_3]
  simp only [cw1, cw3]
  have h2 := h1.at' (we n T (sk n T q)) we2
  by_cases z : wQ n T (sk n T q) 1 = true
  · rw [if_pos z, if_pos z, Option.bind_some, if_neg (show ¬ (1 : Int32) = 0 by decide), gi_134 h1.ok, f1, Option.bind_some, pi_134 h1.ok, Option.bind_some, if_neg (show ¬ (1 : Int32) = 0 by decide), vo_134 h2.ok, Option.bind_some, pid]
    exact way_m h2 hm
  · rw [if_neg z, if_neg z, Option.bind_some, if_pos (show (0 : Int32) = 0 from rfl)]
    unfold pW
    by_cases z3 : wQ n T (sk n T q) 3 = true
    · rw [if_pos z3, Option.bind_some]
      simp only [cw3]
      rw [if_pos z3, gi_134 h1.ok, f1, Option.bind_some, pi_134 h1.ok, Option.bind_some, if_pos trivial, vo_134 h2.ok, Option.bind_some]
      exact kind_m h2 hm
    · rw [if_neg z3, Option.bind_some]
      simp only [cw3]
      rw [if_neg z3, gi_134 h1.ok, h1.2.2.1.2, Option.bind_some, vo_134 h1.ok, Option.bind_some, fails_m h1, Option.bind_some]
      exact ⟨_, _, h1.pl _, by decide, rfl⟩
theorem clause_m (h : MB n T μ0 m μ f q) (hsk : sk n T q = q) (hm : m ≤ 8) : PM n T μ0 m f (pClause n T m q) (X11_readClause 134 (nI m) μ) := by
  have hn := h.n0
  obtain ⟨μ1, h1, kp, f1, f2, e1⟩ := word_m h
  rw [hsk] at h1 f1 f2
  have hs := h1.2.2.2
  have gj : gJ 11 37 134 μ1 = some (lN (wcN T q (we n T q - q))) := by rw [gJ_eq (a := 134) h1.ok (by decide) rfl, f2]
  have cw0 := wcB (n := n) (T := T) q 0 (by decide) (weL _)
  have cw5 := wcB (n := n) (T := T) q 5 (by decide) (weL _)
  have cw7 := wcB (n := n) (T := T) q 7 (by decide) (weL _)
  have we2 := we_le (n := n) (T := T) hs
  have h2 := h1.at' (we n T q) we2
  have pid : ∀ r : Option (Int32 × Mem), (r.bind fun z => some ((z.1, z.2))) = r := fun r => by cases r <;> rfl
  have c8 : (nI m = 8) = (m = 8) := n_eq (b := 8) (by omega) (by decide)
  -- what stands behind the clause's own words
  have tail : ∀ (o : Flt ⊕ (Cls × Nat)) (r : Option (Int32 × Mem)), PM n T μ0 m f o r → PM n T μ0 m f (sb o (pE n T)) (r.bind fun z27 => if z27.1 ≤ 0 then (vO 11 134 z27.2).bind fun g29 => (X11_here 134 z27.2).bind fun z30 => if z30.1 = 59 then (gI 11 36 134 z30.2).bind fun v32 => (pI 11 36 134 (v32 + 1) z30.2).bind fun μ33 => some (0, μ33) else (gI 11 36 134 z30.2).bind fun v34 => (vO 11 134 z30.2).bind fun g35 => (X11_fails 134 1 v34 z30.2).bind fun z36 => some (z36.1, z36.2) else some (z27.1, z27.2)) := by
    intro o r hr
    cases o with
    | inl a =>
      obtain ⟨μ', q', h', hk, er⟩ := hr
      rw [er, Option.bind_some, if_neg (kn hk)]
      exact ⟨μ', q', h', hk, rfl⟩
    | inr a =>
      obtain ⟨μ', h', fr, er⟩ := hr
      obtain ⟨μ3, h3, kp3, e3⟩ := here_m h'
      have hs3 := h3.2.2.2
      rw [er, Option.bind_some, if_pos z00, vo_134 h'.ok, Option.bind_some, e3, Option.bind_some]
      have c59 : (chV n T (sk n T a.2) = 59) = (sk n T a.2 < n ∧ T (sk n T a.2) = 59) := by
        unfold chV
        by_cases y : sk n T a.2 < n
        · have b := h'.b (i := sk n T a.2) (by omega)
          rw [if_pos y, show (nI (T (sk n T a.2)) = 59) = (T (sk n T a.2) = 59) from n_eq (b := 59) (by omega) (by decide)]
          exact propext ⟨fun w => ⟨y, w⟩, fun w => w.2⟩
        · rw [if_neg y]
          exact propext ⟨fun w => absurd w (by decide), fun w => absurd w.1 y⟩
      simp only [c59]
      show PM n T μ0 m f (pE n T (a.1, a.2)) _
      unfold pE
      by_cases y : sk n T a.2 < n ∧ T (sk n T a.2) = 59
      · rw [if_pos y, if_pos y, gi_134 h3.ok, h3.2.2.1.2, Option.bind_some, nI_add1, pi_134 h3.ok, Option.bind_some]
        refine ⟨_, h3.at' (sk n T a.2 + 1) (by omega), ⟨?_, ?_, fun x1 x2 => ?_, fun x => ?_⟩, rfl⟩
        · rw [row_ne (by decide), kp3 161 (by decide)]
          exact fr.1
        · rw [row_ne (by decide), kp3 162 (by decide)]
          exact fr.2.1
        · rw [row_ne (by decide), kp3 163 (by decide)]
          exact fr.2.2.1 x1 x2
        · rw [row_ne (by decide), kp3 164 (by decide)]
          exact fr.2.2.2 x
      · rw [if_neg y, if_neg y, gi_134 h3.ok, h3.2.2.1.2, Option.bind_some, vo_134 h3.ok, Option.bind_some, fails_m h3, Option.bind_some]
        exact ⟨_, _, h3.pl _, by decide, rfl⟩
  unfold X11_readClause pClause pHead
  rw [vo_134 h.ok, Option.bind_some, e1, Option.bind_some, gj, cd_0, cd_5, cd_7]
  simp only [Option.bind_some, cw0, cw5, cw7, c8]
  have ninth : ∀ x : Int32, (0 : Int32) ≤ x → PM n T μ0 m f (sb (.inl (3, q) : Flt ⊕ (Cls × Nat)) (pE n T)) ((some (if (0 : Int32) ≤ x then 3 else 1 : Int32)).bind fun v38 => (gI 11 36 134 μ1).bind fun v39 => (vO 11 134 μ1).bind fun g40 => (X11_fails 134 v38 v39 μ1).bind fun z41 => some (z41.1, z41.2)) := fun x hx => by
    rw [if_pos hx, Option.bind_some, gi_134 h1.ok, h1.2.2.1.2, Option.bind_some, vo_134 h1.ok, Option.bind_some, fails_m h1, Option.bind_some]
    exact ⟨_, _, h1.pl _, by decide, rfl⟩
  by_cases z0 : wQ n T q 0 = true
  · rw [if_pos z0, if_pos z0, Option.bind_some, if_neg (show ¬ (0 : Int32) < 0 by decide)]
    by_cases y : m = 8
    · rw [if_pos y, if_neg (show ¬ m < 8 by omega)]
      exact ninth 0 (by decide)
    · rw [if_neg y, if_pos (show m < 8 by omega), gi_134 h1.ok, f1, Option.bind_some, pi_134 h1.ok, Option.bind_some, if_pos (show (0 : Int32) = 0 from rfl), vo_134 h2.ok, Option.bind_some, pid]
      exact tail _ _ (never_m h2 (by omega))
  · rw [if_neg z0, if_neg z0]
    by_cases z5 : wQ n T q 5 = true
    · rw [if_pos z5, if_pos z5, Option.bind_some, if_neg (show ¬ (1 : Int32) < 0 by decide)]
      by_cases y : m = 8
      · rw [if_pos y, if_neg (show ¬ m < 8 by omega)]
        exact ninth 1 (by decide)
      · rw [if_neg y, if_pos (show m < 8 by omega), gi_134 h1.ok, f1, Option.bind_some, pi_134 h1.ok, Option.bind_some, if_neg (show ¬ (1 : Int32) = 0 by decide), if_pos (show (1 : Int32) = 1 from rfl), vo_134 h2.ok, Option.bind_some, pid]
        exact tail _ _ (most_m h2 (by omega))
    · rw [if_neg z5, if_neg z5]
      by_cases z7 : wQ n T q 7 = true
      · rw [if_pos z7, if_pos z7, Option.bind_some, if_neg (show ¬ (2 : Int32) < 0 by decide)]
        by_cases y : m = 8
        · rw [if_pos y, if_neg (show ¬ m < 8 by omega)]
          exact ninth 2 (by decide)
        · rw [if_neg y, if_pos (show m < 8 by omega), gi_134 h1.ok, f1, Option.bind_some, pi_134 h1.ok, Option.bind_some, if_neg (show ¬ (2 : Int32) = 0 by decide), if_neg (show ¬ (2 : Int32) = 1 by decide), vo_134 h2.ok, Option.bind_some, pid]
          exact tail _ _ (always_m h2 (by omega))
      · rw [if_neg z7, if_neg z7, Option.bind_some, if_pos (show (-1 : Int32) < 0 by decide), if_neg (show ¬ (0 : Int32) ≤ -1 by decide), gi_134 h1.ok, h1.2.2.1.2, Option.bind_some, vo_134 h1.ok, Option.bind_some, fails_m h1, Option.bind_some]
        exact ⟨_, _, h1.pl _, by decide, rfl⟩
end MC
