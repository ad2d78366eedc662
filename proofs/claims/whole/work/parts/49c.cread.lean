/-! ===== the class reads the text ===== -/
def Sc (μ μ' : Mem) : Prop := Ok μ' ∧ mR μ' = mR μ ∧ ∀ a j, ¬ (a = 90 ∧ (j = 1 ∨ j = 2 ∨ j = 4)) → mI μ' a j = mI μ a j
def STc (μ : Mem) (n : Nat) (T : Nat → Nat) : Prop := mI μ 90 0 = nI n ∧ n ≤ 160 ∧ ∀ i, i < 160 → mI μ 91 i = nI (T i) ∧ T i ≤ 255
/-- a memory on the way: fault k at f, the place q -/
def CP (n : Nat) (T : Nat → Nat) (μ0 μ : Mem) (k : Nat) (f : Int32) (q : Nat) : Prop := Sc μ0 μ ∧ STc μ n T ∧ (mI μ 90 1 = nI k ∧ mI μ 90 2 = f ∧ mI μ 90 4 = nI q) ∧ q ≤ n ∧ k ≤ 3
section CR
variable {n : Nat} {T : Nat → Nat} {μ0 μ : Mem} {k q : Nat} {f : Int32}
theorem CP.ok (h : CP n T μ0 μ k f q) : Ok μ := h.1.1
theorem CP.rd (h : CP n T μ0 μ k f q) {i : Nat} (hi : i < 160) : aI 91 (nI i) μ = some (nI (T i)) := by rw [ai_91 h.ok hi, (h.2.1.2.2 i hi).1]
theorem CP.b (h : CP n T μ0 μ k f q) {i : Nat} (hi : i < 160) : T i ≤ 255 := (h.2.1.2.2 i hi).2
theorem CP.n0 (h : CP n T μ0 μ k f q) : n ≤ 160 := h.2.1.2.1
theorem CP.at' (h : CP n T μ0 μ k f q) (q' : Nat) (hq : q' ≤ n) : CP n T μ0 (wI μ 90 4 (nI q')) k f q' := by
  obtain ⟨⟨o, r, fr⟩, ⟨t1, t2, t3⟩, ⟨f1, f2, f3⟩, hq0, hk⟩ := h
  refine ⟨⟨o, r, fun a j z => ?_⟩, ⟨(fld_ne (by omega)).trans t1, t2, fun i hi => ?_⟩, ⟨(fld_ne (by omega)).trans f1, (fld_ne (by omega)).trans f2, fld_eq⟩, hq, hk⟩
  · rw [fld_ne (by omega)]
    exact fr a j z
  · rw [row_ne (by omega)]
    exact t3 i hi
theorem CP.flt (h : CP n T μ0 μ k f q) (k' : Nat) (x : Int32) (hk' : k' ≤ 3) : CP n T μ0 (wI (wI μ 90 1 (nI k')) 90 2 x) k' x q := by
  obtain ⟨⟨o, r, fr⟩, ⟨t1, t2, t3⟩, ⟨f1, f2, f3⟩, hq0, hk⟩ := h
  refine ⟨⟨o, r, fun a j z => ?_⟩, ⟨(fld_ne (by omega)).trans ((fld_ne (by omega)).trans t1), t2, fun i hi => ?_⟩, ⟨(fld_ne (by omega)).trans fld_eq, fld_eq, (fld_ne (by omega)).trans ((fld_ne (by omega)).trans f3)⟩, hq0, hk'⟩
  · rw [fld_ne (by omega), fld_ne (by omega)]
    exact fr a j z
  · rw [row_ne (by omega), row_ne (by omega)]
    exact t3 i hi
theorem isB_n {c : Nat} (h : c ≤ 255) : (nI c = 32) = (isB c = true) := by
  unfold isB
  rw [decide_eq_true_eq]
  exact n_eq (b := 32) (by omega) (by decide)
theorem skip0_c : ∀ d m μ q, n - q = d → CP n T μ0 μ k f q → ∃ μ', CP n T μ0 μ' k f (sk n T q) ∧ X2_skipBlanks_L0 90 (m + d + 1) μ = some μ' := by
  intro d
  induction d with
  | zero =>
    intro m μ q hd h
    have hn := h.n0
    refine ⟨μ, ?_, ?_⟩
    · rw [show sk n T q = q by unfold sk; rw [scn_eq, if_neg (by omega)]]
      exact h
    · rw [X2_skipBlanks_L0, gi_90 h.ok, h.2.2.1.2.2, Option.bind_some, gi_90 h.ok, h.2.1.1, Option.bind_some, if_pos (nI_le (by omega) (by have := h.2.2.2.1; omega))]
  | succ d ih =>
    intro m μ q hd h
    have hn := h.n0
    have hq := h.2.2.2.1
    have b := h.b (i := q) (by omega)
    rw [show m + (d + 1) + 1 = m + d + 1 + 1 by omega, X2_skipBlanks_L0, gi_90 h.ok, h.2.2.1.2.2, Option.bind_some, gi_90 h.ok, h.2.1.1, Option.bind_some, if_neg (nI_ge (by omega) (by omega)), r_90_3 h.ok, Option.bind_some, Option.bind_some, h.rd (by omega), Option.bind_some]
    simp only [isB_n b]
    by_cases z : isB (T q) = true
    · obtain ⟨μ', h', e⟩ := ih m (wI μ 90 4 (nI (q + 1))) (q + 1) (by omega) (h.at' (q + 1) (by omega))
      refine ⟨μ', ?_, ?_⟩
      · rw [show sk n T q = sk n T (q + 1) by unfold sk; rw [scn_eq, if_pos ⟨by omega, z⟩]]
        exact h'
      · rw [if_pos z, Option.bind_some, nI_add1, pi_90 h.ok, Option.bind_some]
        exact e
    · refine ⟨μ, ?_, ?_⟩
      · rw [show sk n T q = q by unfold sk; rw [scn_eq, if_neg (fun w => z w.2)]]
        exact h
      · rw [if_neg z]
theorem skip_c (h : CP n T μ0 μ k f q) : ∃ μ', CP n T μ0 μ' k f (sk n T q) ∧ X2_skipBlanks 90 μ = some μ' := by
  have hn := h.n0
  obtain ⟨μ', h', e⟩ := skip0_c (n - q) (99999 - (n - q)) μ q rfl h
  refine ⟨μ', h', ?_⟩
  rw [show 99999 - (n - q) + (n - q) + 1 = FU by unfold FU; omega] at e
  unfold X2_skipBlanks
  rw [e, Option.bind_some]
theorem word18_c (w : Nat) (h : CP n T μ0 μ k f q) : ∀ d m p, n - p = d → p ≤ n → X2_takeWord_L18 90 w μ (m + d + 1) (nI p) = some (nI (we n T p)) := by
  have hn := h.n0
  intro d
  induction d with
  | zero =>
    intro m p hd hp
    rw [show we n T p = p by unfold we; rw [scn_eq, if_neg (by omega)], X2_takeWord_L18, gi_90 h.ok, h.2.1.1, Option.bind_some, if_pos (nI_le (by omega) (by omega))]
  | succ d ih =>
    intro m p hd hp
    have b := h.b (i := p) (by omega)
    rw [show m + (d + 1) + 1 = m + d + 1 + 1 by omega, X2_takeWord_L18, gi_90 h.ok, h.2.1.1, Option.bind_some, if_neg (nI_ge (by omega) (by omega)), r_90_3 h.ok, Option.bind_some, h.rd (by omega), Option.bind_some, Option.bind_some, h.rd (by omega), Option.bind_some]
    have c1 : (nI (T p) < 97) = (T p < 97) := n_lt (b := 97) (by omega) (by decide)
    have c2 : ((122 : Int32) < nI (T p)) = (122 < T p) := n_lt (a := 122) (by decide) (by omega)
    simp only [c1, c2]
    by_cases z : isL (T p) = true
    · have z' := z
      unfold isL at z'
      rw [decide_eq_true_eq] at z'
      rw [if_neg (by omega), if_neg (by omega), nI_add1, show we n T p = we n T (p + 1) by unfold we; rw [scn_eq, if_pos ⟨by omega, z⟩]]
      exact ih m (p + 1) (by omega) (by omega)
    · have z' := z
      unfold isL at z'
      rw [decide_eq_true_eq] at z'
      rw [show we n T p = p by unfold we; rw [scn_eq, if_neg (fun w => z w.2)]]
      by_cases y : T p < 97
      · rw [if_pos y]
      · rw [if_neg y, if_pos (by omega)]
theorem sLe_eq {w : Nat} (hw : w < 9) : sLe w = some (nI (wL w)) := by
  unfold sLe
  rw [if_pos hw]
  rfl
theorem sChr_eq {w i : Nat} (hw : w < 9) (hi : i < wL w) : sChr w (nI i) = some (nI (wC w i)) := by
  have h6 := wL_ok w hw
  unfold sChr
  rw [nI_clamp (by omega), if_pos ⟨hw, fun z => by
    rcases z with z | z
    · exact nI_pos (by omega) z
    · have : sLens.getD w 0 = wL w := rfl
      omega⟩, (wC_ok w hw i (by omega) hi).1]
theorem word71_c {w : Nat} (hw : w < 9) {e : Nat} (h : CP n T μ0 μ k f q) (he : q + wL w = e) (hen : e ≤ n) : X2_takeWord_L71 90 w (nI e) μ FU 0 = some (if (∀ i, i < wL w → T (q + i) = wC w i) then (1, wI μ 90 4 (nI e)) else (0, μ)) := by
  have hn := h.n0
  have h6 := wL_ok w hw
  obtain ⟨b, Q, e1⟩ := loopE (F := fun m (_ : Unit) i => X2_takeWord_L71 90 w (nI e) μ m (nI i)) (P := fun i _ => ∀ j, j < i → T (q + j) = wC w j) (Q := fun b => b = (if (∀ i, i < wL w → T (q + i) = wC w i) then ((1 : Int32), wI μ 90 4 (nI e)) else (0, μ))) (n := wL w) (by omega) (fun m _ i hi P => by
    have b := h.b (i := q + i) (by omega)
    have wc := (wC_ok w hw i (by omega) hi).2
    show (∃ a', _ ∧ X2_takeWord_L71 90 w (nI e) μ (m + 1) (nI i) = _) ∨ ∃ b, _ ∧ X2_takeWord_L71 90 w (nI e) μ (m + 1) (nI i) = some b
    rw [X2_takeWord_L71, sLe_eq hw, Option.bind_some, if_neg (nI_ge hi (by omega)), r_90_3 h.ok, Option.bind_some, gi_90 h.ok, h.2.2.1.2.2, Option.bind_some, nI_add, h.rd (by omega), Option.bind_some, sChr_eq hw hi, Option.bind_some]
    have c : (nI (T (q + i)) = nI (wC w i)) = (T (q + i) = wC w i) := n_eq (by omega) (by omega)
    simp only [c]
    by_cases z : T (q + i) = wC w i
    · refine Or.inl ⟨(), fun j hj => ?_, by rw [if_pos z, nI_add1]⟩
      by_cases y : j = i
      · subst y
        exact z
      · exact P j (by omega)
    · refine Or.inr ⟨(0, μ), ?_, by rw [if_neg z]⟩
      rw [if_neg (fun y => z (y i hi))]) (fun m _ P => by
    refine ⟨(1, wI μ 90 4 (nI e)), by rw [if_pos P], ?_⟩
    show X2_takeWord_L71 90 w (nI e) μ (m + 1) (nI (wL w)) = _
    rw [X2_takeWord_L71, sLe_eq hw, Option.bind_some, if_pos (nI_le (Nat.le_refl _) (by omega)), pi_90 h.ok, Option.bind_some]) () (fun j hj => by omega)
  subst Q
  exact e1
theorem k0 {k : Nat} (hk : k ≤ 3) : (nI k = 0) = (k = 0) := n_eq (b := 0) (by omega) (by decide)
theorem word_c {w : Nat} (hw : w < 9) (h : CP n T μ0 μ 0 f q) : ∃ μ', CP n T μ0 μ' 0 f (if wQ n T (sk n T q) w = true then we n T (sk n T q) else sk n T q) ∧ X2_takeWord 90 w μ = some (if wQ n T (sk n T q) w = true then 1 else 0, μ') := by
  have hn := h.n0
  have h6 := wL_ok w hw
  obtain ⟨μ1, h1, e1⟩ := skip_c h
  have hs := h1.2.2.2.1
  have w1 := word18_c w h1 (n - sk n T q) (99999 - (n - sk n T q)) (sk n T q) rfl hs
  rw [show 99999 - (n - sk n T q) + (n - sk n T q) + 1 = FU by unfold FU; omega] at w1
  have we1 := we_ge (n := n) (T := T) (q := sk n T q)
  have we2 := we_le (n := n) (T := T) hs
  unfold X2_takeWord
  rw [gi_90 h.ok, h.2.2.1.1, Option.bind_some, if_pos (show nI 0 = (0 : Int32) from rfl), vo_90 h.ok, Option.bind_some, e1, Option.bind_some, gi_90 h1.ok, h1.2.2.1.2.2, Option.bind_some, w1, Option.bind_some, Option.bind_some, sLe_eq hw, Option.bind_some, pk_sub we1]
  simp only [n_eq (show we n T (sk n T q) - sk n T q < 2 ^ 31 by omega) (show wL w < 2 ^ 31 by omega)]
  by_cases z : we n T (sk n T q) - sk n T q = wL w
  · rw [if_pos z, word71_c hw h1 (by omega) we2]
    by_cases y : ∀ i, i < wL w → T (sk n T q + i) = wC w i
    · have yq : wQ n T (sk n T q) w = true := decide_eq_true ⟨z, y⟩
      rw [if_pos y, if_pos yq, if_pos yq]
      exact ⟨_, h1.at' _ we2, rfl⟩
    · have yq : ¬ wQ n T (sk n T q) w = true := fun x => y (of_decide_eq_true x).2
      rw [if_neg y, if_neg yq, if_neg yq]
      exact ⟨_, h1, rfl⟩
  · have yq : ¬ wQ n T (sk n T q) w = true := fun x => z (of_decide_eq_true x).1
    rw [if_neg z, if_neg yq, if_neg yq]
    exact ⟨_, h1, rfl⟩
theorem word_cF (w : Nat) (h : CP n T μ0 μ k f q) (hk : ¬ k = 0) : X2_takeWord 90 w μ = some (0, μ) := by
  unfold X2_takeWord
  rw [gi_90 h.ok, h.2.2.1.1, Option.bind_some, if_neg (by rw [k0 h.2.2.2.2]; exact hk)]
theorem note_c (h : CP n T μ0 μ 0 f q) (k' : Nat) (x : Int32) (hk : k' ≤ 3) : ∃ μ', CP n T μ0 μ' k' x q ∧ X2_note 90 (nI k') x μ = some μ' := by
  refine ⟨_, h.flt k' x hk, ?_⟩
  unfold X2_note
  rw [gi_90 h.ok, h.2.2.1.1, Option.bind_some, if_pos (show nI 0 = (0 : Int32) from rfl), pi_90 h.ok, Option.bind_some, pi_90 h.ok.wI, Option.bind_some, Option.bind_some]
theorem note_cF (h : CP n T μ0 μ k f q) (hk : ¬ k = 0) (k' x : Int32) : X2_note 90 k' x μ = some μ := by
  unfold X2_note
  rw [gi_90 h.ok, h.2.2.1.1, Option.bind_some, if_neg (by rw [k0 h.2.2.2.2]; exact hk), Option.bind_some]
theorem need_cF (w : Nat) (h : CP n T μ0 μ k f q) (hk : ¬ k = 0) : X2_needWord 90 w μ = some μ := by
  unfold X2_needWord
  rw [vo_90 h.ok, Option.bind_some, word_cF w h hk, Option.bind_some, if_pos rfl, gi_90 h.ok, h.2.2.1.2.2, Option.bind_some, vo_90 h.ok, Option.bind_some, note_cF h hk, Option.bind_some, Option.bind_some]
theorem need_c {w : Nat} (hw : w < 9) (h : CP n T μ0 μ 0 f q) : (wQ n T (sk n T q) w = true → ∃ μ', CP n T μ0 μ' 0 f (we n T (sk n T q)) ∧ X2_needWord 90 w μ = some μ') ∧ (¬ wQ n T (sk n T q) w = true → ∃ μ', CP n T μ0 μ' 1 (nI (sk n T q)) (sk n T q) ∧ X2_needWord 90 w μ = some μ') := by
  obtain ⟨μ1, h1, e1⟩ := word_c hw h
  refine ⟨fun z => ?_, fun z => ?_⟩
  · rw [if_pos z] at h1 e1
    refine ⟨μ1, h1, ?_⟩
    unfold X2_needWord
    rw [vo_90 h.ok, Option.bind_some, e1, Option.bind_some, if_neg (show ¬ (1 : Int32) = 0 by decide), Option.bind_some]
  · rw [if_neg z] at h1 e1
    obtain ⟨μ2, h2, e2⟩ := note_c h1 1 (nI (sk n T q)) (by decide)
    refine ⟨μ2, h2, ?_⟩
    unfold X2_needWord
    rw [vo_90 h.ok, Option.bind_some, e1, Option.bind_some, if_pos rfl, gi_90 h1.ok, h1.2.2.1.2.2, Option.bind_some, vo_90 h1.ok, Option.bind_some]
    rw [show X2_note 90 1 (nI (sk n T q)) μ1 = _ from e2, Option.bind_some, Option.bind_some]
theorem num21_c (x1 x2 : Int32) {s : Nat} : ∀ d m μ p, n - p = d → s ≤ p → CP n T μ0 μ k f p → (∀ i, s ≤ i → i < p → isD (T i) = true) → ∃ μ', CP n T μ0 μ' k f (de n T p) ∧ X2_takeNumber_L21 90 x1 x2 (nI s) (m + d + 1) (nI (vC T s (p - s))) μ = some (nI (vC T s (de n T p - s)), μ') := by
  intro d
  induction d with
  | zero =>
    intro m μ p hd hsp h hdg
    have hn := h.n0
    have hq := h.2.2.2.1
    refine ⟨μ, ?_, ?_⟩
    · rw [show de n T p = p by unfold de; rw [scn_eq, if_neg (by omega)]]
      exact h
    · rw [show de n T p = p by unfold de; rw [scn_eq, if_neg (by omega)], X2_takeNumber_L21, gi_90 h.ok, h.2.2.1.2.2, Option.bind_some, gi_90 h.ok, h.2.1.1, Option.bind_some, if_pos (nI_le (by omega) (by omega))]
  | succ d ih =>
    intro m μ p hd hsp h hdg
    have hn := h.n0
    have hq := h.2.2.2.1
    have b := h.b (i := p) (by omega)
    have c1 : (nI (T p) < 48) = (T p < 48) := n_lt (b := 48) (by omega) (by decide)
    have c2 : ((57 : Int32) < nI (T p)) = (57 < T p) := n_lt (a := 57) (by decide) (by omega)
    have c3 : ((3 : Int32) ≤ nI (p - s)) = (3 ≤ p - s) := n_le (a := 3) (by decide) (by omega)
    rw [show m + (d + 1) + 1 = m + d + 1 + 1 by omega, X2_takeNumber_L21, gi_90 h.ok, h.2.2.1.2.2, Option.bind_some, gi_90 h.ok, h.2.1.1, Option.bind_some, if_neg (nI_ge (by omega) (by omega)), r_90_3 h.ok, Option.bind_some, Option.bind_some, h.rd (by omega), Option.bind_some, Option.bind_some, Option.bind_some, h.rd (by omega), Option.bind_some, Option.bind_some, Option.bind_some, Option.bind_some, h.rd (by omega), Option.bind_some, pk_sub hsp]
    simp only [c1, c2, c3]
    by_cases z : isD (T p) = true
    · have z' := z
      unfold isD at z'
      rw [decide_eq_true_eq] at z'
      have bd := (vC_bd (T := T) (s := s) (p - s) (fun i hi => by
        have := hdg (s + i) (by omega) (by omega)
        unfold isD at this
        rw [decide_eq_true_eq] at this
        exact this)).1
      have ev : ((if 3 ≤ p - s then some (nI (vC T s (p - s))) else some (nI (vC T s (p - s)) * 10 + nI (T p) - 48) : Option Int32)) = some (nI (vC T s (p + 1 - s))) := by
        rw [show p + 1 - s = p - s + 1 by omega, vC, show s + (p - s) = p by omega]
        by_cases y : 3 ≤ p - s
        · rw [if_pos y, if_neg (by omega)]
        · rw [if_neg y, if_pos (by omega), show (10 : Int32) = nI 10 from rfl, pk_mul, nI_add, show (48 : Int32) = nI 48 from rfl, pk_sub (by omega)]
      obtain ⟨μ', h', e⟩ := ih m (wI μ 90 4 (nI (p + 1))) (p + 1) (by omega) (by omega) (h.at' (p + 1) (by omega)) (fun i i1 i2 => by
        by_cases y : i = p
        · subst y
          exact z
        · exact hdg i i1 (by omega))
      refine ⟨μ', ?_, ?_⟩
      · rw [show de n T p = de n T (p + 1) by unfold de; rw [scn_eq, if_pos ⟨by omega, z⟩]]
        exact h'
      · rw [if_neg (by omega), if_neg (by omega)]
        rw [ev, Option.bind_some, Option.bind_some, nI_add1, pi_90 h.ok, Option.bind_some, show de n T p = de n T (p + 1) by unfold de; rw [scn_eq, if_pos ⟨by omega, z⟩]]
        exact e
    · have z' := z
      unfold isD at z'
      rw [decide_eq_true_eq] at z'
      have ed : de n T p = p := by unfold de; rw [scn_eq, if_neg (fun w => z w.2)]
      refine ⟨μ, by rw [ed]; exact h, ?_⟩
      rw [ed]
      by_cases y : T p < 48
      · rw [if_pos y]
      · rw [if_neg y, if_pos (by omega)]
theorem num_cF (x1 x2 : Int32) (h : CP n T μ0 μ k f q) (hk : ¬ k = 0) : X2_takeNumber 90 x1 x2 μ = some (0, μ) := by
  unfold X2_takeNumber
  rw [gi_90 h.ok, h.2.2.1.1, Option.bind_some, if_neg (by rw [k0 h.2.2.2.2]; exact hk)]
theorem num_c {lo hi : Nat} (hlo : lo < 1000) (hhi : hi < 1000) (h : CP n T μ0 μ 0 f q) : match pN n T lo hi q with
    | .inl (k', s) => ∃ μ' v q', CP n T μ0 μ' k' (nI s) q' ∧ ¬ k' = 0 ∧ X2_takeNumber 90 (nI lo) (nI hi) μ = some (v, μ')
    | .inr (v, q') => ∃ μ', CP n T μ0 μ' 0 f q' ∧ X2_takeNumber 90 (nI lo) (nI hi) μ = some (nI v, μ') := by
  have hn := h.n0
  obtain ⟨μ1, h1, e1⟩ := skip_c h
  have hs := h1.2.2.2.1
  obtain ⟨μ2, h2, e2⟩ := num21_c (nI lo) (nI hi) (s := sk n T q) (n - sk n T q) (99999 - (n - sk n T q)) μ1 (sk n T q) rfl (Nat.le_refl _) h1 (fun i i1 i2 => by omega)
  rw [show 99999 - (n - sk n T q) + (n - sk n T q) + 1 = FU by unfold FU; omega, Nat.sub_self] at e2
  have e2 : X2_takeNumber_L21 90 (nI lo) (nI hi) (nI (sk n T q)) FU 0 μ1 = _ := e2
  have d1 := de_ge (n := n) (T := T) (q := sk n T q)
  have d2 := de_le (n := n) (T := T) hs
  have dg : ∀ i, i < de n T (sk n T q) - sk n T q → 48 ≤ T (sk n T q + i) ∧ T (sk n T q + i) ≤ 57 := fun i hi => by
    have := (scn_sp isD n T _ (sk n T q) rfl).2.2.2 (sk n T q + i) (by omega) (show sk n T q + i < de n T (sk n T q) by omega)
    unfold isD at this
    rw [decide_eq_true_eq] at this
    exact this
  have bd := (vC_bd (T := T) (s := sk n T q) _ dg).1
  have ce : (nI (de n T (sk n T q)) = nI (sk n T q)) = (de n T (sk n T q) = sk n T q) := n_eq (by omega) (by omega)
  have c3 : ((3 : Int32) < nI (de n T (sk n T q) - sk n T q)) = (3 < de n T (sk n T q) - sk n T q) := n_lt (a := 3) (by decide) (by omega)
  have cw : (X10_within (nI (vC T (sk n T q) (de n T (sk n T q) - sk n T q))) (nI lo) (nI hi) = 0) = (vC T (sk n T q) (de n T (sk n T q) - sk n T q) < lo ∨ hi < vC T (sk n T q) (de n T (sk n T q) - sk n T q)) := by
    unfold X10_within
    simp only [n_lt (show vC T (sk n T q) (de n T (sk n T q) - sk n T q) < 2 ^ 31 by omega) (show lo < 2 ^ 31 by omega), n_lt (show hi < 2 ^ 31 by omega) (show vC T (sk n T q) (de n T (sk n T q) - sk n T q) < 2 ^ 31 by omega)]
    by_cases y1 : vC T (sk n T q) (de n T (sk n T q) - sk n T q) < lo
    · rw [if_pos y1]
      exact propext ⟨fun _ => Or.inl y1, fun _ => rfl⟩
    · rw [if_neg y1]
      by_cases y2 : hi < vC T (sk n T q) (de n T (sk n T q) - sk n T q)
      · rw [if_pos y2]
        exact propext ⟨fun _ => Or.inr y2, fun _ => rfl⟩
      · rw [if_neg y2]
        exact propext ⟨fun z => absurd z (by decide), fun z => by omega⟩
  have hd : X2_takeNumber 90 (nI lo) (nI hi) μ = ((((if de n T (sk n T q) = sk n T q then (X2_note 90 1 (nI (sk n T q)) μ2).bind fun μ17 => some μ17 else if 3 < de n T (sk n T q) - sk n T q then (X2_note 90 2 (nI (sk n T q)) μ2).bind fun μ12 => some μ12 else if (vC T (sk n T q) (de n T (sk n T q) - sk n T q) < lo ∨ hi < vC T (sk n T q) (de n T (sk n T q) - sk n T q)) then (X2_note 90 2 (nI (sk n T q)) μ2).bind fun μ15 => some μ15 else some μ2) : Option Mem)).bind fun z18 => some (nI (vC T (sk n T q) (de n T (sk n T q) - sk n T q)), z18)) := by
    unfold X2_takeNumber
    rw [gi_90 h.ok, h.2.2.1.1, Option.bind_some, if_pos (show nI 0 = (0 : Int32) from rfl), vo_90 h.ok, Option.bind_some, e1, Option.bind_some, gi_90 h1.ok, h1.2.2.1.2.2, Option.bind_some, e2, Option.bind_some, gi_90 h2.ok, h2.2.2.1.2.2, Option.bind_some]
    simp only [ce, Option.bind_some, vo_90 h2.ok, pk_sub d1, c3, cw]
  rw [hd]
  unfold pN
  by_cases z1 : de n T (sk n T q) = sk n T q
  · rw [if_pos z1, if_pos z1]
    obtain ⟨μ3, h3, e3⟩ := note_c h2 1 (nI (sk n T q)) (by decide)
    have e3 : X2_note 90 1 (nI (sk n T q)) μ2 = _ := e3
    rw [e3]
    exact ⟨μ3, _, _, h3, by decide, rfl⟩
  · rw [if_neg z1, if_neg z1]
    obtain ⟨μ3, h3, e3⟩ := note_c h2 2 (nI (sk n T q)) (by decide)
    have e3 : X2_note 90 2 (nI (sk n T q)) μ2 = _ := e3
    rw [e3]
    by_cases z2 : 3 < de n T (sk n T q) - sk n T q
    · rw [if_pos z2, if_pos (Or.inl z2)]
      exact ⟨μ3, _, _, h3, by decide, rfl⟩
    · rw [if_neg z2]
      by_cases z3 : vC T (sk n T q) (de n T (sk n T q) - sk n T q) < lo ∨ hi < vC T (sk n T q) (de n T (sk n T q) - sk n T q)
      · rw [if_pos z3, if_pos (Or.inr z3)]
        exact ⟨μ3, _, _, h3, by decide, rfl⟩
      · rw [if_neg z3, if_neg (fun y => y.elim z2 z3)]
        exact ⟨μ2, h2, rfl⟩
end CR
