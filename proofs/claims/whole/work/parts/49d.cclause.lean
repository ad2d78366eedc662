/-! ===== the class reads clauses ===== -/
/-- a clause put behind m others -/
def AD (μ : Mem) (l m : Nat) (c : Cls) : Mem := wI (wI (wI (wI (wI μ (l + 1) m (nI c.1)) (l + 2) m (nI c.2.1)) (l + 3) m (nI c.2.2.1)) (l + 4) m (nI c.2.2.2)) l 0 (nI (m + 1))
def PostC (n : Nat) (T : Nat → Nat) (μ0 : Mem) (l m : Nat) (f : Int32) (o : Flt ⊕ (Cls × Nat)) (r : Option Mem) : Prop := match o with
  | .inl (k, s) => ∃ μ' q', CP n T μ0 μ' k (nI s) q' ∧ ¬ k = 0 ∧ r = some μ'
  | .inr (c, q') => ∃ μ1, CP n T μ0 μ1 0 f q' ∧ r = some (AD μ1 l m c)
section CC
variable {n : Nat} {T : Nat → Nat} {μ0 μ : Mem} {k q l m : Nat} {f : Int32}
theorem add_c (h : CP n T μ0 μ k f q) (hl : isLw l) (hm : m < 8) (e0 : mI μ l 0 = nI m) (c : Cls) : X3_add l (nI c.1) (nI c.2.1) (nI c.2.2.1) (nI c.2.2.2) μ = some (AD μ l m c) := by
  have o := h.ok
  have o1 : Ok (wI μ (l + 1) m (nI c.1)) := o
  unfold X3_add
  rw [gi_l o hl, e0, Option.bind_some, if_neg (show ¬ (8 : Int32) ≤ _ from nI_ge (b := 8) hm (by decide)), rl_1 o hl, Option.bind_some, Option.bind_some, sl_1 o hl hm, Option.bind_some, rl_2 o.wI hl, Option.bind_some, gi_l o.wI hl, row_ne (by omega), e0, Option.bind_some, sl_2 o.wI hl hm, Option.bind_some, rl_3 o.wI.wI hl, Option.bind_some, gi_l o.wI.wI hl, row_ne (by omega), row_ne (by omega), e0, Option.bind_some, sl_3 o.wI.wI hl hm, Option.bind_some, rl_4 o.wI.wI.wI hl, Option.bind_some, gi_l o.wI.wI.wI hl, row_ne (by omega), row_ne (by omega), row_ne (by omega), e0, Option.bind_some, sl_4 o.wI.wI.wI hl hm, Option.bind_some, gi_l o.wI.wI.wI.wI hl, row_ne (by omega), row_ne (by omega), row_ne (by omega), row_ne (by omega), e0, Option.bind_some, pi_l o.wI.wI.wI.wI hl, Option.bind_some, Option.bind_some, nI_add1]
  rfl
theorem CP.l0 (h : CP n T μ0 μ k f q) (hl : isLw l) (e0 : mI μ0 l 0 = nI m) : mI μ l 0 = nI m := by
  rw [h.1.2.2 l 0 (by unfold isLw at hl; omega)]
  exact e0
theorem fin_cF (h : CP n T μ0 μ k f q) (hk : ¬ k = 0) (x2 x3 x4 x5 : Int32) : ∃ μ' q', CP n T μ0 μ' k f q' ∧ X2_finish 90 l x2 x3 x4 x5 μ = some μ' := by
  obtain ⟨μ1, h1, e1⟩ := skip_c h
  refine ⟨μ1, _, h1, ?_⟩
  have hn := h.n0
  have hs := h1.2.2.2.1
  have k1 : (nI k = 0) = (k = 0) := k0 h.2.2.2.2
  unfold X2_finish
  rw [vo_90 h.ok, Option.bind_some, e1, Option.bind_some, gi_90 h1.ok, h1.2.2.1.2.2, Option.bind_some, gi_90 h1.ok, h1.2.1.1, Option.bind_some]
  have z : ((if nI n ≤ nI (sk n T q) then (some (nI (sk n T q))).bind fun v6 => (vO 2 90 μ1).bind fun g7 => (X2_note 90 1 v6 μ1).bind fun μ8 => some μ8 else (gR 2 3 90 μ1).bind fun v9 => (some (nI (sk n T q))).bind fun v10 => (aI v9 v10 μ1).bind fun v11 => if v11 = 59 then some μ1 else (some (nI (sk n T q))).bind fun v13 => (vO 2 90 μ1).bind fun g14 => (X2_note 90 1 v13 μ1).bind fun μ15 => some μ15 : Option Mem)) = some μ1 := by
    rw [Option.bind_some, vo_90 h1.ok, Option.bind_some, note_cF h1 hk, Option.bind_some]
    by_cases y : n ≤ sk n T q
    · rw [if_pos (nI_le y (by omega))]
    · rw [if_neg (nI_ge (by omega) (by omega)), r_90_3 h1.ok, Option.bind_some, Option.bind_some, h1.rd (by omega), Option.bind_some, ite_self]
  rw [z, Option.bind_some, gi_90 h1.ok, h1.2.2.1.1, Option.bind_some, if_neg (by rw [k1]; exact hk), Option.bind_some]
theorem fin_c (h : CP n T μ0 μ 0 f q) (hl : isLw l) (hm : m < 8) (e0 : mI μ0 l 0 = nI m) (c : Cls) : PostC n T μ0 l m f (pE n T (c, q)) (X2_finish 90 l (nI c.1) (nI c.2.1) (nI c.2.2.1) (nI c.2.2.2) μ) := by
  obtain ⟨μ1, h1, e1⟩ := skip_c h
  have hn := h.n0
  have hs := h1.2.2.2.1
  obtain ⟨μ2, h2, e2⟩ := note_c h1 1 (nI (sk n T q)) (by decide)
  have e2 : X2_note 90 1 (nI (sk n T q)) μ1 = _ := e2
  unfold X2_finish pE
  rw [vo_90 h.ok, Option.bind_some, e1, Option.bind_some, gi_90 h1.ok, h1.2.2.1.2.2, Option.bind_some, gi_90 h1.ok, h1.2.1.1, Option.bind_some]
  by_cases y : sk n T q < n
  · have b := h1.b (i := sk n T q) (by omega)
    have c59 : (nI (T (sk n T q)) = 59) = (T (sk n T q) = 59) := n_eq (b := 59) (by omega) (by decide)
    rw [if_neg (nI_ge y (by omega)), r_90_3 h1.ok, Option.bind_some, Option.bind_some, h1.rd (by omega), Option.bind_some, vo_90 h1.ok]
    simp only [Option.bind_some, c59, e2]
    by_cases z : T (sk n T q) = 59
    · have h3 := h1.at' (sk n T q + 1) (by omega)
      rw [if_pos z, if_pos ⟨y, z⟩, Option.bind_some, gi_90 h1.ok, h1.2.2.1.1, Option.bind_some, if_pos (show nI 0 = (0 : Int32) from rfl), gi_90 h1.ok, h1.2.2.1.2.2, Option.bind_some, nI_add1, pi_90 h1.ok, Option.bind_some, vo_l h3.ok hl, Option.bind_some, add_c h3 hl hm (h3.l0 hl e0) c]
      exact ⟨_, h3, rfl⟩
    · rw [if_neg z, if_neg (fun w => z w.2), Option.bind_some, gi_90 h2.ok, h2.2.2.1.1, Option.bind_some, if_neg (show ¬ nI 1 = (0 : Int32) by decide), Option.bind_some]
      exact ⟨μ2, _, h2, by decide, rfl⟩
  · rw [if_pos (nI_le (by omega) (by omega)), Option.bind_some, vo_90 h1.ok, Option.bind_some, e2, Option.bind_some, Option.bind_some, if_neg (fun w => y w.1), gi_90 h2.ok, h2.2.2.1.1, Option.bind_some, if_neg (show ¬ nI 1 = (0 : Int32) by decide), Option.bind_some]
    exact ⟨μ2, _, h2, by decide, rfl⟩
/-- a continuation that leaves a fault as it is -/
def FK (n : Nat) (T : Nat → Nat) (μ0 : Mem) (K : Mem → Option Mem) : Prop := ∀ μ k f q, CP n T μ0 μ k f q → ¬ k = 0 → ∃ μ' q', CP n T μ0 μ' k f q' ∧ K μ = some μ'
theorem FK.fin (x2 x3 x4 x5 : Int32) : FK n T μ0 (fun μ => (vO 2 90 μ).bind fun _ => (X2_finish 90 l x2 x3 x4 x5 μ).bind fun μ' => some μ') := fun μ k f q h hk => by
  obtain ⟨μ', q', h', e⟩ := fin_cF (l := l) h hk x2 x3 x4 x5
  exact ⟨μ', q', h', by show (vO 2 90 μ).bind _ = _; rw [vo_90 h.ok, Option.bind_some, e, Option.bind_some]⟩
theorem FK.num (x1 x2 : Int32) {K : Int32 → Mem → Option Mem} (hK : FK n T μ0 (K 0)) : FK n T μ0 (fun μ => (vO 2 90 μ).bind fun _ => (X2_takeNumber 90 x1 x2 μ).bind fun z => K z.1 z.2) := fun μ k f q h hk => by
  obtain ⟨μ', q', h', e⟩ := hK μ k f q h hk
  exact ⟨μ', q', h', by show (vO 2 90 μ).bind _ = _; rw [vo_90 h.ok, Option.bind_some, num_cF x1 x2 h hk, Option.bind_some]; exact e⟩
theorem FK.need (w : Nat) {K : Mem → Option Mem} (hK : FK n T μ0 K) : FK n T μ0 (fun μ => (vO 2 90 μ).bind fun _ => (X2_needWord 90 w μ).bind fun z => K z) := fun μ k f q h hk => by
  obtain ⟨μ', q', h', e⟩ := hK μ k f q h hk
  exact ⟨μ', q', h', by show (vO 2 90 μ).bind _ = _; rw [vo_90 h.ok, Option.bind_some, need_cF w h hk, Option.bind_some]; exact e⟩
/-- a NUMBER, then the rest -/
theorem st_num {lo hi : Nat} (hlo : lo < 1000) (hhi : hi < 1000) {K : Int32 → Mem → Option Mem} {g : Nat × Nat → Flt ⊕ (Cls × Nat)} (h : CP n T μ0 μ 0 f q) (hF : ∀ v, FK n T μ0 (K v)) (hK : ∀ v q' μ', CP n T μ0 μ' 0 f q' → PostC n T μ0 l m f (g (v, q')) (K (nI v) μ')) : PostC n T μ0 l m f (sb (pN n T lo hi q) g) ((vO 2 90 μ).bind fun _ => (X2_takeNumber 90 (nI lo) (nI hi) μ).bind fun z => K z.1 z.2) := by
  have hc := num_c hlo hhi h
  rw [vo_90 h.ok, Option.bind_some]
  cases hp : pN n T lo hi q with
  | inl a =>
    rw [hp] at hc
    obtain ⟨μ', v, q', h', hk, e⟩ := hc
    obtain ⟨μ2, q2, h2, e2⟩ := hF v μ' _ _ _ h' hk
    rw [e, Option.bind_some]
    exact ⟨μ2, q2, h2, hk, e2⟩
  | inr a =>
    rw [hp] at hc
    obtain ⟨μ', h', e⟩ := hc
    rw [e, Option.bind_some]
    exact hK a.1 a.2 μ' h'
theorem st_need {w : Nat} (hw : w < 9) {K : Mem → Option Mem} {g : Nat → Flt ⊕ (Cls × Nat)} (h : CP n T μ0 μ 0 f q) (hF : FK n T μ0 K) (hK : ∀ q' μ', CP n T μ0 μ' 0 f q' → PostC n T μ0 l m f (g q') (K μ')) : PostC n T μ0 l m f (sb (pW n T w q) g) ((vO 2 90 μ).bind fun _ => (X2_needWord 90 w μ).bind fun z => K z) := by
  obtain ⟨hy, hn⟩ := need_c hw h
  rw [vo_90 h.ok, Option.bind_some]
  unfold pW
  by_cases z : wQ n T (sk n T q) w = true
  · obtain ⟨μ', h', e⟩ := hy z
    rw [if_pos z, e, Option.bind_some]
    exact hK _ μ' h'
  · obtain ⟨μ', h', e⟩ := hn z
    obtain ⟨μ2, q2, h2, e2⟩ := hF μ' _ _ _ h' (by decide)
    rw [if_neg z, e, Option.bind_some]
    exact ⟨μ2, q2, h2, by decide, e2⟩
theorem st_fin (h : CP n T μ0 μ 0 f q) (hl : isLw l) (hm : m < 8) (e0 : mI μ0 l 0 = nI m) (c : Cls) : PostC n T μ0 l m f (pE n T (c, q)) ((vO 2 90 μ).bind fun _ => (X2_finish 90 l (nI c.1) (nI c.2.1) (nI c.2.2.1) (nI c.2.2.2) μ).bind fun z => some z) := by
  have hc := fin_c h hl hm e0 c
  rw [vo_90 h.ok, Option.bind_some]
  have e : ∀ r : Option Mem, (r.bind fun z => some z) = r := fun r => by cases r <;> rfl
  rw [e]
  exact hc
theorem bind_id (r : Option Mem) : (r.bind fun z => some z) = r := by cases r <;> rfl
theorem most_cl (h : CP n T μ0 μ 0 f q) (hl : isLw l) (hm : m < 8) (e0 : mI μ0 l 0 = nI m) : PostC n T μ0 l m f (sb (pMost n T q) (pE n T)) ((vO 2 90 μ).bind fun _ => (X2_takeNumber 90 0 9 μ).bind fun z25 => (vO 2 90 z25.2).bind fun _ => (X2_needWord 90 6 z25.2).bind fun μ27 => (vO 2 90 μ27).bind fun _ => (X2_takeNumber 90 1 60 μ27).bind fun z29 => (vO 2 90 z29.2).bind fun _ => (X2_finish 90 l 3 z25.1 z29.1 0 z29.2).bind fun μ31 => some μ31) := by
  unfold pMost
  rw [sb_as]
  refine st_num (lo := 0) (hi := 9) (by decide) (by decide) h (K := fun v μ' => (vO 2 90 μ').bind fun _ => (X2_needWord 90 6 μ').bind fun μ27 => (vO 2 90 μ27).bind fun _ => (X2_takeNumber 90 1 60 μ27).bind fun z29 => (vO 2 90 z29.2).bind fun _ => (X2_finish 90 l 3 v z29.1 0 z29.2).bind fun μ31 => some μ31) (fun v => FK.need 6 (K := fun μ27 => (vO 2 90 μ27).bind fun _ => (X2_takeNumber 90 1 60 μ27).bind fun z29 => (vO 2 90 z29.2).bind fun _ => (X2_finish 90 l 3 v z29.1 0 z29.2).bind fun μ31 => some μ31) (FK.num 1 60 (K := fun x μ' => (vO 2 90 μ').bind fun _ => (X2_finish 90 l 3 v x 0 μ').bind fun μ31 => some μ31) (FK.fin 3 v 0 0))) (fun a q1 μ1 h1 => ?_)
  show PostC n T μ0 l m f (sb (sb (pW n T 6 q1) fun q2 => sb (pN n T 1 60 q2) fun b => .inr ((3, a, b.1, 0), b.2)) (pE n T)) _
  rw [sb_as]
  refine st_need (w := 6) (by decide) h1 (K := fun μ27 => (vO 2 90 μ27).bind fun _ => (X2_takeNumber 90 1 60 μ27).bind fun z29 => (vO 2 90 z29.2).bind fun _ => (X2_finish 90 l 3 (nI a) z29.1 0 z29.2).bind fun μ31 => some μ31) (FK.num 1 60 (K := fun x μ' => (vO 2 90 μ').bind fun _ => (X2_finish 90 l 3 (nI a) x 0 μ').bind fun μ31 => some μ31) (FK.fin 3 (nI a) 0 0)) (fun q2 μ2 h2 => ?_)
  rw [sb_as]
  refine st_num (lo := 1) (hi := 60) (by decide) (by decide) h2 (K := fun x μ' => (vO 2 90 μ').bind fun _ => (X2_finish 90 l 3 (nI a) x 0 μ').bind fun μ31 => some μ31) (fun v => FK.fin 3 (nI a) v 0) (fun b q3 μ3 h3 => ?_)
  exact st_fin h3 hl hm e0 (3, a, b, 0)
theorem always_cl (h : CP n T μ0 μ 0 f q) (hl : isLw l) (hm : m < 8) (e0 : mI μ0 l 0 = nI m) : PostC n T μ0 l m f (sb (pAlways n T q) (pE n T)) ((vO 2 90 μ).bind fun _ => (X2_needWord 90 8 μ).bind fun μ17 => (vO 2 90 μ17).bind fun _ => (X2_takeNumber 90 0 9 μ17).bind fun z19 => (vO 2 90 z19.2).bind fun _ => (X2_finish 90 l 4 z19.1 0 0 z19.2).bind fun μ21 => some μ21) := by
  unfold pAlways
  rw [sb_as]
  refine st_need (w := 8) (by decide) h (K := fun μ17 => (vO 2 90 μ17).bind fun _ => (X2_takeNumber 90 0 9 μ17).bind fun z19 => (vO 2 90 z19.2).bind fun _ => (X2_finish 90 l 4 z19.1 0 0 z19.2).bind fun μ21 => some μ21) (FK.num 0 9 (K := fun x μ' => (vO 2 90 μ').bind fun _ => (X2_finish 90 l 4 x 0 0 μ').bind fun μ31 => some μ31) (FK.fin 4 0 0 0)) (fun q1 μ1 h1 => ?_)
  rw [sb_as]
  refine st_num (lo := 0) (hi := 9) (by decide) (by decide) h1 (K := fun x μ' => (vO 2 90 μ').bind fun _ => (X2_finish 90 l 4 x 0 0 μ').bind fun μ31 => some μ31) (fun v => FK.fin 4 v 0 0) (fun a q2 μ2 h2 => ?_)
  exact st_fin h2 hl hm e0 (4, a, 0, 0)
theorem kind_cl (h : CP n T μ0 μ 0 f q) (hl : isLw l) (hm : m < 8) (e0 : mI μ0 l 0 = nI m) : PostC n T μ0 l m f (sb (pKind n T q) (pE n T)) ((vO 2 90 μ).bind fun _ => (X2_takeNumber 90 0 3 μ).bind fun z7 => (vO 2 90 z7.2).bind fun _ => (X2_needWord 90 4 z7.2).bind fun μ9 => (vO 2 90 μ9).bind fun _ => (X2_takeNumber 90 0 60 μ9).bind fun z11 => (vO 2 90 z11.2).bind fun _ => (X2_finish 90 l 2 z7.1 z11.1 0 z11.2).bind fun μ13 => some μ13) := by
  unfold pKind
  rw [sb_as]
  refine st_num (lo := 0) (hi := 3) (by decide) (by decide) h (K := fun v μ' => (vO 2 90 μ').bind fun _ => (X2_needWord 90 4 μ').bind fun μ27 => (vO 2 90 μ27).bind fun _ => (X2_takeNumber 90 0 60 μ27).bind fun z29 => (vO 2 90 z29.2).bind fun _ => (X2_finish 90 l 2 v z29.1 0 z29.2).bind fun μ31 => some μ31) (fun v => FK.need 4 (K := fun μ27 => (vO 2 90 μ27).bind fun _ => (X2_takeNumber 90 0 60 μ27).bind fun z29 => (vO 2 90 z29.2).bind fun _ => (X2_finish 90 l 2 v z29.1 0 z29.2).bind fun μ31 => some μ31) (FK.num 0 60 (K := fun x μ' => (vO 2 90 μ').bind fun _ => (X2_finish 90 l 2 v x 0 μ').bind fun μ31 => some μ31) (FK.fin 2 v 0 0))) (fun a q1 μ1 h1 => ?_)
  show PostC n T μ0 l m f (sb (sb (pW n T 4 q1) fun q2 => sb (pN n T 0 60 q2) fun b => .inr ((2, a, b.1, 0), b.2)) (pE n T)) _
  rw [sb_as]
  refine st_need (w := 4) (by decide) h1 (K := fun μ27 => (vO 2 90 μ27).bind fun _ => (X2_takeNumber 90 0 60 μ27).bind fun z29 => (vO 2 90 z29.2).bind fun _ => (X2_finish 90 l 2 (nI a) z29.1 0 z29.2).bind fun μ31 => some μ31) (FK.num 0 60 (K := fun x μ' => (vO 2 90 μ').bind fun _ => (X2_finish 90 l 2 (nI a) x 0 μ').bind fun μ31 => some μ31) (FK.fin 2 (nI a) 0 0)) (fun q2 μ2 h2 => ?_)
  rw [sb_as]
  refine st_num (lo := 0) (hi := 60) (by decide) (by decide) h2 (K := fun x μ' => (vO 2 90 μ').bind fun _ => (X2_finish 90 l 2 (nI a) x 0 μ').bind fun μ31 => some μ31) (fun v => FK.fin 2 (nI a) v 0) (fun b q3 μ3 h3 => ?_)
  exact st_fin h3 hl hm e0 (2, a, b, 0)
/-- behind a WAY's number: 'state' or the end -/
theorem state_cl (h : CP n T μ0 μ 0 f q) (hl : isLw l) (hm : m < 8) (e0 : mI μ0 l 0 = nI m) (a : Nat) : PostC n T μ0 l m f (sb (if sk n T q < n ∧ isL (T (sk n T q)) = true then sb (pW n T 2 q) fun q1 => sb (pN n T 0 3 q1) fun b => sb (pN n T 0 100 b.2) fun c => .inr ((1, a, b.1, c.1), c.2) else .inr ((0, a, 0, 0), sk n T q)) (pE n T)) ((vO 2 90 μ).bind fun _ => (X2_takeWord 90 2 μ).bind fun z17 => ((if z17.1 = 0 then (vO 2 90 z17.2).bind fun _ => (X2_finish 90 l 0 (nI a) 0 0 z17.2).bind fun μ20 => some μ20 else (vO 2 90 z17.2).bind fun _ => (X2_takeNumber 90 0 3 z17.2).bind fun z22 => (vO 2 90 z22.2).bind fun _ => (X2_takeNumber 90 0 100 z22.2).bind fun z24 => (vO 2 90 z24.2).bind fun _ => (X2_finish 90 l 1 (nI a) z22.1 z24.1 z24.2).bind fun μ26 => some μ26) : Option Mem).bind fun z27 => some z27) := by
  obtain ⟨μ1, h1, e1⟩ := word_c (w := 2) (by decide) h
  rw [vo_90 h.ok, Option.bind_some, e1, Option.bind_some, bind_id]
  have hn := h.n0
  by_cases z : wQ n T (sk n T q) 2 = true
  · have zl : sk n T q < n ∧ isL (T (sk n T q)) = true := by
      have := of_decide_eq_true z
      have hw : we n T (sk n T q) ≠ sk n T q := by
        have h2 : wL 2 = 5 := rfl
        omega
      by_cases y : sk n T q < n ∧ isL (T (sk n T q)) = true
      · exact y
      · exact absurd (by unfold we; rw [scn_eq, if_neg y]) hw
    rw [if_pos z] at h1
    rw [if_pos z, if_pos zl, if_neg (show ¬ (1 : Int32) = 0 by decide)]
    unfold pW
    rw [if_pos z]
    show PostC n T μ0 l m f (sb (sb (pN n T 0 3 (we n T (sk n T q))) fun b => sb (pN n T 0 100 b.2) fun c => .inr ((1, a, b.1, c.1), c.2)) (pE n T)) _
    rw [sb_as]
    refine st_num (lo := 0) (hi := 3) (by decide) (by decide) h1 (K := fun v μ' => (vO 2 90 μ').bind fun _ => (X2_takeNumber 90 0 100 μ').bind fun z24 => (vO 2 90 z24.2).bind fun _ => (X2_finish 90 l 1 (nI a) v z24.1 z24.2).bind fun μ26 => some μ26) (fun v => FK.num 0 100 (K := fun x μ' => (vO 2 90 μ').bind fun _ => (X2_finish 90 l 1 (nI a) v x μ').bind fun μ31 => some μ31) (FK.fin 1 (nI a) v 0)) (fun b q2 μ2 h2 => ?_)
    rw [sb_as]
    refine st_num (lo := 0) (hi := 100) (by decide) (by decide) h2 (K := fun x μ' => (vO 2 90 μ').bind fun _ => (X2_finish 90 l 1 (nI a) (nI b) x μ').bind fun μ31 => some μ31) (fun v => FK.fin 1 (nI a) (nI b) v) (fun c q3 μ3 h3 => ?_)
    exact st_fin h3 hl hm e0 (1, a, b, c)
  · rw [if_neg z] at h1
    rw [if_neg z, if_pos (show (0 : Int32) = 0 from rfl)]
    have hf := st_fin h1 hl hm e0 (0, a, 0, 0)
    have ep : pE n T ((0, a, 0, 0), sk n T q) = pE n T ((0, a, 0, 0), q) := by
      unfold pE
      rw [show sk n T (sk n T q) = sk n T q from sk_idem]
    by_cases y : sk n T q < n ∧ isL (T (sk n T q)) = true
    · have : pE n T ((0, a, 0, 0), q) = .inl (1, sk n T q) := by
        unfold pE
        rw [if_neg (fun w => by
          have y2 := y.2
          unfold isL at y2
          rw [decide_eq_true_eq] at y2
          have w2 : T (sk n T q) = 59 := w.2
          omega)]
      rw [if_pos y]
      unfold pW
      rw [if_neg z]
      rw [ep, this] at hf
      exact hf
    · rw [if_neg y]
      exact hf
theorem FK.state (a : Int32) : FK n T μ0 (fun μ => (vO 2 90 μ).bind fun _ => (X2_takeWord 90 2 μ).bind fun z17 => ((if z17.1 = 0 then (vO 2 90 z17.2).bind fun _ => (X2_finish 90 l 0 a 0 0 z17.2).bind fun μ20 => some μ20 else (vO 2 90 z17.2).bind fun _ => (X2_takeNumber 90 0 3 z17.2).bind fun z22 => (vO 2 90 z22.2).bind fun _ => (X2_takeNumber 90 0 100 z22.2).bind fun z24 => (vO 2 90 z24.2).bind fun _ => (X2_finish 90 l 1 a z22.1 z24.1 z24.2).bind fun μ26 => some μ26) : Option Mem).bind fun z27 => some z27) := fun μ k f q h hk => by
  obtain ⟨μ', q', h', e⟩ := FK.fin (l := l) 0 a 0 0 μ k f q h hk
  refine ⟨μ', q', h', ?_⟩
  show (vO 2 90 μ).bind _ = _
  rw [vo_90 h.ok, Option.bind_some, word_cF 2 h hk, Option.bind_some, bind_id, if_pos rfl]
  exact e
theorem never_cl (h : CP n T μ0 μ 0 f q) (hl : isLw l) (hm : m < 8) (e0 : mI μ0 l 0 = nI m) : PostC n T μ0 l m f (sb (pNever n T q) (pE n T)) (X2_readNever 90 l μ) := by
  obtain ⟨μ1, h1, e1⟩ := word_c (w := 1) (by decide) h
  unfold X2_readNever pNever
  rw [vo_90 h.ok, Option.bind_some, e1, Option.bind_some, bind_id]
  by_cases z : wQ n T (sk n T q) 1 = true
  · rw [if_pos z] at h1
    rw [if_pos z, if_pos z, if_neg (show ¬ (1 : Int32) = 0 by decide)]
    unfold pWay
    rw [sb_as]
    exact st_num (lo := 0) (hi := 3) (by decide) (by decide) h1 (K := fun v μ' => (vO 2 90 μ').bind fun _ => (X2_takeWord 90 2 μ').bind fun z17 => ((if z17.1 = 0 then (vO 2 90 z17.2).bind fun _ => (X2_finish 90 l 0 v 0 0 z17.2).bind fun μ20 => some μ20 else (vO 2 90 z17.2).bind fun _ => (X2_takeNumber 90 0 3 z17.2).bind fun z22 => (vO 2 90 z22.2).bind fun _ => (X2_takeNumber 90 0 100 z22.2).bind fun z24 => (vO 2 90 z24.2).bind fun _ => (X2_finish 90 l 1 v z22.1 z24.1 z24.2).bind fun μ26 => some μ26) : Option Mem).bind fun z27 => some z27) (fun v => FK.state v) (fun a q1 μ2 h2 => state_cl h2 hl hm e0 a)
  · rw [if_neg z] at h1
    rw [if_neg z, if_neg z, if_pos (show (0 : Int32) = 0 from rfl), sb_as]
    have ew : pW n T 3 q = pW n T 3 (sk n T q) := by
      unfold pW
      rw [show sk n T (sk n T q) = sk n T q from sk_idem]
    rw [ew]
    refine st_need (w := 3) (by decide) h1 (K := fun μ5 => (vO 2 90 μ5).bind fun _ => (X2_takeNumber 90 0 3 μ5).bind fun z7 => (vO 2 90 z7.2).bind fun _ => (X2_needWord 90 4 z7.2).bind fun μ9 => (vO 2 90 μ9).bind fun _ => (X2_takeNumber 90 0 60 μ9).bind fun z11 => (vO 2 90 z11.2).bind fun _ => (X2_finish 90 l 2 z7.1 z11.1 0 z11.2).bind fun μ13 => some μ13) ?_ (fun q1 μ2 h2 => kind_cl h2 hl hm e0)
    exact FK.num 0 3 (K := fun v μ' => (vO 2 90 μ').bind fun _ => (X2_needWord 90 4 μ').bind fun μ27 => (vO 2 90 μ27).bind fun _ => (X2_takeNumber 90 0 60 μ27).bind fun z29 => (vO 2 90 z29.2).bind fun _ => (X2_finish 90 l 2 v z29.1 0 z29.2).bind fun μ31 => some μ31) (FK.need 4 (K := fun μ27 => (vO 2 90 μ27).bind fun _ => (X2_takeNumber 90 0 60 μ27).bind fun z29 => (vO 2 90 z29.2).bind fun _ => (X2_finish 90 l 2 0 z29.1 0 z29.2).bind fun μ31 => some μ31) (FK.num 0 60 (K := fun x μ' => (vO 2 90 μ').bind fun _ => (X2_finish 90 l 2 0 x 0 μ').bind fun μ31 => some μ31) (FK.fin 2 0 0 0)))
theorem never_F (h : CP n T μ0 μ k f q) (hk : ¬ k = 0) : ∃ μ' q', CP n T μ0 μ' k f q' ∧ X2_readNever 90 l μ = some μ' := by
  obtain ⟨μ', q', h', e⟩ := FK.num 0 3 (K := fun v μ' => (vO 2 90 μ').bind fun _ => (X2_needWord 90 4 μ').bind fun μ27 => (vO 2 90 μ27).bind fun _ => (X2_takeNumber 90 0 60 μ27).bind fun z29 => (vO 2 90 z29.2).bind fun _ => (X2_finish 90 l 2 v z29.1 0 z29.2).bind fun μ31 => some μ31) (FK.need 4 (K := fun μ27 => (vO 2 90 μ27).bind fun _ => (X2_takeNumber 90 0 60 μ27).bind fun z29 => (vO 2 90 z29.2).bind fun _ => (X2_finish 90 l 2 0 z29.1 0 z29.2).bind fun μ31 => some μ31) (FK.num 0 60 (K := fun x μ' => (vO 2 90 μ').bind fun _ => (X2_finish 90 l 2 0 x 0 μ').bind fun μ31 => some μ31) (FK.fin 2 0 0 0))) μ k f q h hk
  refine ⟨μ', q', h', ?_⟩
  unfold X2_readNever
  rw [vo_90 h.ok, Option.bind_some, word_cF 1 h hk, Option.bind_some, bind_id, if_pos rfl]
  show (vO 2 90 μ).bind _ = _
  rw [vo_90 h.ok, Option.bind_some, need_cF 3 h hk, Option.bind_some]
  exact e
theorem ninth_c (h : CP n T μ0 μ 0 f q) (hl : isLw l) (hm8 : m ≤ 8) (e0 : mI μ0 l 0 = nI m) (s : Nat) : (m < 8 → X2_refuseNinth 90 l (nI s) μ = some μ) ∧ (¬ m < 8 → ∃ μ', CP n T μ0 μ' 3 (nI s) q ∧ X2_refuseNinth 90 l (nI s) μ = some μ') := by
  have e := h.l0 hl e0
  have c8 : (nI m < 8) = (m < 8) := n_lt (b := 8) (by omega) (by decide)
  refine ⟨fun z => ?_, fun z => ?_⟩
  · unfold X2_refuseNinth
    rw [gi_l h.ok hl, e, Option.bind_some, if_pos (by rw [c8]; exact z), Option.bind_some]
  · obtain ⟨μ', h', e'⟩ := note_c h 3 (nI s) (by decide)
    have e' : X2_note 90 3 (nI s) μ = _ := e'
    refine ⟨μ', h', ?_⟩
    unfold X2_refuseNinth
    rw [gi_l h.ok hl, e, Option.bind_some, if_neg (by rw [c8]; exact z), vo_90 h.ok, Option.bind_some, e', Option.bind_some, Option.bind_some]
theorem clause_c (h : CP n T μ0 μ 0 f q) (hsk : sk n T q = q) (hl : isLw l) (hm8 : m ≤ 8) (e0 : mI μ0 l 0 = nI m) : PostC n T μ0 l m f (pClause n T m q) (X2_readClause 90 l μ) := by
  obtain ⟨μ1, h1, e1⟩ := word_c (w := 0) (by decide) h
  rw [hsk] at h1 e1
  unfold X2_readClause pClause pHead
  rw [gi_90 h.ok, h.2.2.1.2.2, Option.bind_some, vo_90 h.ok, Option.bind_some, e1, Option.bind_some, bind_id]
  by_cases z0 : wQ n T q 0 = true
  · rw [if_pos z0] at h1
    rw [if_pos z0, if_pos z0, if_neg (show ¬ (1 : Int32) = 0 by decide), vo_90 h1.ok, Option.bind_some]
    obtain ⟨n1, n2⟩ := ninth_c h1 hl hm8 e0 q
    by_cases y : m < 8
    · rw [if_pos y, n1 y, Option.bind_some, vo_90 h1.ok, Option.bind_some, bind_id]
      exact never_cl h1 hl y e0
    · obtain ⟨μ2, h2, e2⟩ := n2 y
      obtain ⟨μ3, q3, h3, e3⟩ := never_F (l := l) h2 (by decide)
      rw [if_neg y, e2, Option.bind_some, vo_90 h2.ok, Option.bind_some, bind_id]
      exact ⟨μ3, q3, h3, by decide, e3⟩
  · rw [if_neg z0] at h1
    obtain ⟨μ2, h2, e2⟩ := word_c (w := 5) (by decide) h1
    rw [hsk] at h2 e2
    rw [if_neg z0, if_neg z0, if_pos (show (0 : Int32) = 0 from rfl), vo_90 h1.ok, Option.bind_some, e2, Option.bind_some]
    by_cases z5 : wQ n T q 5 = true
    · rw [if_pos z5] at h2
      rw [if_pos z5, if_pos z5, if_neg (show ¬ (1 : Int32) = 0 by decide), vo_90 h2.ok, Option.bind_some]
      obtain ⟨n1, n2⟩ := ninth_c h2 hl hm8 e0 q
      by_cases y : m < 8
      · rw [if_pos y, n1 y, Option.bind_some]
        exact most_cl h2 hl y e0
      · obtain ⟨μ3, h3, e3⟩ := n2 y
        rw [if_neg y, e3, Option.bind_some]
        obtain ⟨μ4, q4, h4, e4⟩ := FK.num 0 9 (K := fun v μ' => (vO 2 90 μ').bind fun _ => (X2_needWord 90 6 μ').bind fun μ27 => (vO 2 90 μ27).bind fun _ => (X2_takeNumber 90 1 60 μ27).bind fun z29 => (vO 2 90 z29.2).bind fun _ => (X2_finish 90 l 3 v z29.1 0 z29.2).bind fun μ31 => some μ31) (FK.need 6 (K := fun μ27 => (vO 2 90 μ27).bind fun _ => (X2_takeNumber 90 1 60 μ27).bind fun z29 => (vO 2 90 z29.2).bind fun _ => (X2_finish 90 l 3 0 z29.1 0 z29.2).bind fun μ31 => some μ31) (FK.num 1 60 (K := fun x μ' => (vO 2 90 μ').bind fun _ => (X2_finish 90 l 3 0 x 0 μ').bind fun μ31 => some μ31) (FK.fin 3 0 0 0))) μ3 3 (nI q) _ h3 (by decide)
        exact ⟨μ4, q4, h4, by decide, e4⟩
    · rw [if_neg z5] at h2
      obtain ⟨μ3, h3, e3⟩ := word_c (w := 7) (by decide) h2
      rw [hsk] at h3 e3
      rw [if_neg z5, if_neg z5, if_pos (show (0 : Int32) = 0 from rfl), vo_90 h2.ok, Option.bind_some, e3, Option.bind_some]
      by_cases z7 : wQ n T q 7 = true
      · rw [if_pos z7] at h3
        rw [if_pos z7, if_pos z7, if_neg (show ¬ (1 : Int32) = 0 by decide), vo_90 h3.ok, Option.bind_some]
        obtain ⟨n1, n2⟩ := ninth_c h3 hl hm8 e0 q
        by_cases y : m < 8
        · rw [if_pos y, n1 y, Option.bind_some]
          exact always_cl h3 hl y e0
        · obtain ⟨μ4, h4, e4⟩ := n2 y
          rw [if_neg y, e4, Option.bind_some]
          obtain ⟨μ5, q5, h5, e5⟩ := FK.need 8 (K := fun μ17 => (vO 2 90 μ17).bind fun _ => (X2_takeNumber 90 0 9 μ17).bind fun z19 => (vO 2 90 z19.2).bind fun _ => (X2_finish 90 l 4 z19.1 0 0 z19.2).bind fun μ21 => some μ21) (FK.num 0 9 (K := fun x μ' => (vO 2 90 μ').bind fun _ => (X2_finish 90 l 4 x 0 0 μ').bind fun μ31 => some μ31) (FK.fin 4 0 0 0)) μ4 3 (nI q) _ h4 (by decide)
          exact ⟨μ5, q5, h5, by decide, e5⟩
      · rw [if_neg z7] at h3
        obtain ⟨μ4, h4, e4⟩ := note_c h3 1 (nI q) (by decide)
        have e4 : X2_note 90 1 (nI q) μ3 = _ := e4
        rw [if_neg z7, if_neg z7, if_pos (show (0 : Int32) = 0 from rfl), gi_90 h3.ok, h3.2.2.1.2.2, Option.bind_some, vo_90 h3.ok, Option.bind_some, e4, Option.bind_some]
        exact ⟨μ4, _, h4, by decide, rfl⟩
end CC
