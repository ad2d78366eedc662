/-! ===== the reference's odds ===== -/
section MO
variable {μ : Mem} {p t : Nat} {f g : Nat → Nat}
theorem odds38 (h : Ok μ) (hf : HJ μ 139 4 f) (hb : ∀ i, i < 4 → f i ≤ 16 * 64 ^ 6) (x3 : Int32) (k : Nat) : ∃ μ', (Sm μ μ' ∧ HI μ' 143 4 (fun i => if f 0 + f 1 + f 2 + f 3 = 0 then 0 else f i * 1000000 / (f 0 + f 1 + f 2 + f 3))) ∧ X11_findOdds_L38 134 x3 (lN (f 0 + f 1 + f 2 + f 3)) (k + 1 + 4) 0 μ = some (nI 4, μ') := by
  have hA : f 0 + f 1 + f 2 + f 3 ≤ 64 * 64 ^ 6 := by
    have h0 := hb 0 (by decide)
    have h1 := hb 1 (by decide)
    have h2 := hb 2 (by decide)
    have h3 := hb 3 (by decide)
    omega
  have key := loopP (F := fun k (a : Mem) i => X11_findOdds_L38 134 x3 (lN (f 0 + f 1 + f 2 + f 3)) k (nI i) a) (P := fun i a => Sm μ a ∧ HJ a 139 4 f ∧ HI a 143 i (fun i => if f 0 + f 1 + f 2 + f 3 = 0 then 0 else f i * 1000000 / (f 0 + f 1 + f 2 + f 3))) (n := 4) (fun k a i hi P => by
    obtain ⟨s, hja, hj⟩ := P
    have ha := s.1
    have hfi := hb i hi
    have er : ((if lg_cmp (lN (f 0 + f 1 + f 2 + f 3)) 0 = 0 then some 0 else (gR 11 6 134 a).bind fun v4 => (aJ v4 (nI i) a).bind fun v5 => (dvJ (v5 * 1000000) (lN (f 0 + f 1 + f 2 + f 3))).bind fun v6 => some v6.toInt32) : Option Int32) = some (nI (if f 0 + f 1 + f 2 + f 3 = 0 then 0 else f i * 1000000 / (f 0 + f 1 + f 2 + f 3))) := by
      by_cases q : f 0 + f 1 + f 2 + f 3 = 0
      · rw [if_pos (by rw [lN_iz (by omega)]; exact q), if_pos q]
        rfl
      · rw [if_neg (by rw [lN_iz (by omega)]; exact q), if_neg q, r_134_6 ha, Option.bind_some, aJ_eq (a := 139) ha (by decide) rfl hi (by decide), hja i hi, Option.bind_some, show (1000000 : Int64) = lN 1000000 from rfl, lN_mul, dvJ_eq (by omega) (by omega) (by omega), Option.bind_some, lN_i]
    refine ⟨wI a 143 i (nI (if f 0 + f 1 + f 2 + f 3 = 0 then 0 else f i * 1000000 / (f 0 + f 1 + f 2 + f 3))), ⟨s.wI (scr_m (by decide)), hja.wI, hj.put rfl⟩, ?_⟩
    show X11_findOdds_L38 134 x3 (lN (f 0 + f 1 + f 2 + f 3)) (k + 1) (nI i) a = _
    rw [X11_findOdds_L38, if_neg (ge4 hi), r_134_10 ha, Option.bind_some, er, Option.bind_some, sI_eq (a := 143) ha (by decide) rfl hi (by decide), Option.bind_some, nI_add1]) 4 (k + 1) μ 0 rfl ⟨Sm.rf h, hf, fun i hi => absurd hi (Nat.not_lt_zero i)⟩
  obtain ⟨μ', P, e⟩ := key
  refine ⟨μ', ⟨P.1, P.2.2⟩, ?_⟩
  rw [← nI_0]
  refine e.trans ?_
  show X11_findOdds_L38 134 x3 (lN (f 0 + f 1 + f 2 + f 3)) (k + 1) (nI 4) μ' = _
  rw [X11_findOdds_L38, if_pos (by decide)]
theorem tot_le (R : RelW μ) {i : Nat} (hi : i < 4) : tot μ i ≤ 16 := by
  have a0 := (R.1 i 0 hi (by decide)).2.2
  have a1 := (R.1 i 1 hi (by decide)).2.2
  have a2 := (R.1 i 2 hi (by decide)).2.2
  have a3 := (R.1 i 3 hi (by decide)).2.2
  unfold tot
  omega
theorem odds112 (h : Ok μ) (R : RelW μ) (hf : HI μ 143 4 f) (fb : ∀ i, i < 4 → f i ≤ 1000000) {j : Nat} (hj : j < 4) (z : mI μ 144 j = nI 0) {G : Nat → Nat} (hG : HI μ 144 j G) (x3 x6 : Int32) (k : Nat) : ∃ μ', (Sm μ μ' ∧ HI μ' 143 4 f ∧ HI μ' 144 j G ∧ mI μ' 144 j = nI (psm μ f j 4)) ∧ X11_findOdds_L112 134 x3 x6 (nI j) (k + 1 + 4) 0 μ = some (nI 4, μ') := by
  have key := loopP (F := fun k (a : Mem) i => X11_findOdds_L112 134 x3 x6 (nI j) k (nI i) a) (P := fun i a => Sm μ a ∧ HI a 143 4 f ∧ HI a 144 j G ∧ mI a 144 j = nI (psm μ f j i)) (n := 4) (fun k a i hi P => by
    obtain ⟨s, q1, q2, q3⟩ := P
    have ha := s.1
    have Ra := R.sm s
    have rd : ∀ j, j < 4 → aI 135 (nI (4 * i + j)) a = some (nI (mv μ i j)) := fun j hj => (aI_eq (a := 135) ha (by decide) rfl (by omega) (by decide)).trans (by rw [(Ra.1 i j hi hj).2.1, mv_sm s])
    have tl := tot_le R hi
    have m2 := fb i hi
    have m3 := (R.1 i j hi hj).2.2
    have m4 : f i * mv μ i j ≤ 1000000 * 4 := Nat.mul_le_mul m2 m3
    have er : ((if nI (tot μ i) = 0 then some 0 else (gR 11 10 134 a).bind fun v14 => (aI v14 (nI i) a).bind fun v15 => (gR 11 0 134 a).bind fun v16 => (aI v16 (nI (4 * i + j)) a).bind fun v17 => (dvI (v15 * v17) (nI (tot μ i))).bind fun v18 => some v18) : Option Int32) = some (nI (mvS μ f i j)) := by
      unfold mvS
      by_cases q : tot μ i = 0
      · rw [if_pos (by rw [q]; rfl), if_pos q]
        rfl
      · rw [if_neg (by rw [← nI_0, n_eq (by omega) (by decide)]; exact q), if_neg q, r_134_10 ha, Option.bind_some, aI_eq (a := 143) ha (by decide) rfl hi (by decide), q1 i hi, Option.bind_some, r_134_0 ha, Option.bind_some, rd j hj, Option.bind_some, pk_mul, dvI_eq (by omega) (by omega) (by omega), Option.bind_some]
    refine ⟨wI a 144 j (nI (psm μ f j (i + 1))), ⟨s.wI (scr_m (by decide)), q1.oth2 (by decide), q2.hi (Nat.le_refl _), by rw [mI_wI, if_pos ⟨rfl, rfl⟩]⟩, ?_⟩
    show X11_findOdds_L112 134 x3 x6 (nI j) (k + 1) (nI i) a = _
    have rd0 := rd 0 (by decide)
    rw [Nat.add_zero] at rd0
    rw [X11_findOdds_L112, if_neg (ge4 hi), show (4 : Int32) = nI 4 from rfl, pk_mul, show (1 : Int32) = nI 1 from rfl, show (2 : Int32) = nI 2 from rfl, show (3 : Int32) = nI 3 from rfl, nI_add, nI_add, nI_add, nI_add]
    simp only [r_134_0 ha, Option.bind_some, rd0, rd 1 (by decide), rd 2 (by decide), rd 3 (by decide), nI_add, r_134_11 ha, aI_eq (a := 144) ha (by decide) rfl hj (by decide), q3]
    have er2 := er
    unfold tot at er2
    rw [r_134_0 ha] at er2
    rw [show mv μ i 0 + mv μ i 1 + mv μ i 2 + mv μ i 3 = tot μ i from rfl] at er2 ⊢
    simp only [Option.bind_some] at er2
    rw [er2, Option.bind_some, nI_add]
    rw [show psm μ f j i + mvS μ f i j = psm μ f j (i + 1) from rfl, sI_eq (a := 144) ha (by decide) rfl hj (by decide), Option.bind_some]) 4 (k + 1) μ 0 rfl ⟨Sm.rf h, hf, hG, z⟩
  obtain ⟨μ', P, e⟩ := key
  refine ⟨μ', P, ?_⟩
  rw [← nI_0]
  refine e.trans ?_
  show X11_findOdds_L112 134 x3 x6 (nI j) (k + 1) (nI 4) μ' = _
  rw [X11_findOdds_L112, if_pos (by decide)]
theorem psm_sm {μ' : Mem} (s : Sm μ μ') (f : Nat → Nat) (j : Nat) : ∀ i, psm μ' f j i = psm μ f j i
  | 0 => rfl
  | i + 1 => by
    show psm μ' f j i + mvS μ' f i j = psm μ f j i + mvS μ f i j
    rw [psm_sm s f j i]
    unfold mvS tot
    rw [mv_sm s]
theorem odds95 (h : Ok μ) (R : RelW μ) (hf : HI μ 143 4 f) (fb : ∀ i, i < 4 → f i ≤ 1000000) (x3 x6 : Int32) (k : Nat) : ∃ μ', (Sm μ μ' ∧ HI μ' 144 4 (fun j => psm μ f j 4)) ∧ X11_findOdds_L95 134 x3 x6 (k + 1 + 4) 0 μ = some (nI 4, μ') := by
  have key := loopP (F := fun k (a : Mem) j => X11_findOdds_L95 134 x3 x6 k (nI j) a) (P := fun j a => Sm μ a ∧ HI a 143 4 f ∧ HI a 144 j (fun j => psm μ f j 4)) (n := 4) (fun k a j hj P => by
    obtain ⟨s, q1, q2⟩ := P
    have ha := s.1
    have sc : Sm μ (wI a 144 j (nI 0)) := s.wI (scr_m (by decide))
    obtain ⟨b, ⟨s2, r1, r2, r3⟩, eb⟩ := odds112 sc.1 (R.sm sc) (f := f) (q1.oth2 (by decide)) fb hj (by rw [mI_wI, if_pos ⟨rfl, rfl⟩]) (G := fun j => psm μ f j 4) (q2.hi (Nat.le_refl _)) x3 x6 99995
    refine ⟨b, ⟨sc.tr s2, r1, fun i hi => ?_⟩, ?_⟩
    · by_cases e : i = j
      · subst e
        rw [r3, psm_sm sc]
      · exact r2 i (by omega)
    · show X11_findOdds_L95 134 x3 x6 (k + 1) (nI j) a = _
      rw [X11_findOdds_L95, if_neg (ge4 hj), r_134_11 ha, Option.bind_some, ← nI_0, sI_eq (a := 144) ha (by decide) rfl hj (by decide), Option.bind_some, show FU = 99995 + 1 + 4 from rfl]
      rw [show (0 : Int32) = nI 0 from rfl] at eb
      rw [eb, Option.bind_some, nI_add1]) 4 (k + 1) μ 0 rfl ⟨Sm.rf h, hf, fun i hi => absurd hi (Nat.not_lt_zero i)⟩
  obtain ⟨μ', P, e⟩ := key
  refine ⟨μ', ⟨P.1, P.2.2⟩, ?_⟩
  rw [← nI_0]
  refine e.trans ?_
  show X11_findOdds_L95 134 x3 x6 (k + 1) (nI 4) μ' = _
  rw [X11_findOdds_L95, if_pos (by decide)]
theorem odds222 (h : Ok μ) (hf : HI μ 144 4 f) (x3 x6 : Int32) (k : Nat) : ∃ μ', (Sm μ μ' ∧ HI μ' 143 4 f) ∧ X11_findOdds_L222 134 x3 x6 (k + 1 + 4) 0 μ = some (nI 4, μ') := by
  have key := loopP (F := fun k (a : Mem) j => X11_findOdds_L222 134 x3 x6 k (nI j) a) (P := fun j a => Sm μ a ∧ HI a 144 4 f ∧ HI a 143 j f) (n := 4) (fun k a j hj P => by
    obtain ⟨s, q1, q2⟩ := P
    have ha := s.1
    refine ⟨wI a 143 j (nI (f j)), ⟨s.wI (scr_m (by decide)), q1.oth2 (by decide), q2.put rfl⟩, ?_⟩
    show X11_findOdds_L222 134 x3 x6 (k + 1) (nI j) a = _
    rw [X11_findOdds_L222, if_neg (ge4 hj), r_134_10 ha, Option.bind_some, r_134_11 ha, Option.bind_some, aI_eq (a := 144) ha (by decide) rfl hj (by decide), q1 j hj, Option.bind_some, sI_eq (a := 143) ha (by decide) rfl hj (by decide), Option.bind_some, nI_add1]) 4 (k + 1) μ 0 rfl ⟨Sm.rf h, hf, fun i hi => absurd hi (Nat.not_lt_zero i)⟩
  obtain ⟨μ', P, e⟩ := key
  refine ⟨μ', ⟨P.1, P.2.2⟩, ?_⟩
  rw [← nI_0]
  refine e.trans ?_
  show X11_findOdds_L222 134 x3 x6 (k + 1) (nI 4) μ' = _
  rw [X11_findOdds_L222, if_pos (by decide)]
theorem odds86 (h : Ok μ) (R : RelW μ) {k : Nat} (hk : k ≤ 8) (hf : HI μ 143 4 (odd μ p t 0)) (m : Nat) : ∃ μ', (Sm μ μ' ∧ HI μ' 143 4 (odd μ p t k)) ∧ X11_findOdds_L86 134 (nI k) (m + 1 + k) 0 μ = some (nI k, μ') := by
  have key := loopP (F := fun m (a : Mem) d => X11_findOdds_L86 134 (nI k) m (nI d) a) (P := fun d a => Sm μ a ∧ HI a 143 4 (odd μ p t d)) (n := k) (fun m a d hd P => by
    obtain ⟨s, q1⟩ := P
    obtain ⟨b, ⟨sb, r1⟩, eb⟩ := odds95 s.1 (R.sm s) q1 (fun i hi => odd_le hi) (nI k) (nI d) 99995
    obtain ⟨c, ⟨sc, t1⟩, ec⟩ := odds222 sb.1 r1 (nI k) (nI d) 99995
    refine ⟨c, ⟨(s.tr sb).tr sc, fun i hi => ?_⟩, ?_⟩
    · rw [t1 i hi]
      show nI (psm a (odd μ p t d) i 4) = _
      rw [psm_sm s]
      show nI (0 + mvS μ (odd μ p t d) 0 i + mvS μ (odd μ p t d) 1 i + mvS μ (odd μ p t d) 2 i + mvS μ (odd μ p t d) 3 i) = _
      rw [Nat.zero_add]
      rfl
    · show X11_findOdds_L86 134 (nI k) (m + 1) (nI d) a = _
      rw [X11_findOdds_L86, if_neg (by rw [n_le (by omega) (by omega)]; omega), show FU = 99995 + 1 + 4 from rfl, eb, Option.bind_some, ec, Option.bind_some, nI_add1]) k (m + 1) μ 0 (by omega) ⟨Sm.rf h, hf⟩
  obtain ⟨μ', P, e⟩ := key
  refine ⟨μ', P, ?_⟩
  rw [← nI_0]
  refine e.trans ?_
  show X11_findOdds_L86 134 (nI k) (m + 1) (nI k) μ' = _
  rw [X11_findOdds_L86, if_pos (by rw [n_le (by omega) (by omega)]; omega)]
theorem modds_ok (h : Ok μ) (R : RelW μ) {k : Nat} (hp : p < 4) (ht : t < 61) (hk : k ≤ 8) : ∃ μ', (Sm μ μ' ∧ HI μ' 143 4 (odd μ p t k)) ∧ X11_findOdds 134 (nI p) (nI t) (nI k) μ = some μ' := by
  obtain ⟨a, ⟨sa, hj, -⟩, ea⟩ := rows_ok h R hp ht
  obtain ⟨b, ⟨sb, gb⟩, eb⟩ := odds38 sa.1 hj (fun i hi => wgt_le R hp ht hi) (nI k) 99995
  have sb2 := sa.tr sb
  obtain ⟨d, ⟨sd, gd⟩, ed⟩ := odds86 sb2.1 (R.sm sb2) (p := p) (t := t) hk (by
    intro i hi
    rw [gb i hi, odd_sm sb2]
    rfl) (99999 - k)
  refine ⟨d, ⟨sb2.tr sd, fun i hi => ?_⟩, ?_⟩
  · rw [gd i hi, odd_sm sb2]
  · rw [show 99995 + 1 + 4 = FU from rfl] at eb
    rw [show 99999 - k + 1 + k = FU by unfold FU; omega] at ed
    have e : ∀ i, i < 4 → aJ 139 (nI i) a = some (lN (wgt μ false p t i)) := fun i hi => (aJ_eq (a := 139) sa.1 (by decide) rfl hi (by decide)).trans (by rw [hj i hi])
    unfold X11_findOdds
    rw [vO_eq (c := 11) (a := 134) h (by decide) rfl, Option.bind_some, ea, Option.bind_some, r_134_6 sa.1, Option.bind_some]
    have e0 : aJ 139 0 a = some (lN (wgt μ false p t 0)) := e 0 (by decide)
    have e1 : aJ 139 1 a = some (lN (wgt μ false p t 1)) := e 1 (by decide)
    have e2 : aJ 139 2 a = some (lN (wgt μ false p t 2)) := e 2 (by decide)
    have e3 : aJ 139 3 a = some (lN (wgt μ false p t 3)) := e 3 (by decide)
    rw [e0, Option.bind_some, Option.bind_some, e1, Option.bind_some, Option.bind_some, e2, Option.bind_some, Option.bind_some, e3, Option.bind_some, Option.bind_some, lN_add, lN_add, lN_add, eb, Option.bind_some, ed, Option.bind_some]
theorem mseam_ok (h : Ok μ) (R : RelW μ) {k : Nat} (hp : p < 4) (ht : t < 61) (hk : k ≤ 8) : ∃ μ', (Sm μ μ' ∧ HI μ' 143 4 (odd μ p t k)) ∧ X11_seamOdds 134 (nI p) (nI t) (nI k) μ = some (nI (sS μ (odd μ p t k)), μ') := by
  obtain ⟨a, ⟨sa, ha⟩, ea⟩ := modds_ok h R hp ht hk
  refine ⟨a, ⟨sa, ha⟩, ?_⟩
  have oa := sa.1
  have key := loopA (F := fun k (b : Int32) i => X11_seamOdds_L13 134 a k b (nI i)) (f := fun i b => b + nI (bt (ss μ) i * odd μ p t k i)) (n := 4) (fun k2 b i hi => by
    show X11_seamOdds_L13 134 a (k2 + 1) b (nI i) = _
    rw [X11_seamOdds_L13, if_neg (ge4 hi), gI_eq (a := 134) oa (by decide) rfl, show mI a 134 3 = ss μ from ss_sm sa, Option.bind_some, r_134_10 oa, Option.bind_some, aI_eq (a := 143) oa (by decide) rfl hi (by decide), ha i hi, Option.bind_some, bt_eq, pk_mul, Option.bind_some, nI_add1]) 4 99996 0 0 rfl
  have e : X11_seamOdds_L13 134 a FU 0 0 = some (nI (sS μ (odd μ p t k)), nI 4) := by
    refine (show X11_seamOdds_L13 134 a FU 0 0 = X11_seamOdds_L13 134 a (99996 + 4) 0 (nI 0) from rfl).trans (key.trans ?_)
    show X11_seamOdds_L13 134 a (99995 + 1) _ (nI 4) = _
    rw [X11_seamOdds_L13, if_pos (by decide)]
    simp only [itr, ← nI_0, nI_add, Nat.zero_add]
    rfl
  unfold X11_seamOdds
  rw [vO_eq (c := 11) (a := 134) h (by decide) rfl, Option.bind_some, ea, Option.bind_some, e, Option.bind_some]
end MO
