/-! ===== what both hold of all else; the invariant of a run ===== -/
def cs (μ : Mem) (w s : Nat) : Nat := vN (mI μ 154 (4 * w + s))
def sn (μ : Mem) (w : Nat) : Nat := vN (mI μ 155 w)
def RelC (μ : Mem) : Prop := (∀ w s, w < 4 → s < 4 → mI μ (32 + w) s = nI (cs μ w s) ∧ mI μ 154 (4 * w + s) = nI (cs μ w s) ∧ cs μ w s ≤ 999) ∧ ∀ w, w < 4 → mI μ 36 w = nI (sn μ w) ∧ mI μ 155 w = nI (sn μ w) ∧ sn μ w ≤ 100
/-- of THINGS: 0 persons, 1 kind, 2 matter, 3 from, 4 worth, 5 less, 6 clock, 7 tick, 8 dead -/
def tv (μ : Mem) (c t : Nat) : Nat := vN (mI μ (145 + c) t)
def tn (μ : Mem) : Nat := vN (mI μ 134 12)
def tbd (c : Nat) : Nat := [15, 3, 5, 9, 999, 99, 60, 60, 1].getD c 0
def RelT (μ : Mem) : Prop := (mI μ 37 2 = nI (tn μ) ∧ mI μ 134 12 = nI (tn μ) ∧ tn μ ≤ 10) ∧ (∀ c t, c < 9 → t < 10 → mI μ (40 + t) c = nI (tv μ c t) ∧ mI μ (145 + c) t = nI (tv μ c t) ∧ tv μ c t ≤ tbd c) ∧ (∀ t, t < 10 → tv μ 7 t ≤ nw μ) ∧ ∀ t, tn μ ≤ t → t < 10 → tv μ 8 t = 0
/-- of SAYINGS: 0 person, 1 set, 2 way, 3 tick, 4 what came -/
def sv (μ : Mem) (c s : Nat) : Nat := vN (mI μ (170 + c) s)
def sc (μ : Mem) : Nat := vN (mI μ 134 45)
def sbd (c : Nat) : Nat := [3, 1023, 3, 60, 3].getD c 0
def RelS (μ : Mem) : Prop := (mI μ 37 3 = nI (sc μ) ∧ mI μ 134 45 = nI (sc μ) ∧ sc μ ≤ 40) ∧ (∀ c s, c < 5 → s < 40 → mI μ (50 + s) c = nI (sv μ c s) ∧ mI μ (170 + c) s = nI (sv μ c s) ∧ sv μ c s ≤ sbd c) ∧ (∀ s, s < 40 → sv μ 3 s ≤ nw μ) ∧ ∀ s, sc μ ≤ s → s < 40 → sv μ 4 s = 0
def tl (μ : Mem) : Nat := vN (mI μ 134 34)
def tx (μ : Mem) (k : Nat) : Nat := vN (mI μ 165 k)
def RelX (μ : Mem) : Prop := (mI μ 90 0 = nI (tl μ) ∧ mI μ 134 34 = nI (tl μ) ∧ tl μ ≤ 160) ∧ (∀ k, k < 160 → mI μ 91 k = nI (tx μ k) ∧ mI μ 165 k = nI (tx μ k) ∧ tx μ k ≤ 255) ∧ mI μ 90 2 = mI μ 134 35
/-- of LAWS of a person: how many; 0 the sort, 1 .. 3 the numbers of a clause -/
def lc (μ : Mem) (p : Nat) : Nat := vN (mI μ 156 p)
def lv (μ : Mem) (c p k : Nat) : Nat := vN (mI μ (157 + c) (8 * p + k))
def RelL (μ : Mem) : Prop := ∀ p, p < 4 → (mI μ (lwA μ p) 0 = nI (lc μ p) ∧ mI μ 156 p = nI (lc μ p) ∧ lc μ p ≤ 8) ∧ ∀ k, k < lc μ p → (mI μ (lwA μ p + 1) k = nI (lv μ 0 p k) ∧ mI μ 157 (8 * p + k) = nI (lv μ 0 p k) ∧ lv μ 0 p k ≤ 4) ∧ (mI μ (lwA μ p + 2) k = nI (lv μ 1 p k) ∧ mI μ 158 (8 * p + k) = nI (lv μ 1 p k) ∧ lv μ 1 p k ≤ 9 ∧ (lv μ 0 p k < 3 → lv μ 1 p k ≤ 3)) ∧ (1 ≤ lv μ 0 p k → lv μ 0 p k ≤ 3 → mI μ (lwA μ p + 3) k = nI (lv μ 2 p k) ∧ mI μ 159 (8 * p + k) = nI (lv μ 2 p k) ∧ lv μ 2 p k ≤ 60 ∧ (lv μ 0 p k = 1 → lv μ 2 p k ≤ 3)) ∧ (lv μ 0 p k = 1 → mI μ (lwA μ p + 4) k = nI (lv μ 3 p k) ∧ mI μ 160 (8 * p + k) = nI (lv μ 3 p k) ∧ lv μ 3 p k ≤ 100)
def Inv (μ : Mem) : Prop := Ok μ ∧ RelW μ ∧ RelC μ ∧ RelT μ ∧ RelS μ ∧ RelX μ ∧ RelL μ
theorem cs_sm {μ μ' : Mem} (h : Sm μ μ') : cs μ' = cs μ := by
  funext i j
  unfold cs
  rw [h.row rfl]
theorem sn_sm {μ μ' : Mem} (h : Sm μ μ') : sn μ' = sn μ := by
  funext i
  unfold sn
  rw [h.row rfl]
theorem coA_t {c : Nat} (hc : c < 16) : coA (145 + c) = true := by
  unfold coA
  rw [decide_eq_true_eq]
  omega
theorem coA_s {c : Nat} (hc : c < 5) : coA (170 + c) = true := by
  unfold coA
  rw [decide_eq_true_eq]
  omega
theorem coA_o {c : Nat} (hc : c < 50) : coA (40 + c) = true := by
  unfold coA
  rw [decide_eq_true_eq]
  omega
theorem tv_sm {μ μ' : Mem} (h : Sm μ μ') {c t : Nat} (hc : c < 9) : tv μ' c t = tv μ c t := by
  unfold tv
  rw [h.row (coA_t (by omega))]
theorem tn_sm {μ μ' : Mem} (h : Sm μ μ') : tn μ' = tn μ := by
  unfold tn
  rw [h.fld rfl]
theorem sv_sm {μ μ' : Mem} (h : Sm μ μ') {c s : Nat} (hc : c < 5) : sv μ' c s = sv μ c s := by
  unfold sv
  rw [h.row (coA_s hc)]
theorem sc_sm {μ μ' : Mem} (h : Sm μ μ') : sc μ' = sc μ := by
  unfold sc
  rw [h.fld rfl]
theorem tl_sm {μ μ' : Mem} (h : Sm μ μ') : tl μ' = tl μ := by
  unfold tl
  rw [h.fld rfl]
theorem tx_sm {μ μ' : Mem} (h : Sm μ μ') : tx μ' = tx μ := by
  funext k
  unfold tx
  rw [h.row rfl]
theorem lc_sm {μ μ' : Mem} (h : Sm μ μ') : lc μ' = lc μ := by
  funext p
  unfold lc
  rw [h.row rfl]
theorem lv_sm {μ μ' : Mem} (h : Sm μ μ') {c p k : Nat} (hc : c < 4) : lv μ' c p k = lv μ c p k := by
  unfold lv
  rw [show 157 + c = 145 + (12 + c) by omega, h.row (coA_t (by omega))]
theorem lw_sm {μ μ' : Mem} (h : Sm μ μ') : lwA μ' = lwA μ := by
  funext p
  unfold lwA
  rw [h.2.2.1]
theorem isLw.co {l c : Nat} (h : isLw l) (hc : c < 5) : coA (l + c) = true := by
  unfold coA
  rw [decide_eq_true_eq]
  unfold isLw at h
  omega
theorem Inv.sm {μ μ' : Mem} (h : Inv μ) (s : Sm μ μ') : Inv μ' := by
  obtain ⟨h0, h1, ⟨h2, h2b⟩, ⟨h3, h3b, h3c, h3d⟩, ⟨h4, h4b, h4c, h4d⟩, ⟨h5, h5b, h5c⟩, h6⟩ := h
  refine ⟨s.1, h1.sm s, ⟨fun w k hw hk => ?_, fun w hw => ?_⟩, ⟨?_, fun c t hc ht => ?_, fun t ht => ?_, fun t q ht => ?_⟩, ⟨?_, fun c t hc ht => ?_, fun t ht => ?_, fun t q ht => ?_⟩, ⟨?_, fun k hk => ?_, ?_⟩, fun p hp => ?_⟩
  · rw [s.row (coA_4 (by omega) hw), s.row (a := 154) rfl, cs_sm s]
    exact h2 w k hw hk
  · rw [s.row (a := 36) rfl, s.row (a := 155) rfl, sn_sm s]
    exact h2b w hw
  · rw [s.fld (a := 37) (k := 2) rfl, s.fld (a := 134) (k := 12) rfl, tn_sm s]
    exact h3
  · rw [s.row (coA_o (by omega)), s.row (coA_t (by omega)), tv_sm s hc]
    exact h3b c t hc ht
  · rw [tv_sm s (by decide), nw_sm s]
    exact h3c t ht
  · rw [tn_sm s] at q
    rw [tv_sm s (by decide)]
    exact h3d t q ht
  · rw [s.fld (a := 37) (k := 3) rfl, s.fld (a := 134) (k := 45) rfl, sc_sm s]
    exact h4
  · rw [show 50 + t = 40 + (10 + t) by omega, s.row (coA_o (by omega)), s.row (coA_s hc), sv_sm s hc, show 40 + (10 + t) = 50 + t by omega]
    exact h4b c t hc ht
  · rw [sv_sm s (by decide), nw_sm s]
    exact h4c t ht
  · rw [sc_sm s] at q
    rw [sv_sm s (by decide)]
    exact h4d t q ht
  · rw [s.fld (a := 90) (k := 0) rfl, s.fld (a := 134) (k := 34) rfl, tl_sm s]
    exact h5
  · rw [s.row (a := 91) rfl, s.row (a := 165) rfl, tx_sm s]
    exact h5b k hk
  · rw [s.fld (a := 90) (k := 2) rfl, s.fld (a := 134) (k := 35) rfl]
    exact h5c
  · obtain ⟨hl, hc⟩ := h6 p hp
    have il := (h0.2.2.2.2.1 p hp).2
    have r0 := s.row (il.co (c := 0) (by decide))
    rw [Nat.add_zero] at r0
    rw [lw_sm s, lc_sm s, r0, s.row (il.co (c := 1) (by decide)), s.row (il.co (c := 2) (by decide)), s.row (il.co (c := 3) (by decide)), s.row (il.co (c := 4) (by decide)), s.row (a := 156) rfl, s.row (a := 157) rfl, s.row (a := 158) rfl, s.row (a := 159) rfl, s.row (a := 160) rfl]
    refine ⟨hl, fun k hk => ?_⟩
    rw [lv_sm s (by decide), lv_sm s (by decide), lv_sm s (by decide), lv_sm s (by decide)]
    exact hc k hk
