/-! ===== sayings gone through ===== -/
theorem s_saying {s : Nat} (hs : s < 40) : S0 (50 + s) = (0, 5) := s_sayings hs
def cnS (μ : Mem) (t : Nat) : Nat := itr (fun s n => n + bt (nI (sv μ 1 s)) t) 0 (sc μ) 0
theorem itr_bd {f : Nat → Nat → Nat} (hf : ∀ s n, f s n ≤ n + 1) : ∀ d i a, itr f i d a ≤ a + d
  | 0, _, _ => Nat.le_refl _
  | d + 1, i, a => by
    have h1 := itr_bd hf d (i + 1) (f i a)
    have h2 := hf i a
    show itr f (i + 1) d (f i a) ≤ a + (d + 1)
    omega
theorem cnS_sm {μ μ' : Mem} (h : Sm μ μ') : cnS μ' = cnS μ := by
  funext t
  unfold cnS
  rw [sc_sm h]
  exact itr_congr _ _ _ (fun j x _ _ => by rw [sv_sm h (by decide)])
theorem with_c {μ : Mem} (h : Ok μ) (S : RelS μ) (t : Nat) : X0_sayingsWith 37 (nI t) μ = some (nI (cnS μ t)) := by
  have hc := S.1.2.2
  have key := loopA (F := fun k (a : Nat) i => X0_sayingsWith_L4 37 (nI t) μ k (nI a) (nI i)) (f := fun s n => n + bt (nI (sv μ 1 s)) t) (n := sc μ) (fun k a i hi => by
    have g : ¬ nI (sc μ) ≤ nI i := nI_ge hi (by omega)
    show X0_sayingsWith_L4 37 (nI t) μ (k + 1) (nI a) (nI i) = _
    rw [X0_sayingsWith_L4, gI_eq (a := 37) h (by decide) rfl, S.1.1, Option.bind_some, if_neg g, r_37_1 h, Option.bind_some, ar_sayings h (by omega), Option.bind_some, gI_eq h (by omega) (s_saying (by omega)), (S.2.1 1 i (by decide) (by omega)).1, Option.bind_some, Option.bind_some]
    have e : (if X10_contains (nI (sv μ 1 i)) (nI t) = 0 then nI a else nI a + 1 : Int32) = nI (a + bt (nI (sv μ 1 i)) t) := by
      by_cases q : bt (nI (sv μ 1 i)) t = 0
      · rw [if_pos (by rw [has_z]; exact q), q]
        rfl
      · rw [if_neg (by rw [has_z]; exact q), show bt (nI (sv μ 1 i)) t = 1 by have := bt_le (nI (sv μ 1 i)) t; omega, nI_add1]
    rw [e, nI_add1]) (sc μ) (99999 - sc μ + 1) 0 0 (by omega)
  unfold X0_sayingsWith
  have e2 : X0_sayingsWith_L4 37 (nI t) μ FU 0 0 = some (nI (cnS μ t), nI (sc μ)) := by
    rw [show FU = 99999 - sc μ + 1 + sc μ by unfold FU; omega]
    refine key.trans ?_
    show X0_sayingsWith_L4 37 (nI t) μ (99999 - sc μ + 1) _ (nI (sc μ)) = _
    rw [X0_sayingsWith_L4, gI_eq (a := 37) h (by decide) rfl, S.1.1, Option.bind_some, if_pos (nI_le (Nat.le_refl _) (by omega))]
    rfl
  rw [e2, Option.bind_some]
theorem with_m {μ : Mem} (h : Ok μ) (S : RelS μ) (t : Nat) : X11_sayingsOf 134 (nI t) μ = some (nI (cnS μ t)) := by
  have hc := S.1.2.2
  have key := loopA (F := fun k (a : Nat) i => X11_sayingsOf_L4 134 (nI t) μ k (nI a) (nI i)) (f := fun s n => n + bt (nI (sv μ 1 s)) t) (n := sc μ) (fun k a i hi => by
    have g : ¬ nI (sc μ) ≤ nI i := nI_ge hi (by omega)
    show X11_sayingsOf_L4 134 (nI t) μ (k + 1) (nI a) (nI i) = _
    rw [X11_sayingsOf_L4, gI_eq (a := 134) h (by decide) rfl, S.1.2.1, Option.bind_some, if_neg g, r_134_47 h, Option.bind_some, aI_eq (a := 171) h (by decide) rfl (by omega) (by decide), (S.2.1 1 i (by decide) (by omega)).2.1, Option.bind_some, Option.bind_some, nI_add1, bt_eq, nI_add]) (sc μ) (99999 - sc μ + 1) 0 0 (by omega)
  unfold X11_sayingsOf
  have e2 : X11_sayingsOf_L4 134 (nI t) μ FU 0 0 = some (nI (cnS μ t), nI (sc μ)) := by
    rw [show FU = 99999 - sc μ + 1 + sc μ by unfold FU; omega]
    refine key.trans ?_
    show X11_sayingsOf_L4 134 (nI t) μ (99999 - sc μ + 1) _ (nI (sc μ)) = _
    rw [X11_sayingsOf_L4, gI_eq (a := 134) h (by decide) rfl, S.1.2.1, Option.bind_some, if_pos (nI_le (Nat.le_refl _) (by omega))]
    rfl
  rw [e2, Option.bind_some]
