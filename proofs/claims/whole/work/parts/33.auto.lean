/-! ===== reads and writes by place ===== -/
theorem gi_0 {μ : Mem} {k : Nat} (h : Ok μ) : gI 10 k 0 μ = some (mI μ 0 k) := gI_eq h (by decide) rfl
theorem pi_0 {μ : Mem} {k : Nat} {x : Int32} (h : Ok μ) : pI 10 k 0 x μ = some (wI μ 0 k x) := pI_eq h (by decide) rfl
theorem vo_0 {μ : Mem} (h : Ok μ) : vO 10 0 μ = some () := vO_eq h (by decide) rfl
theorem gi_1 {μ : Mem} {k : Nat} (h : Ok μ) : gI 9 k 1 μ = some (mI μ 1 k) := gI_eq h (by decide) rfl
theorem pi_1 {μ : Mem} {k : Nat} {x : Int32} (h : Ok μ) : pI 9 k 1 x μ = some (wI μ 1 k x) := pI_eq h (by decide) rfl
theorem vo_1 {μ : Mem} (h : Ok μ) : vO 9 1 μ = some () := vO_eq h (by decide) rfl
theorem ai_12 {μ : Mem} {i : Nat} (h : Ok μ) (hi : i < 4) : aI 12 (nI i) μ = some (mI μ 12 i) := aI_eq h (by decide) rfl hi (by decide)
theorem si_12 {μ : Mem} {i : Nat} {x : Int32} (h : Ok μ) (hi : i < 4) : sI 12 (nI i) x μ = some (wI μ 12 i x) := sI_eq h (by decide) rfl hi (by decide)
theorem gi_30 {μ : Mem} {k : Nat} (h : Ok μ) : gI 8 k 30 μ = some (mI μ 30 k) := gI_eq h (by decide) rfl
theorem pi_30 {μ : Mem} {k : Nat} {x : Int32} (h : Ok μ) : pI 8 k 30 x μ = some (wI μ 30 k x) := pI_eq h (by decide) rfl
theorem vo_30 {μ : Mem} (h : Ok μ) : vO 8 30 μ = some () := vO_eq h (by decide) rfl
theorem ai_36 {μ : Mem} {i : Nat} (h : Ok μ) (hi : i < 4) : aI 36 (nI i) μ = some (mI μ 36 i) := aI_eq h (by decide) rfl hi (by decide)
theorem si_36 {μ : Mem} {i : Nat} {x : Int32} (h : Ok μ) (hi : i < 4) : sI 36 (nI i) x μ = some (wI μ 36 i x) := sI_eq h (by decide) rfl hi (by decide)
theorem gi_37 {μ : Mem} {k : Nat} (h : Ok μ) : gI 0 k 37 μ = some (mI μ 37 k) := gI_eq h (by decide) rfl
theorem pi_37 {μ : Mem} {k : Nat} {x : Int32} (h : Ok μ) : pI 0 k 37 x μ = some (wI μ 37 k x) := pI_eq h (by decide) rfl
theorem vo_37 {μ : Mem} (h : Ok μ) : vO 0 37 μ = some () := vO_eq h (by decide) rfl
theorem gi_90 {μ : Mem} {k : Nat} (h : Ok μ) : gI 2 k 90 μ = some (mI μ 90 k) := gI_eq h (by decide) rfl
theorem pi_90 {μ : Mem} {k : Nat} {x : Int32} (h : Ok μ) : pI 2 k 90 x μ = some (wI μ 90 k x) := pI_eq h (by decide) rfl
theorem vo_90 {μ : Mem} (h : Ok μ) : vO 2 90 μ = some () := vO_eq h (by decide) rfl
theorem ai_91 {μ : Mem} {i : Nat} (h : Ok μ) (hi : i < 160) : aI 91 (nI i) μ = some (mI μ 91 i) := aI_eq h (by decide) rfl hi (by decide)
theorem si_91 {μ : Mem} {i : Nat} {x : Int32} (h : Ok μ) (hi : i < 160) : sI 91 (nI i) x μ = some (wI μ 91 i x) := sI_eq h (by decide) rfl hi (by decide)
theorem gi_93 {μ : Mem} {k : Nat} (h : Ok μ) : gI 1 k 93 μ = some (mI μ 93 k) := gI_eq h (by decide) rfl
theorem pi_93 {μ : Mem} {k : Nat} {x : Int32} (h : Ok μ) : pI 1 k 93 x μ = some (wI μ 93 k x) := pI_eq h (by decide) rfl
theorem vo_93 {μ : Mem} (h : Ok μ) : vO 1 93 μ = some () := vO_eq h (by decide) rfl
theorem gi_94 {μ : Mem} {k : Nat} (h : Ok μ) : gI 4 k 94 μ = some (mI μ 94 k) := gI_eq h (by decide) rfl
theorem pi_94 {μ : Mem} {k : Nat} {x : Int32} (h : Ok μ) : pI 4 k 94 x μ = some (wI μ 94 k x) := pI_eq h (by decide) rfl
theorem vo_94 {μ : Mem} (h : Ok μ) : vO 4 94 μ = some () := vO_eq h (by decide) rfl
theorem ai_95 {μ : Mem} {i : Nat} (h : Ok μ) (hi : i < 6) : aI 95 (nI i) μ = some (mI μ 95 i) := aI_eq h (by decide) rfl hi (by decide)
theorem si_95 {μ : Mem} {i : Nat} {x : Int32} (h : Ok μ) (hi : i < 6) : sI 95 (nI i) x μ = some (wI μ 95 i x) := sI_eq h (by decide) rfl hi (by decide)
theorem ai_96 {μ : Mem} {i : Nat} (h : Ok μ) (hi : i < 6) : aI 96 (nI i) μ = some (mI μ 96 i) := aI_eq h (by decide) rfl hi (by decide)
theorem si_96 {μ : Mem} {i : Nat} {x : Int32} (h : Ok μ) (hi : i < 6) : sI 96 (nI i) x μ = some (wI μ 96 i x) := sI_eq h (by decide) rfl hi (by decide)
theorem gi_97 {μ : Mem} {k : Nat} (h : Ok μ) : gI 1 k 97 μ = some (mI μ 97 k) := gI_eq h (by decide) rfl
theorem pi_97 {μ : Mem} {k : Nat} {x : Int32} (h : Ok μ) : pI 1 k 97 x μ = some (wI μ 97 k x) := pI_eq h (by decide) rfl
theorem vo_97 {μ : Mem} (h : Ok μ) : vO 1 97 μ = some () := vO_eq h (by decide) rfl
theorem ai_98 {μ : Mem} {i : Nat} (h : Ok μ) (hi : i < 6) : aI 98 (nI i) μ = some (mI μ 98 i) := aI_eq h (by decide) rfl hi (by decide)
theorem si_98 {μ : Mem} {i : Nat} {x : Int32} (h : Ok μ) (hi : i < 6) : sI 98 (nI i) x μ = some (wI μ 98 i x) := sI_eq h (by decide) rfl hi (by decide)
theorem ai_99 {μ : Mem} {i : Nat} (h : Ok μ) (hi : i < 64) : aI 99 (nI i) μ = some (mI μ 99 i) := aI_eq h (by decide) rfl hi (by decide)
theorem si_99 {μ : Mem} {i : Nat} {x : Int32} (h : Ok μ) (hi : i < 64) : sI 99 (nI i) x μ = some (wI μ 99 i x) := sI_eq h (by decide) rfl hi (by decide)
theorem ai_100 {μ : Mem} {i : Nat} (h : Ok μ) (hi : i < 64) : aI 100 (nI i) μ = some (mI μ 100 i) := aI_eq h (by decide) rfl hi (by decide)
theorem si_100 {μ : Mem} {i : Nat} {x : Int32} (h : Ok μ) (hi : i < 64) : sI 100 (nI i) x μ = some (wI μ 100 i x) := sI_eq h (by decide) rfl hi (by decide)
theorem ai_101 {μ : Mem} {i : Nat} (h : Ok μ) (hi : i < 64) : aI 101 (nI i) μ = some (mI μ 101 i) := aI_eq h (by decide) rfl hi (by decide)
theorem si_101 {μ : Mem} {i : Nat} {x : Int32} (h : Ok μ) (hi : i < 64) : sI 101 (nI i) x μ = some (wI μ 101 i x) := sI_eq h (by decide) rfl hi (by decide)
theorem ai_102 {μ : Mem} {i : Nat} (h : Ok μ) (hi : i < 4) : aI 102 (nI i) μ = some (mI μ 102 i) := aI_eq h (by decide) rfl hi (by decide)
theorem si_102 {μ : Mem} {i : Nat} {x : Int32} (h : Ok μ) (hi : i < 4) : sI 102 (nI i) x μ = some (wI μ 102 i x) := sI_eq h (by decide) rfl hi (by decide)
theorem ai_103 {μ : Mem} {i : Nat} (h : Ok μ) (hi : i < 384) : aI 103 (nI i) μ = some (mI μ 103 i) := aI_eq h (by decide) rfl hi (by decide)
theorem si_103 {μ : Mem} {i : Nat} {x : Int32} (h : Ok μ) (hi : i < 384) : sI 103 (nI i) x μ = some (wI μ 103 i x) := sI_eq h (by decide) rfl hi (by decide)
theorem ai_104 {μ : Mem} {i : Nat} (h : Ok μ) (hi : i < 384) : aI 104 (nI i) μ = some (mI μ 104 i) := aI_eq h (by decide) rfl hi (by decide)
theorem si_104 {μ : Mem} {i : Nat} {x : Int32} (h : Ok μ) (hi : i < 384) : sI 104 (nI i) x μ = some (wI μ 104 i x) := sI_eq h (by decide) rfl hi (by decide)
theorem ai_105 {μ : Mem} {i : Nat} (h : Ok μ) (hi : i < 4096) : aI 105 (nI i) μ = some (mI μ 105 i) := aI_eq h (by decide) rfl hi (by decide)
theorem si_105 {μ : Mem} {i : Nat} {x : Int32} (h : Ok μ) (hi : i < 4096) : sI 105 (nI i) x μ = some (wI μ 105 i x) := sI_eq h (by decide) rfl hi (by decide)
theorem ai_106 {μ : Mem} {i : Nat} (h : Ok μ) (hi : i < 66) : aI 106 (nI i) μ = some (mI μ 106 i) := aI_eq h (by decide) rfl hi (by decide)
theorem si_106 {μ : Mem} {i : Nat} {x : Int32} (h : Ok μ) (hi : i < 66) : sI 106 (nI i) x μ = some (wI μ 106 i x) := sI_eq h (by decide) rfl hi (by decide)
theorem gi_107 {μ : Mem} {k : Nat} (h : Ok μ) : gI 7 k 107 μ = some (mI μ 107 k) := gI_eq h (by decide) rfl
theorem pi_107 {μ : Mem} {k : Nat} {x : Int32} (h : Ok μ) : pI 7 k 107 x μ = some (wI μ 107 k x) := pI_eq h (by decide) rfl
theorem vo_107 {μ : Mem} (h : Ok μ) : vO 7 107 μ = some () := vO_eq h (by decide) rfl
theorem ai_108 {μ : Mem} {i : Nat} (h : Ok μ) (hi : i < 66) : aI 108 (nI i) μ = some (mI μ 108 i) := aI_eq h (by decide) rfl hi (by decide)
theorem si_108 {μ : Mem} {i : Nat} {x : Int32} (h : Ok μ) (hi : i < 66) : sI 108 (nI i) x μ = some (wI μ 108 i x) := sI_eq h (by decide) rfl hi (by decide)
theorem gi_109 {μ : Mem} {k : Nat} (h : Ok μ) : gI 3 k 109 μ = some (mI μ 109 k) := gI_eq h (by decide) rfl
theorem pi_109 {μ : Mem} {k : Nat} {x : Int32} (h : Ok μ) : pI 3 k 109 x μ = some (wI μ 109 k x) := pI_eq h (by decide) rfl
theorem vo_109 {μ : Mem} (h : Ok μ) : vO 3 109 μ = some () := vO_eq h (by decide) rfl
theorem gi_114 {μ : Mem} {k : Nat} (h : Ok μ) : gI 3 k 114 μ = some (mI μ 114 k) := gI_eq h (by decide) rfl
theorem pi_114 {μ : Mem} {k : Nat} {x : Int32} (h : Ok μ) : pI 3 k 114 x μ = some (wI μ 114 k x) := pI_eq h (by decide) rfl
theorem vo_114 {μ : Mem} (h : Ok μ) : vO 3 114 μ = some () := vO_eq h (by decide) rfl
theorem gi_119 {μ : Mem} {k : Nat} (h : Ok μ) : gI 3 k 119 μ = some (mI μ 119 k) := gI_eq h (by decide) rfl
theorem pi_119 {μ : Mem} {k : Nat} {x : Int32} (h : Ok μ) : pI 3 k 119 x μ = some (wI μ 119 k x) := pI_eq h (by decide) rfl
theorem vo_119 {μ : Mem} (h : Ok μ) : vO 3 119 μ = some () := vO_eq h (by decide) rfl
theorem gi_124 {μ : Mem} {k : Nat} (h : Ok μ) : gI 3 k 124 μ = some (mI μ 124 k) := gI_eq h (by decide) rfl
theorem pi_124 {μ : Mem} {k : Nat} {x : Int32} (h : Ok μ) : pI 3 k 124 x μ = some (wI μ 124 k x) := pI_eq h (by decide) rfl
theorem vo_124 {μ : Mem} (h : Ok μ) : vO 3 124 μ = some () := vO_eq h (by decide) rfl
theorem gi_129 {μ : Mem} {k : Nat} (h : Ok μ) : gI 3 k 129 μ = some (mI μ 129 k) := gI_eq h (by decide) rfl
theorem pi_129 {μ : Mem} {k : Nat} {x : Int32} (h : Ok μ) : pI 3 k 129 x μ = some (wI μ 129 k x) := pI_eq h (by decide) rfl
theorem vo_129 {μ : Mem} (h : Ok μ) : vO 3 129 μ = some () := vO_eq h (by decide) rfl
theorem gi_134 {μ : Mem} {k : Nat} (h : Ok μ) : gI 11 k 134 μ = some (mI μ 134 k) := gI_eq h (by decide) rfl
theorem pi_134 {μ : Mem} {k : Nat} {x : Int32} (h : Ok μ) : pI 11 k 134 x μ = some (wI μ 134 k x) := pI_eq h (by decide) rfl
theorem vo_134 {μ : Mem} (h : Ok μ) : vO 11 134 μ = some () := vO_eq h (by decide) rfl
theorem ai_135 {μ : Mem} {i : Nat} (h : Ok μ) (hi : i < 16) : aI 135 (nI i) μ = some (mI μ 135 i) := aI_eq h (by decide) rfl hi (by decide)
theorem si_135 {μ : Mem} {i : Nat} {x : Int32} (h : Ok μ) (hi : i < 16) : sI 135 (nI i) x μ = some (wI μ 135 i x) := sI_eq h (by decide) rfl hi (by decide)
theorem ai_136 {μ : Mem} {i : Nat} (h : Ok μ) (hi : i < 16) : aI 136 (nI i) μ = some (mI μ 136 i) := aI_eq h (by decide) rfl hi (by decide)
theorem si_136 {μ : Mem} {i : Nat} {x : Int32} (h : Ok μ) (hi : i < 16) : sI 136 (nI i) x μ = some (wI μ 136 i x) := sI_eq h (by decide) rfl hi (by decide)
theorem ai_137 {μ : Mem} {i : Nat} (h : Ok μ) (hi : i < 4) : aI 137 (nI i) μ = some (mI μ 137 i) := aI_eq h (by decide) rfl hi (by decide)
theorem si_137 {μ : Mem} {i : Nat} {x : Int32} (h : Ok μ) (hi : i < 4) : sI 137 (nI i) x μ = some (wI μ 137 i x) := sI_eq h (by decide) rfl hi (by decide)
theorem ai_138 {μ : Mem} {i : Nat} (h : Ok μ) (hi : i < 244) : aI 138 (nI i) μ = some (mI μ 138 i) := aI_eq h (by decide) rfl hi (by decide)
theorem si_138 {μ : Mem} {i : Nat} {x : Int32} (h : Ok μ) (hi : i < 244) : sI 138 (nI i) x μ = some (wI μ 138 i x) := sI_eq h (by decide) rfl hi (by decide)
theorem ai_141 {μ : Mem} {i : Nat} (h : Ok μ) (hi : i < 4) : aI 141 (nI i) μ = some (mI μ 141 i) := aI_eq h (by decide) rfl hi (by decide)
theorem si_141 {μ : Mem} {i : Nat} {x : Int32} (h : Ok μ) (hi : i < 4) : sI 141 (nI i) x μ = some (wI μ 141 i x) := sI_eq h (by decide) rfl hi (by decide)
theorem ai_142 {μ : Mem} {i : Nat} (h : Ok μ) (hi : i < 4) : aI 142 (nI i) μ = some (mI μ 142 i) := aI_eq h (by decide) rfl hi (by decide)
theorem si_142 {μ : Mem} {i : Nat} {x : Int32} (h : Ok μ) (hi : i < 4) : sI 142 (nI i) x μ = some (wI μ 142 i x) := sI_eq h (by decide) rfl hi (by decide)
theorem ai_143 {μ : Mem} {i : Nat} (h : Ok μ) (hi : i < 4) : aI 143 (nI i) μ = some (mI μ 143 i) := aI_eq h (by decide) rfl hi (by decide)
theorem si_143 {μ : Mem} {i : Nat} {x : Int32} (h : Ok μ) (hi : i < 4) : sI 143 (nI i) x μ = some (wI μ 143 i x) := sI_eq h (by decide) rfl hi (by decide)
theorem ai_144 {μ : Mem} {i : Nat} (h : Ok μ) (hi : i < 4) : aI 144 (nI i) μ = some (mI μ 144 i) := aI_eq h (by decide) rfl hi (by decide)
theorem si_144 {μ : Mem} {i : Nat} {x : Int32} (h : Ok μ) (hi : i < 4) : sI 144 (nI i) x μ = some (wI μ 144 i x) := sI_eq h (by decide) rfl hi (by decide)
theorem ai_145 {μ : Mem} {i : Nat} (h : Ok μ) (hi : i < 10) : aI 145 (nI i) μ = some (mI μ 145 i) := aI_eq h (by decide) rfl hi (by decide)
theorem si_145 {μ : Mem} {i : Nat} {x : Int32} (h : Ok μ) (hi : i < 10) : sI 145 (nI i) x μ = some (wI μ 145 i x) := sI_eq h (by decide) rfl hi (by decide)
theorem ai_146 {μ : Mem} {i : Nat} (h : Ok μ) (hi : i < 10) : aI 146 (nI i) μ = some (mI μ 146 i) := aI_eq h (by decide) rfl hi (by decide)
theorem si_146 {μ : Mem} {i : Nat} {x : Int32} (h : Ok μ) (hi : i < 10) : sI 146 (nI i) x μ = some (wI μ 146 i x) := sI_eq h (by decide) rfl hi (by decide)
theorem ai_147 {μ : Mem} {i : Nat} (h : Ok μ) (hi : i < 10) : aI 147 (nI i) μ = some (mI μ 147 i) := aI_eq h (by decide) rfl hi (by decide)
theorem si_147 {μ : Mem} {i : Nat} {x : Int32} (h : Ok μ) (hi : i < 10) : sI 147 (nI i) x μ = some (wI μ 147 i x) := sI_eq h (by decide) rfl hi (by decide)
theorem ai_148 {μ : Mem} {i : Nat} (h : Ok μ) (hi : i < 10) : aI 148 (nI i) μ = some (mI μ 148 i) := aI_eq h (by decide) rfl hi (by decide)
theorem si_148 {μ : Mem} {i : Nat} {x : Int32} (h : Ok μ) (hi : i < 10) : sI 148 (nI i) x μ = some (wI μ 148 i x) := sI_eq h (by decide) rfl hi (by decide)
theorem ai_149 {μ : Mem} {i : Nat} (h : Ok μ) (hi : i < 10) : aI 149 (nI i) μ = some (mI μ 149 i) := aI_eq h (by decide) rfl hi (by decide)
theorem si_149 {μ : Mem} {i : Nat} {x : Int32} (h : Ok μ) (hi : i < 10) : sI 149 (nI i) x μ = some (wI μ 149 i x) := sI_eq h (by decide) rfl hi (by decide)
theorem ai_150 {μ : Mem} {i : Nat} (h : Ok μ) (hi : i < 10) : aI 150 (nI i) μ = some (mI μ 150 i) := aI_eq h (by decide) rfl hi (by decide)
theorem si_150 {μ : Mem} {i : Nat} {x : Int32} (h : Ok μ) (hi : i < 10) : sI 150 (nI i) x μ = some (wI μ 150 i x) := sI_eq h (by decide) rfl hi (by decide)
theorem ai_151 {μ : Mem} {i : Nat} (h : Ok μ) (hi : i < 10) : aI 151 (nI i) μ = some (mI μ 151 i) := aI_eq h (by decide) rfl hi (by decide)
theorem si_151 {μ : Mem} {i : Nat} {x : Int32} (h : Ok μ) (hi : i < 10) : sI 151 (nI i) x μ = some (wI μ 151 i x) := sI_eq h (by decide) rfl hi (by decide)
theorem ai_152 {μ : Mem} {i : Nat} (h : Ok μ) (hi : i < 10) : aI 152 (nI i) μ = some (mI μ 152 i) := aI_eq h (by decide) rfl hi (by decide)
theorem si_152 {μ : Mem} {i : Nat} {x : Int32} (h : Ok μ) (hi : i < 10) : sI 152 (nI i) x μ = some (wI μ 152 i x) := sI_eq h (by decide) rfl hi (by decide)
theorem az_153 {μ : Mem} {i : Nat} (h : Ok μ) (hi : i < 10) : aZ 153 (nI i) μ = some (mI μ 153 i) := aZ_eq h (by decide) rfl hi (by decide)
theorem sz_153 {μ : Mem} {i : Nat} {x : Int32} (h : Ok μ) (hi : i < 10) (hx : x = 0 ∨ x = 1) : sZ 153 (nI i) x μ = some (wI μ 153 i x) := sZ_eq h (by decide) rfl hi (by decide) hx
theorem ai_154 {μ : Mem} {i : Nat} (h : Ok μ) (hi : i < 16) : aI 154 (nI i) μ = some (mI μ 154 i) := aI_eq h (by decide) rfl hi (by decide)
theorem si_154 {μ : Mem} {i : Nat} {x : Int32} (h : Ok μ) (hi : i < 16) : sI 154 (nI i) x μ = some (wI μ 154 i x) := sI_eq h (by decide) rfl hi (by decide)
theorem ai_155 {μ : Mem} {i : Nat} (h : Ok μ) (hi : i < 4) : aI 155 (nI i) μ = some (mI μ 155 i) := aI_eq h (by decide) rfl hi (by decide)
theorem si_155 {μ : Mem} {i : Nat} {x : Int32} (h : Ok μ) (hi : i < 4) : sI 155 (nI i) x μ = some (wI μ 155 i x) := sI_eq h (by decide) rfl hi (by decide)
theorem ai_156 {μ : Mem} {i : Nat} (h : Ok μ) (hi : i < 4) : aI 156 (nI i) μ = some (mI μ 156 i) := aI_eq h (by decide) rfl hi (by decide)
theorem si_156 {μ : Mem} {i : Nat} {x : Int32} (h : Ok μ) (hi : i < 4) : sI 156 (nI i) x μ = some (wI μ 156 i x) := sI_eq h (by decide) rfl hi (by decide)
theorem ai_157 {μ : Mem} {i : Nat} (h : Ok μ) (hi : i < 32) : aI 157 (nI i) μ = some (mI μ 157 i) := aI_eq h (by decide) rfl hi (by decide)
theorem si_157 {μ : Mem} {i : Nat} {x : Int32} (h : Ok μ) (hi : i < 32) : sI 157 (nI i) x μ = some (wI μ 157 i x) := sI_eq h (by decide) rfl hi (by decide)
theorem ai_158 {μ : Mem} {i : Nat} (h : Ok μ) (hi : i < 32) : aI 158 (nI i) μ = some (mI μ 158 i) := aI_eq h (by decide) rfl hi (by decide)
theorem si_158 {μ : Mem} {i : Nat} {x : Int32} (h : Ok μ) (hi : i < 32) : sI 158 (nI i) x μ = some (wI μ 158 i x) := sI_eq h (by decide) rfl hi (by decide)
theorem ai_159 {μ : Mem} {i : Nat} (h : Ok μ) (hi : i < 32) : aI 159 (nI i) μ = some (mI μ 159 i) := aI_eq h (by decide) rfl hi (by decide)
theorem si_159 {μ : Mem} {i : Nat} {x : Int32} (h : Ok μ) (hi : i < 32) : sI 159 (nI i) x μ = some (wI μ 159 i x) := sI_eq h (by decide) rfl hi (by decide)
theorem ai_160 {μ : Mem} {i : Nat} (h : Ok μ) (hi : i < 32) : aI 160 (nI i) μ = some (mI μ 160 i) := aI_eq h (by decide) rfl hi (by decide)
theorem si_160 {μ : Mem} {i : Nat} {x : Int32} (h : Ok μ) (hi : i < 32) : sI 160 (nI i) x μ = some (wI μ 160 i x) := sI_eq h (by decide) rfl hi (by decide)
theorem ai_161 {μ : Mem} {i : Nat} (h : Ok μ) (hi : i < 9) : aI 161 (nI i) μ = some (mI μ 161 i) := aI_eq h (by decide) rfl hi (by decide)
theorem si_161 {μ : Mem} {i : Nat} {x : Int32} (h : Ok μ) (hi : i < 9) : sI 161 (nI i) x μ = some (wI μ 161 i x) := sI_eq h (by decide) rfl hi (by decide)
theorem ai_162 {μ : Mem} {i : Nat} (h : Ok μ) (hi : i < 9) : aI 162 (nI i) μ = some (mI μ 162 i) := aI_eq h (by decide) rfl hi (by decide)
theorem si_162 {μ : Mem} {i : Nat} {x : Int32} (h : Ok μ) (hi : i < 9) : sI 162 (nI i) x μ = some (wI μ 162 i x) := sI_eq h (by decide) rfl hi (by decide)
theorem ai_163 {μ : Mem} {i : Nat} (h : Ok μ) (hi : i < 9) : aI 163 (nI i) μ = some (mI μ 163 i) := aI_eq h (by decide) rfl hi (by decide)
theorem si_163 {μ : Mem} {i : Nat} {x : Int32} (h : Ok μ) (hi : i < 9) : sI 163 (nI i) x μ = some (wI μ 163 i x) := sI_eq h (by decide) rfl hi (by decide)
theorem ai_164 {μ : Mem} {i : Nat} (h : Ok μ) (hi : i < 9) : aI 164 (nI i) μ = some (mI μ 164 i) := aI_eq h (by decide) rfl hi (by decide)
theorem si_164 {μ : Mem} {i : Nat} {x : Int32} (h : Ok μ) (hi : i < 9) : sI 164 (nI i) x μ = some (wI μ 164 i x) := sI_eq h (by decide) rfl hi (by decide)
theorem ai_165 {μ : Mem} {i : Nat} (h : Ok μ) (hi : i < 160) : aI 165 (nI i) μ = some (mI μ 165 i) := aI_eq h (by decide) rfl hi (by decide)
theorem si_165 {μ : Mem} {i : Nat} {x : Int32} (h : Ok μ) (hi : i < 160) : sI 165 (nI i) x μ = some (wI μ 165 i x) := sI_eq h (by decide) rfl hi (by decide)
theorem ai_166 {μ : Mem} {i : Nat} (h : Ok μ) (hi : i < 6) : aI 166 (nI i) μ = some (mI μ 166 i) := aI_eq h (by decide) rfl hi (by decide)
theorem si_166 {μ : Mem} {i : Nat} {x : Int32} (h : Ok μ) (hi : i < 6) : sI 166 (nI i) x μ = some (wI μ 166 i x) := sI_eq h (by decide) rfl hi (by decide)
theorem ai_167 {μ : Mem} {i : Nat} (h : Ok μ) (hi : i < 28672) : aI 167 (nI i) μ = some (mI μ 167 i) := aI_eq h (by decide) rfl hi (by decide)
theorem si_167 {μ : Mem} {i : Nat} {x : Int32} (h : Ok μ) (hi : i < 28672) : sI 167 (nI i) x μ = some (wI μ 167 i x) := sI_eq h (by decide) rfl hi (by decide)
theorem ai_168 {μ : Mem} {i : Nat} (h : Ok μ) (hi : i < 384) : aI 168 (nI i) μ = some (mI μ 168 i) := aI_eq h (by decide) rfl hi (by decide)
theorem si_168 {μ : Mem} {i : Nat} {x : Int32} (h : Ok μ) (hi : i < 384) : sI 168 (nI i) x μ = some (wI μ 168 i x) := sI_eq h (by decide) rfl hi (by decide)
theorem ai_169 {μ : Mem} {i : Nat} (h : Ok μ) (hi : i < 384) : aI 169 (nI i) μ = some (mI μ 169 i) := aI_eq h (by decide) rfl hi (by decide)
theorem si_169 {μ : Mem} {i : Nat} {x : Int32} (h : Ok μ) (hi : i < 384) : sI 169 (nI i) x μ = some (wI μ 169 i x) := sI_eq h (by decide) rfl hi (by decide)
theorem ai_170 {μ : Mem} {i : Nat} (h : Ok μ) (hi : i < 40) : aI 170 (nI i) μ = some (mI μ 170 i) := aI_eq h (by decide) rfl hi (by decide)
theorem si_170 {μ : Mem} {i : Nat} {x : Int32} (h : Ok μ) (hi : i < 40) : sI 170 (nI i) x μ = some (wI μ 170 i x) := sI_eq h (by decide) rfl hi (by decide)
theorem ai_171 {μ : Mem} {i : Nat} (h : Ok μ) (hi : i < 40) : aI 171 (nI i) μ = some (mI μ 171 i) := aI_eq h (by decide) rfl hi (by decide)
theorem si_171 {μ : Mem} {i : Nat} {x : Int32} (h : Ok μ) (hi : i < 40) : sI 171 (nI i) x μ = some (wI μ 171 i x) := sI_eq h (by decide) rfl hi (by decide)
theorem ai_172 {μ : Mem} {i : Nat} (h : Ok μ) (hi : i < 40) : aI 172 (nI i) μ = some (mI μ 172 i) := aI_eq h (by decide) rfl hi (by decide)
theorem si_172 {μ : Mem} {i : Nat} {x : Int32} (h : Ok μ) (hi : i < 40) : sI 172 (nI i) x μ = some (wI μ 172 i x) := sI_eq h (by decide) rfl hi (by decide)
theorem ai_173 {μ : Mem} {i : Nat} (h : Ok μ) (hi : i < 40) : aI 173 (nI i) μ = some (mI μ 173 i) := aI_eq h (by decide) rfl hi (by decide)
theorem si_173 {μ : Mem} {i : Nat} {x : Int32} (h : Ok μ) (hi : i < 40) : sI 173 (nI i) x μ = some (wI μ 173 i x) := sI_eq h (by decide) rfl hi (by decide)
theorem ai_174 {μ : Mem} {i : Nat} (h : Ok μ) (hi : i < 40) : aI 174 (nI i) μ = some (mI μ 174 i) := aI_eq h (by decide) rfl hi (by decide)
theorem si_174 {μ : Mem} {i : Nat} {x : Int32} (h : Ok μ) (hi : i < 40) : sI 174 (nI i) x μ = some (wI μ 174 i x) := sI_eq h (by decide) rfl hi (by decide)
theorem gi_T {μ : Mem} {k t : Nat} (h : Ok μ) (ht : t < 10) : gI 6 k (40 + t) μ = some (mI μ (40 + t) k) := gI_eq h (by omega) (s_things ht)
theorem pi_T {μ : Mem} {k t : Nat} {x : Int32} (h : Ok μ) (ht : t < 10) : pI 6 k (40 + t) x μ = some (wI μ (40 + t) k x) := pI_eq h (by omega) (s_things ht)
theorem pz_T {μ : Mem} {k t : Nat} {x : Int32} (h : Ok μ) (ht : t < 10) (hx : x = 0 ∨ x = 1) : pZ 6 k (40 + t) x μ = some (wI μ (40 + t) k x) := pZ_eq h (by omega) (s_things ht) hx
theorem vo_T {μ : Mem} {t : Nat} (h : Ok μ) (ht : t < 10) : vO 6 (40 + t) μ = some () := vO_eq h (by omega) (s_things ht)
theorem gi_S {μ : Mem} {k t : Nat} (h : Ok μ) (ht : t < 40) : gI 5 k (50 + t) μ = some (mI μ (50 + t) k) := gI_eq h (by omega) (s_sayings ht)
theorem pi_S {μ : Mem} {k t : Nat} {x : Int32} (h : Ok μ) (ht : t < 40) : pI 5 k (50 + t) x μ = some (wI μ (50 + t) k x) := pI_eq h (by omega) (s_sayings ht)
theorem pz_S {μ : Mem} {k t : Nat} {x : Int32} (h : Ok μ) (ht : t < 40) (hx : x = 0 ∨ x = 1) : pZ 5 k (50 + t) x μ = some (wI μ (50 + t) k x) := pZ_eq h (by omega) (s_sayings ht) hx
theorem vo_S {μ : Mem} {t : Nat} (h : Ok μ) (ht : t < 40) : vO 5 (50 + t) μ = some () := vO_eq h (by omega) (s_sayings ht)
theorem gi_l {μ : Mem} {l k : Nat} (h : Ok μ) (hl : isLw l) : gI 3 k l μ = some (mI μ l k) := gI_eq h (by have := hl.s0.2.1; omega) hl.s0.1
theorem pi_l {μ : Mem} {l k : Nat} {x : Int32} (h : Ok μ) (hl : isLw l) : pI 3 k l x μ = some (wI μ l k x) := pI_eq h (by have := hl.s0.2.1; omega) hl.s0.1
theorem vo_l {μ : Mem} {l : Nat} (h : Ok μ) (hl : isLw l) : vO 3 l μ = some () := vO_eq h (by have := hl.s0.2.1; omega) hl.s0.1
theorem rl_1 {μ : Mem} {l : Nat} (h : Ok μ) (hl : isLw l) : gR 3 1 l μ = some (l + 1) := (r_l h hl).1
theorem al_1 {μ : Mem} {l i : Nat} (h : Ok μ) (hl : isLw l) (hi : i < 8) : aI (l + 1) (nI i) μ = some (mI μ (l + 1) i) := aI_eq h (by have := hl.s0.2.1; omega) hl.s0.2.2.1 hi (by decide)
theorem sl_1 {μ : Mem} {l i : Nat} {x : Int32} (h : Ok μ) (hl : isLw l) (hi : i < 8) : sI (l + 1) (nI i) x μ = some (wI μ (l + 1) i x) := sI_eq h (by have := hl.s0.2.1; omega) hl.s0.2.2.1 hi (by decide)
theorem rl_2 {μ : Mem} {l : Nat} (h : Ok μ) (hl : isLw l) : gR 3 2 l μ = some (l + 2) := (r_l h hl).2.1
theorem al_2 {μ : Mem} {l i : Nat} (h : Ok μ) (hl : isLw l) (hi : i < 8) : aI (l + 2) (nI i) μ = some (mI μ (l + 2) i) := aI_eq h (by have := hl.s0.2.1; omega) hl.s0.2.2.2.1 hi (by decide)
theorem sl_2 {μ : Mem} {l i : Nat} {x : Int32} (h : Ok μ) (hl : isLw l) (hi : i < 8) : sI (l + 2) (nI i) x μ = some (wI μ (l + 2) i x) := sI_eq h (by have := hl.s0.2.1; omega) hl.s0.2.2.2.1 hi (by decide)
theorem rl_3 {μ : Mem} {l : Nat} (h : Ok μ) (hl : isLw l) : gR 3 3 l μ = some (l + 3) := (r_l h hl).2.2.1
theorem al_3 {μ : Mem} {l i : Nat} (h : Ok μ) (hl : isLw l) (hi : i < 8) : aI (l + 3) (nI i) μ = some (mI μ (l + 3) i) := aI_eq h (by have := hl.s0.2.1; omega) hl.s0.2.2.2.2.1 hi (by decide)
theorem sl_3 {μ : Mem} {l i : Nat} {x : Int32} (h : Ok μ) (hl : isLw l) (hi : i < 8) : sI (l + 3) (nI i) x μ = some (wI μ (l + 3) i x) := sI_eq h (by have := hl.s0.2.1; omega) hl.s0.2.2.2.2.1 hi (by decide)
theorem rl_4 {μ : Mem} {l : Nat} (h : Ok μ) (hl : isLw l) : gR 3 4 l μ = some (l + 4) := (r_l h hl).2.2.2
theorem al_4 {μ : Mem} {l i : Nat} (h : Ok μ) (hl : isLw l) (hi : i < 8) : aI (l + 4) (nI i) μ = some (mI μ (l + 4) i) := aI_eq h (by have := hl.s0.2.1; omega) hl.s0.2.2.2.2.2.1 hi (by decide)
theorem sl_4 {μ : Mem} {l i : Nat} {x : Int32} (h : Ok μ) (hl : isLw l) (hi : i < 8) : sI (l + 4) (nI i) x μ = some (wI μ (l + 4) i x) := sI_eq h (by have := hl.s0.2.1; omega) hl.s0.2.2.2.2.2.1 hi (by decide)
theorem al_66a {μ : Mem} (h : Ok μ) : aL 106 μ = some (nI 66) := aL_eq h (by decide) rfl (by decide) (by decide)
theorem al_66b {μ : Mem} (h : Ok μ) : aL 108 μ = some (nI 66) := aL_eq h (by decide) rfl (by decide) (by decide)
/-- a loop over a counter from 0, with an invariant, to its end -/
theorem loopF {α β : Type} {F : Nat → α → Nat → Option β} {P : Nat → α → Prop} {n : Nat} {r : α → β} (hn : n < 100000) (hs : ∀ k a i, i < n → P i a → ∃ a', P (i + 1) a' ∧ F (k + 1) a i = F k a' (i + 1)) (he : ∀ k a, P n a → F (k + 1) a n = some (r a)) (a0 : α) (h0 : P 0 a0) : ∃ a, P n a ∧ F FU a0 0 = some (r a) := by
  obtain ⟨a, p, e⟩ := loopP hs n (99999 - n + 1) a0 0 (by omega) h0
  refine ⟨a, p, ?_⟩
  rw [show FU = 99999 - n + 1 + n by unfold FU; omega, e]
  exact he _ a p
/-- the same, from a counter i0 on -/
theorem loopG {α β : Type} {F : Nat → α → Nat → Option β} {P : Nat → α → Prop} {i0 n : Nat} {r : α → β} (hn : n < 100000) (hi : i0 ≤ n) (hs : ∀ k a i, i0 ≤ i → i < n → P i a → ∃ a', P (i + 1) a' ∧ F (k + 1) a i = F k a' (i + 1)) (he : ∀ k a, P n a → F (k + 1) a n = some (r a)) (a0 : α) (h0 : P i0 a0) : ∃ a, P n a ∧ F FU a0 i0 = some (r a) := by
  obtain ⟨a, ⟨p, -⟩, e⟩ := loopP (F := F) (P := fun i a => P i a ∧ i0 ≤ i) (n := n) (fun k a i h1 h2 => by
    obtain ⟨a', q, e⟩ := hs k a i h2.2 h1 h2.1
    exact ⟨a', ⟨q, by omega⟩, e⟩) (n - i0) (99999 - (n - i0) + 1) a0 i0 (by omega) ⟨h0, Nat.le_refl _⟩
  refine ⟨a, p, ?_⟩
  rw [show FU = 99999 - (n - i0) + 1 + (n - i0) by unfold FU; omega, e]
  exact he _ a p
/-- a loop that may end ahead of its last number -/
theorem loopE {α β : Type} {F : Nat → α → Nat → Option β} {P : Nat → α → Prop} {Q : β → Prop} {n : Nat} (hn : n < 100000) (hs : ∀ k a i, i < n → P i a → (∃ a', P (i + 1) a' ∧ F (k + 1) a i = F k a' (i + 1)) ∨ ∃ b, Q b ∧ F (k + 1) a i = some b) (he : ∀ k a, P n a → ∃ b, Q b ∧ F (k + 1) a n = some b) (a0 : α) (h0 : P 0 a0) : ∃ b, Q b ∧ F FU a0 0 = some b := by
  have key : ∀ d k a i, i + d = n → P i a → ∃ b, Q b ∧ F (k + 1 + d) a i = some b := by
    intro d
    induction d with
    | zero =>
      intro k a i e p
      have e : i = n := e
      subst e
      exact he k a p
    | succ d ih =>
      intro k a i e p
      rcases hs (k + 1 + d) a i (by omega) p with ⟨a', p', e2⟩ | ⟨b, q, e2⟩
      · obtain ⟨b, q, e3⟩ := ih k a' (i + 1) (by omega) p'
        exact ⟨b, q, (show F (k + 1 + d + 1) a i = _ from e2).trans e3⟩
      · exact ⟨b, q, e2⟩
  rw [show FU = 99999 - n + 1 + n by unfold FU; omega]
  exact key n _ a0 0 (by omega) h0
theorem L0 : (0 : Int32) = nI 0 := rfl
theorem L1 : (1 : Int32) = nI 1 := rfl
theorem L2 : (2 : Int32) = nI 2 := rfl
theorem L3 : (3 : Int32) = nI 3 := rfl
theorem L4 : (4 : Int32) = nI 4 := rfl
theorem L5 : (5 : Int32) = nI 5 := rfl
theorem L6 : (6 : Int32) = nI 6 := rfl
theorem L7 : (7 : Int32) = nI 7 := rfl
theorem L8 : (8 : Int32) = nI 8 := rfl
theorem L9 : (9 : Int32) = nI 9 := rfl
theorem L10 : (10 : Int32) = nI 10 := rfl
theorem L15 : (15 : Int32) = nI 15 := rfl
theorem L20 : (20 : Int32) = nI 20 := rfl
theorem L30 : (30 : Int32) = nI 30 := rfl
theorem L32 : (32 : Int32) = nI 32 := rfl
theorem L40 : (40 : Int32) = nI 40 := rfl
theorem L48 : (48 : Int32) = nI 48 := rfl
theorem L57 : (57 : Int32) = nI 57 := rfl
theorem L60 : (60 : Int32) = nI 60 := rfl
theorem L61 : (61 : Int32) = nI 61 := rfl
theorem L64 : (64 : Int32) = nI 64 := rfl
theorem L66 : (66 : Int32) = nI 66 := rfl
theorem L97 : (97 : Int32) = nI 97 := rfl
theorem L99 : (99 : Int32) = nI 99 := rfl
theorem L100 : (100 : Int32) = nI 100 := rfl
theorem L122 : (122 : Int32) = nI 122 := rfl
theorem L160 : (160 : Int32) = nI 160 := rfl
theorem L255 : (255 : Int32) = nI 255 := rfl
theorem L384 : (384 : Int32) = nI 384 := rfl
theorem L999 : (999 : Int32) = nI 999 := rfl
theorem L2000 : (2000 : Int32) = nI 2000 := rfl
theorem L4096 : (4096 : Int32) = nI 4096 := rfl
theorem L10000 : (10000 : Int32) = nI 10000 := rfl
theorem L1000000 : (1000000 : Int32) = nI 1000000 := rfl
theorem nI_0le {n : Nat} (h : n < 2 ^ 31) : (nI n ≤ 0) = (n = 0) := propext ⟨fun z => by
    have := (nI_leI (b := 0) h (by decide)).mp z
    omega, fun z => by subst z; decide⟩
theorem nI_lt0 {n : Nat} (h : n < 2 ^ 31) : (nI n < 0) = False := propext ⟨fun z => nI_pos h z, False.elim⟩
