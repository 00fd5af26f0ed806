/-! WHAT IS FIXED: kinds, lengths, references that never change once all is made -/
theorem kk_1 : kK 1 = 11 := rfl
theorem kk_2 : kK 2 = 9 := rfl
theorem kk_3 : kK 3 = 20 := rfl
theorem kn_3 : (kN 3 : Int) = 1600 := rfl
theorem kk_4 : kK 4 = 8 := rfl
theorem kk_5 : kK 5 = 21 := rfl
theorem kn_5 : (kN 5 : Int) = 9 := rfl
theorem kk_6 : kK 6 = 22 := rfl
theorem kn_6 : (kN 6 : Int) = 96 := rfl
theorem kk_7 : kK 7 = 7 := rfl
theorem kk_8 : kK 8 = 21 := rfl
theorem kn_8 : (kN 8 : Int) = 6 := rfl
theorem kk_9 : kK 9 = 21 := rfl
theorem kn_9 : (kN 9 : Int) = 6 := rfl
theorem kk_10 : kK 10 = 21 := rfl
theorem kn_10 : (kN 10 : Int) = 6 := rfl
theorem kk_11 : kK 11 = 21 := rfl
theorem kn_11 : (kN 11 : Int) = 120 := rfl
theorem kk_12 : kK 12 = 7 := rfl
theorem kk_13 : kK 13 = 21 := rfl
theorem kn_13 : (kN 13 : Int) = 6 := rfl
theorem kk_14 : kK 14 = 21 := rfl
theorem kn_14 : (kN 14 : Int) = 6 := rfl
theorem kk_15 : kK 15 = 21 := rfl
theorem kn_15 : (kN 15 : Int) = 6 := rfl
theorem kk_16 : kK 16 = 21 := rfl
theorem kn_16 : (kN 16 : Int) = 120 := rfl
theorem kk_17 : kK 17 = 4 := rfl
theorem kk_18 : kK 18 = 24 := rfl
theorem kn_18 : (kN 18 : Int) = 20 := rfl
theorem kk_119 : kK 119 = 5 := rfl
theorem kk_120 : kK 120 = 21 := rfl
theorem kn_120 : (kN 120 : Int) = 23 := rfl
theorem kk_121 : kK 121 = 21 := rfl
theorem kn_121 : (kN 121 : Int) = 6 := rfl
theorem kk_122 : kK 122 = 21 := rfl
theorem kn_122 : (kN 122 : Int) = 6 := rfl
theorem kk_123 : kK 123 = 3 := rfl
theorem kk_124 : kK 124 = 21 := rfl
theorem kn_124 : (kN 124 : Int) = 3 := rfl
theorem kk_125 : kK 125 = 21 := rfl
theorem kn_125 : (kN 125 : Int) = 18 := rfl
theorem kk_126 : kK 126 = 21 := rfl
theorem kn_126 : (kN 126 : Int) = 72 := rfl
theorem kk_127 : kK 127 = 21 := rfl
theorem kn_127 : (kN 127 : Int) = 6 := rfl
theorem kk_128 : kK 128 = 21 := rfl
theorem kn_128 : (kN 128 : Int) = 6 := rfl
theorem kk_129 : kK 129 = 21 := rfl
theorem kn_129 : (kN 129 : Int) = 1600 := rfl
theorem kk_130 : kK 130 = 21 := rfl
theorem kn_130 : (kN 130 : Int) = 3 := rfl
theorem kk_131 : kK 131 = 21 := rfl
theorem kn_131 : (kN 131 : Int) = 3 := rfl
theorem kk_132 : kK 132 = 3 := rfl
theorem kk_133 : kK 133 = 21 := rfl
theorem kn_133 : (kN 133 : Int) = 3 := rfl
theorem kk_134 : kK 134 = 21 := rfl
theorem kn_134 : (kN 134 : Int) = 18 := rfl
theorem kk_135 : kK 135 = 21 := rfl
theorem kn_135 : (kN 135 : Int) = 72 := rfl
theorem kk_136 : kK 136 = 21 := rfl
theorem kn_136 : (kN 136 : Int) = 6 := rfl
theorem kk_137 : kK 137 = 21 := rfl
theorem kn_137 : (kN 137 : Int) = 6 := rfl
theorem kk_138 : kK 138 = 21 := rfl
theorem kn_138 : (kN 138 : Int) = 1600 := rfl
theorem kk_139 : kK 139 = 21 := rfl
theorem kn_139 : (kN 139 : Int) = 3 := rfl
theorem kk_140 : kK 140 = 21 := rfl
theorem kn_140 : (kN 140 : Int) = 3 := rfl
theorem kk_141 : kK 141 = 6 := rfl
theorem kk_142 : kK 142 = 10 := rfl
theorem kk_143 : kK 143 = 21 := rfl
theorem kn_143 : (kN 143 : Int) = 1601 := rfl
theorem kk_144 : kK 144 = 21 := rfl
theorem kn_144 : (kN 144 : Int) = 1601 := rfl
theorem kk_145 : kK 145 = 21 := rfl
theorem kn_145 : (kN 145 : Int) = 1601 := rfl
theorem kk_146 : kK 146 = 1 := rfl
theorem kk_147 : kK 147 = 21 := rfl
theorem kn_147 : (kN 147 : Int) = 216 := rfl
theorem kk_148 : kK 148 = 21 := rfl
theorem kn_148 : (kN 148 : Int) = 6 := rfl
theorem kk_149 : kK 149 = 21 := rfl
theorem kn_149 : (kN 149 : Int) = 6 := rfl
theorem kk_150 : kK 150 = 0 := rfl
theorem kk_151 : kK 151 = 2 := rfl
theorem kk_152 : kK 152 = 7 := rfl
theorem kk_153 : kK 153 = 21 := rfl
theorem kn_153 : (kN 153 : Int) = 6 := rfl
theorem kk_154 : kK 154 = 21 := rfl
theorem kn_154 : (kN 154 : Int) = 6 := rfl
theorem kk_155 : kK 155 = 21 := rfl
theorem kn_155 : (kN 155 : Int) = 6 := rfl
theorem kk_156 : kK 156 = 21 := rfl
theorem kn_156 : (kN 156 : Int) = 120 := rfl
theorem kk_157 : kK 157 = 21 := rfl
theorem kn_157 : (kN 157 : Int) = 48 := rfl
theorem kk_158 : kK 158 = 21 := rfl
theorem kn_158 : (kN 158 : Int) = 1260 := rfl
theorem kk_159 : kK 159 = 12 := rfl
theorem kk_160 : kK 160 = 21 := rfl
theorem kn_160 : (kN 160 : Int) = 1800 := rfl
theorem kk_161 : kK 161 = 21 := rfl
theorem kn_161 : (kN 161 : Int) = 2 := rfl
theorem kk_162 : kK 162 = 21 := rfl
theorem kn_162 : (kN 162 : Int) = 36 := rfl
theorem kk_163 : kK 163 = 21 := rfl
theorem kn_163 : (kN 163 : Int) = 2 := rfl
theorem kk_164 : kK 164 = 21 := rfl
theorem kn_164 : (kN 164 : Int) = 2 := rfl
theorem kk_165 : kK 165 = 21 := rfl
theorem kn_165 : (kN 165 : Int) = 36 := rfl
theorem kk_166 : kK 166 = 21 := rfl
theorem kn_166 : (kN 166 : Int) = 12 := rfl
theorem kk_167 : kK 167 = 21 := rfl
theorem kn_167 : (kN 167 : Int) = 2 := rfl
theorem kk_168 : kK 168 = 21 := rfl
theorem kn_168 : (kN 168 : Int) = 36 := rfl
theorem kk_169 : kK 169 = 21 := rfl
theorem kn_169 : (kN 169 : Int) = 12 := rfl
theorem kk_170 : kK 170 = 21 := rfl
theorem kn_170 : (kN 170 : Int) = 12 := rfl
theorem kk_171 : kK 171 = 21 := rfl
theorem kn_171 : (kN 171 : Int) = 2 := rfl
theorem kk_172 : kK 172 = 21 := rfl
theorem kn_172 : (kN 172 : Int) = 2 := rfl
theorem kk_173 : kK 173 = 21 := rfl
theorem kn_173 : (kN 173 : Int) = 6 := rfl
theorem kk_174 : kK 174 = 21 := rfl
theorem kn_174 : (kN 174 : Int) = 6 := rfl
theorem kk_175 : kK 175 = 21 := rfl
theorem kn_175 : (kN 175 : Int) = 3200 := rfl
theorem kk_176 : kK 176 = 21 := rfl
theorem kn_176 : (kN 176 : Int) = 3200 := rfl
theorem kk_177 : kK 177 = 22 := rfl
theorem kn_177 : (kN 177 : Int) = 36 := rfl
theorem kk_178 : kK 178 = 21 := rfl
theorem kn_178 : (kN 178 : Int) = 20 := rfl
theorem kk_179 : kK 179 = 21 := rfl
theorem kn_179 : (kN 179 : Int) = 20 := rfl
theorem kk_180 : kK 180 = 23 := rfl
theorem kn_180 : (kN 180 : Int) = 20 := rfl
theorem kk_181 : kK 181 = 21 := rfl
theorem kn_181 : (kN 181 : Int) = 20 := rfl
theorem kk_182 : kK 182 = 21 := rfl
theorem kn_182 : (kN 182 : Int) = 20 := rfl
theorem kk_183 : kK 183 = 21 := rfl
theorem kn_183 : (kN 183 : Int) = 500 := rfl
theorem kk_184 : kK 184 = 21 := rfl
theorem kn_184 : (kN 184 : Int) = 6 := rfl
theorem kk_185 : kK 185 = 21 := rfl
theorem kn_185 : (kN 185 : Int) = 22 := rfl
theorem kk_186 : kK 186 = 21 := rfl
theorem kn_186 : (kN 186 : Int) = 22 := rfl
theorem kk_187 : kK 187 = 21 := rfl
theorem kn_187 : (kN 187 : Int) = 132 := rfl
theorem kk_188 : kK 188 = 21 := rfl
theorem kn_188 : (kN 188 : Int) = 132 := rfl
theorem kk_189 : kK 189 = 21 := rfl
theorem kn_189 : (kN 189 : Int) = 132 := rfl
theorem kk_190 : kK 190 = 21 := rfl
theorem kn_190 : (kN 190 : Int) = 22 := rfl
theorem kk_191 : kK 191 = 21 := rfl
theorem kn_191 : (kN 191 : Int) = 2640 := rfl
theorem kk_192 : kK 192 = 21 := rfl
theorem kn_192 : (kN 192 : Int) = 18 := rfl
theorem kk_193 : kK 193 = 22 := rfl
theorem kn_193 : (kN 193 : Int) = 500 := rfl
theorem kk_194 : kK 194 = 21 := rfl
theorem kn_194 : (kN 194 : Int) = 12 := rfl
theorem kk_195 : kK 195 = 21 := rfl
theorem kn_195 : (kN 195 : Int) = 6 := rfl
theorem kk_196 : kK 196 = 21 := rfl
theorem kn_196 : (kN 196 : Int) = 6 := rfl
theorem kk_197 : kK 197 = 21 := rfl
theorem kn_197 : (kN 197 : Int) = 6 := rfl
theorem kk_198 : kK 198 = 21 := rfl
theorem kn_198 : (kN 198 : Int) = 6 := rfl
theorem kk_199 : kK 199 = 21 := rfl
theorem kn_199 : (kN 199 : Int) = 16 := rfl
theorem kk_200 : kK 200 = 21 := rfl
theorem kn_200 : (kN 200 : Int) = 16 := rfl
theorem kk_201 : kK 201 = 21 := rfl
theorem kn_201 : (kN 201 : Int) = 16 := rfl
theorem kk_202 : kK 202 = 21 := rfl
theorem kn_202 : (kN 202 : Int) = 1860 := rfl
theorem kk_203 : kK 203 = 21 := rfl
theorem kn_203 : (kN 203 : Int) = 30 := rfl
def isSt (a : Nat) : Prop := a = 7 ∨ a = 12 ∨ a = 152 ∨ ∃ i, i < 20 ∧ a = 19 + 5 * i
def isLd (a : Nat) : Prop := a = 123 ∨ a = 132
def isA (N : Int) (a : Nat) : Prop := kK a = 21 ∧ (kN a : Int) = N
theorem st_all {P : Nat → Prop} (h0 : P 7) (h1 : P 12) (h2 : P 152) (hp : ∀ i, i < 20 → P (19 + 5 * i)) {a : Nat} (h : isSt a) : P a := by
  rcases h with rfl | rfl | rfl | ⟨i, hi, rfl⟩
  · exact h0
  · exact h1
  · exact h2
  · exact hp i hi
theorem st_k0 {a : Nat} (h : isSt a) : kK (a + 0) = 7 := st_all (P := fun a => kK (a + 0) = 7) rfl rfl rfl (by decide +kernel) h
theorem st_k1 {a : Nat} (h : isSt a) : kK (a + 1) = 21 := st_all (P := fun a => kK (a + 1) = 21) rfl rfl rfl (by decide +kernel) h
theorem st_n1 {a : Nat} (h : isSt a) : (kN (a + 1) : Int) = 6 := st_all (P := fun a => (kN (a + 1) : Int) = 6) rfl rfl rfl (by decide +kernel) h
theorem st_k2 {a : Nat} (h : isSt a) : kK (a + 2) = 21 := st_all (P := fun a => kK (a + 2) = 21) rfl rfl rfl (by decide +kernel) h
theorem st_n2 {a : Nat} (h : isSt a) : (kN (a + 2) : Int) = 6 := st_all (P := fun a => (kN (a + 2) : Int) = 6) rfl rfl rfl (by decide +kernel) h
theorem st_k3 {a : Nat} (h : isSt a) : kK (a + 3) = 21 := st_all (P := fun a => kK (a + 3) = 21) rfl rfl rfl (by decide +kernel) h
theorem st_n3 {a : Nat} (h : isSt a) : (kN (a + 3) : Int) = 6 := st_all (P := fun a => (kN (a + 3) : Int) = 6) rfl rfl rfl (by decide +kernel) h
theorem st_k4 {a : Nat} (h : isSt a) : kK (a + 4) = 21 := st_all (P := fun a => kK (a + 4) = 21) rfl rfl rfl (by decide +kernel) h
theorem st_n4 {a : Nat} (h : isSt a) : (kN (a + 4) : Int) = 120 := st_all (P := fun a => (kN (a + 4) : Int) = 120) rfl rfl rfl (by decide +kernel) h
theorem ld_k0 {a : Nat} (h : isLd a) : kK (a + 0) = 3 := by rcases h with rfl | rfl <;> rfl
theorem ld_k1 {a : Nat} (h : isLd a) : kK (a + 1) = 21 := by rcases h with rfl | rfl <;> rfl
theorem ld_n1 {a : Nat} (h : isLd a) : (kN (a + 1) : Int) = 3 := by rcases h with rfl | rfl <;> rfl
theorem ld_k2 {a : Nat} (h : isLd a) : kK (a + 2) = 21 := by rcases h with rfl | rfl <;> rfl
theorem ld_n2 {a : Nat} (h : isLd a) : (kN (a + 2) : Int) = 18 := by rcases h with rfl | rfl <;> rfl
theorem ld_k3 {a : Nat} (h : isLd a) : kK (a + 3) = 21 := by rcases h with rfl | rfl <;> rfl
theorem ld_n3 {a : Nat} (h : isLd a) : (kN (a + 3) : Int) = 72 := by rcases h with rfl | rfl <;> rfl
theorem ld_k4 {a : Nat} (h : isLd a) : kK (a + 4) = 21 := by rcases h with rfl | rfl <;> rfl
theorem ld_n4 {a : Nat} (h : isLd a) : (kN (a + 4) : Int) = 6 := by rcases h with rfl | rfl <;> rfl
theorem ld_k5 {a : Nat} (h : isLd a) : kK (a + 5) = 21 := by rcases h with rfl | rfl <;> rfl
theorem ld_n5 {a : Nat} (h : isLd a) : (kN (a + 5) : Int) = 6 := by rcases h with rfl | rfl <;> rfl
theorem ld_k6 {a : Nat} (h : isLd a) : kK (a + 6) = 21 := by rcases h with rfl | rfl <;> rfl
theorem ld_n6 {a : Nat} (h : isLd a) : (kN (a + 6) : Int) = 1600 := by rcases h with rfl | rfl <;> rfl
theorem ld_k7 {a : Nat} (h : isLd a) : kK (a + 7) = 21 := by rcases h with rfl | rfl <;> rfl
theorem ld_n7 {a : Nat} (h : isLd a) : (kN (a + 7) : Int) = 3 := by rcases h with rfl | rfl <;> rfl
theorem ld_k8 {a : Nat} (h : isLd a) : kK (a + 8) = 21 := by rcases h with rfl | rfl <;> rfl
theorem ld_n8 {a : Nat} (h : isLd a) : (kN (a + 8) : Int) = 3 := by rcases h with rfl | rfl <;> rfl
def rfL : List (Nat × Int × Nat) := [(1, 0, 2), (1, 1, 4), (1, 2, 7), (1, 3, 12), (1, 4, 17), (1, 5, 119), (1, 6, 121), (1, 7, 122), (1, 8, 141), (1, 9, 146), (1, 10, 150), (1, 11, 151), (2, 0, 3), (4, 0, 5), (4, 1, 6), (17, 0, 18), (119, 0, 120), (141, 0, 2), (141, 1, 142), (142, 0, 143), (142, 1, 144), (142, 2, 145), (146, 0, 4), (146, 1, 147), (146, 2, 148), (146, 3, 149), (150, 0, 146), (150, 1, 4), (151, 0, 146), (151, 1, 150), (151, 2, 152), (151, 3, 157), (151, 4, 158), (159, 0, 160), (159, 14, 161), (159, 15, 162), (159, 16, 163), (159, 17, 164), (159, 18, 165), (159, 19, 166), (159, 20, 167), (159, 21, 168), (159, 22, 169), (159, 23, 170), (159, 24, 171), (159, 25, 172), (159, 26, 173), (159, 27, 174), (159, 28, 175), (159, 29, 176), (159, 30, 177), (159, 34, 178), (159, 35, 179), (159, 36, 180), (159, 37, 181), (159, 38, 182), (159, 41, 183), (159, 44, 184), (159, 45, 185), (159, 46, 186), (159, 47, 187), (159, 48, 188), (159, 49, 189), (159, 50, 190), (159, 51, 191), (159, 55, 192), (159, 56, 193), (159, 57, 194), (159, 58, 195), (159, 59, 196), (159, 60, 197), (159, 61, 198), (159, 63, 199), (159, 64, 200), (159, 65, 201), (159, 66, 202), (159, 67, 203)]
/-- the static references -/
def RF (R : mR) : Prop := (∀ q ∈ rfL, R q.1 q.2.1 = q.2.2) ∧ (∀ a, isSt a → R a 3 = a + 1 ∧ R a 4 = a + 2 ∧ R a 5 = a + 3 ∧ R a 6 = a + 4) ∧ (∀ a, isLd a → R a 0 = a + 1 ∧ R a 1 = a + 2 ∧ R a 2 = a + 3 ∧ R a 3 = a + 4 ∧ R a 4 = a + 5 ∧ R a 5 = a + 6 ∧ R a 6 = a + 7 ∧ R a 7 = a + 8) ∧ ∀ x : Int, 0 ≤ x → x < 20 → R 18 x = 19 + 5 * x.toNat
theorem rf_1_0 {R : mR} (h : RF R) : R 1 0 = 2 := h.1 (1, 0, 2) (by decide)
theorem rf_1_1 {R : mR} (h : RF R) : R 1 1 = 4 := h.1 (1, 1, 4) (by decide)
theorem rf_1_2 {R : mR} (h : RF R) : R 1 2 = 7 := h.1 (1, 2, 7) (by decide)
theorem rf_1_3 {R : mR} (h : RF R) : R 1 3 = 12 := h.1 (1, 3, 12) (by decide)
theorem rf_1_4 {R : mR} (h : RF R) : R 1 4 = 17 := h.1 (1, 4, 17) (by decide)
theorem rf_1_5 {R : mR} (h : RF R) : R 1 5 = 119 := h.1 (1, 5, 119) (by decide)
theorem rf_1_6 {R : mR} (h : RF R) : R 1 6 = 121 := h.1 (1, 6, 121) (by decide)
theorem rf_1_7 {R : mR} (h : RF R) : R 1 7 = 122 := h.1 (1, 7, 122) (by decide)
theorem rf_1_8 {R : mR} (h : RF R) : R 1 8 = 141 := h.1 (1, 8, 141) (by decide)
theorem rf_1_9 {R : mR} (h : RF R) : R 1 9 = 146 := h.1 (1, 9, 146) (by decide)
theorem rf_1_10 {R : mR} (h : RF R) : R 1 10 = 150 := h.1 (1, 10, 150) (by decide)
theorem rf_1_11 {R : mR} (h : RF R) : R 1 11 = 151 := h.1 (1, 11, 151) (by decide)
theorem rf_2_0 {R : mR} (h : RF R) : R 2 0 = 3 := h.1 (2, 0, 3) (by decide)
theorem rf_4_0 {R : mR} (h : RF R) : R 4 0 = 5 := h.1 (4, 0, 5) (by decide)
theorem rf_4_1 {R : mR} (h : RF R) : R 4 1 = 6 := h.1 (4, 1, 6) (by decide)
theorem rf_17_0 {R : mR} (h : RF R) : R 17 0 = 18 := h.1 (17, 0, 18) (by decide)
theorem rf_119_0 {R : mR} (h : RF R) : R 119 0 = 120 := h.1 (119, 0, 120) (by decide)
theorem rf_141_0 {R : mR} (h : RF R) : R 141 0 = 2 := h.1 (141, 0, 2) (by decide)
theorem rf_141_1 {R : mR} (h : RF R) : R 141 1 = 142 := h.1 (141, 1, 142) (by decide)
theorem rf_142_0 {R : mR} (h : RF R) : R 142 0 = 143 := h.1 (142, 0, 143) (by decide)
theorem rf_142_1 {R : mR} (h : RF R) : R 142 1 = 144 := h.1 (142, 1, 144) (by decide)
theorem rf_142_2 {R : mR} (h : RF R) : R 142 2 = 145 := h.1 (142, 2, 145) (by decide)
theorem rf_146_0 {R : mR} (h : RF R) : R 146 0 = 4 := h.1 (146, 0, 4) (by decide)
theorem rf_146_1 {R : mR} (h : RF R) : R 146 1 = 147 := h.1 (146, 1, 147) (by decide)
theorem rf_146_2 {R : mR} (h : RF R) : R 146 2 = 148 := h.1 (146, 2, 148) (by decide)
theorem rf_146_3 {R : mR} (h : RF R) : R 146 3 = 149 := h.1 (146, 3, 149) (by decide)
theorem rf_150_0 {R : mR} (h : RF R) : R 150 0 = 146 := h.1 (150, 0, 146) (by decide)
theorem rf_150_1 {R : mR} (h : RF R) : R 150 1 = 4 := h.1 (150, 1, 4) (by decide)
theorem rf_151_0 {R : mR} (h : RF R) : R 151 0 = 146 := h.1 (151, 0, 146) (by decide)
theorem rf_151_1 {R : mR} (h : RF R) : R 151 1 = 150 := h.1 (151, 1, 150) (by decide)
theorem rf_151_2 {R : mR} (h : RF R) : R 151 2 = 152 := h.1 (151, 2, 152) (by decide)
theorem rf_151_3 {R : mR} (h : RF R) : R 151 3 = 157 := h.1 (151, 3, 157) (by decide)
theorem rf_151_4 {R : mR} (h : RF R) : R 151 4 = 158 := h.1 (151, 4, 158) (by decide)
theorem rf_159_0 {R : mR} (h : RF R) : R 159 0 = 160 := h.1 (159, 0, 160) (by decide)
theorem rf_159_14 {R : mR} (h : RF R) : R 159 14 = 161 := h.1 (159, 14, 161) (by decide)
theorem rf_159_15 {R : mR} (h : RF R) : R 159 15 = 162 := h.1 (159, 15, 162) (by decide)
theorem rf_159_16 {R : mR} (h : RF R) : R 159 16 = 163 := h.1 (159, 16, 163) (by decide)
theorem rf_159_17 {R : mR} (h : RF R) : R 159 17 = 164 := h.1 (159, 17, 164) (by decide)
theorem rf_159_18 {R : mR} (h : RF R) : R 159 18 = 165 := h.1 (159, 18, 165) (by decide)
theorem rf_159_19 {R : mR} (h : RF R) : R 159 19 = 166 := h.1 (159, 19, 166) (by decide)
theorem rf_159_20 {R : mR} (h : RF R) : R 159 20 = 167 := h.1 (159, 20, 167) (by decide)
theorem rf_159_21 {R : mR} (h : RF R) : R 159 21 = 168 := h.1 (159, 21, 168) (by decide)
theorem rf_159_22 {R : mR} (h : RF R) : R 159 22 = 169 := h.1 (159, 22, 169) (by decide)
theorem rf_159_23 {R : mR} (h : RF R) : R 159 23 = 170 := h.1 (159, 23, 170) (by decide)
theorem rf_159_24 {R : mR} (h : RF R) : R 159 24 = 171 := h.1 (159, 24, 171) (by decide)
theorem rf_159_25 {R : mR} (h : RF R) : R 159 25 = 172 := h.1 (159, 25, 172) (by decide)
theorem rf_159_26 {R : mR} (h : RF R) : R 159 26 = 173 := h.1 (159, 26, 173) (by decide)
theorem rf_159_27 {R : mR} (h : RF R) : R 159 27 = 174 := h.1 (159, 27, 174) (by decide)
theorem rf_159_28 {R : mR} (h : RF R) : R 159 28 = 175 := h.1 (159, 28, 175) (by decide)
theorem rf_159_29 {R : mR} (h : RF R) : R 159 29 = 176 := h.1 (159, 29, 176) (by decide)
theorem rf_159_30 {R : mR} (h : RF R) : R 159 30 = 177 := h.1 (159, 30, 177) (by decide)
theorem rf_159_34 {R : mR} (h : RF R) : R 159 34 = 178 := h.1 (159, 34, 178) (by decide)
theorem rf_159_35 {R : mR} (h : RF R) : R 159 35 = 179 := h.1 (159, 35, 179) (by decide)
theorem rf_159_36 {R : mR} (h : RF R) : R 159 36 = 180 := h.1 (159, 36, 180) (by decide)
theorem rf_159_37 {R : mR} (h : RF R) : R 159 37 = 181 := h.1 (159, 37, 181) (by decide)
theorem rf_159_38 {R : mR} (h : RF R) : R 159 38 = 182 := h.1 (159, 38, 182) (by decide)
theorem rf_159_41 {R : mR} (h : RF R) : R 159 41 = 183 := h.1 (159, 41, 183) (by decide)
theorem rf_159_44 {R : mR} (h : RF R) : R 159 44 = 184 := h.1 (159, 44, 184) (by decide)
theorem rf_159_45 {R : mR} (h : RF R) : R 159 45 = 185 := h.1 (159, 45, 185) (by decide)
theorem rf_159_46 {R : mR} (h : RF R) : R 159 46 = 186 := h.1 (159, 46, 186) (by decide)
theorem rf_159_47 {R : mR} (h : RF R) : R 159 47 = 187 := h.1 (159, 47, 187) (by decide)
theorem rf_159_48 {R : mR} (h : RF R) : R 159 48 = 188 := h.1 (159, 48, 188) (by decide)
theorem rf_159_49 {R : mR} (h : RF R) : R 159 49 = 189 := h.1 (159, 49, 189) (by decide)
theorem rf_159_50 {R : mR} (h : RF R) : R 159 50 = 190 := h.1 (159, 50, 190) (by decide)
theorem rf_159_51 {R : mR} (h : RF R) : R 159 51 = 191 := h.1 (159, 51, 191) (by decide)
theorem rf_159_55 {R : mR} (h : RF R) : R 159 55 = 192 := h.1 (159, 55, 192) (by decide)
theorem rf_159_56 {R : mR} (h : RF R) : R 159 56 = 193 := h.1 (159, 56, 193) (by decide)
theorem rf_159_57 {R : mR} (h : RF R) : R 159 57 = 194 := h.1 (159, 57, 194) (by decide)
theorem rf_159_58 {R : mR} (h : RF R) : R 159 58 = 195 := h.1 (159, 58, 195) (by decide)
theorem rf_159_59 {R : mR} (h : RF R) : R 159 59 = 196 := h.1 (159, 59, 196) (by decide)
theorem rf_159_60 {R : mR} (h : RF R) : R 159 60 = 197 := h.1 (159, 60, 197) (by decide)
theorem rf_159_61 {R : mR} (h : RF R) : R 159 61 = 198 := h.1 (159, 61, 198) (by decide)
theorem rf_159_63 {R : mR} (h : RF R) : R 159 63 = 199 := h.1 (159, 63, 199) (by decide)
theorem rf_159_64 {R : mR} (h : RF R) : R 159 64 = 200 := h.1 (159, 64, 200) (by decide)
theorem rf_159_65 {R : mR} (h : RF R) : R 159 65 = 201 := h.1 (159, 65, 201) (by decide)
theorem rf_159_66 {R : mR} (h : RF R) : R 159 66 = 202 := h.1 (159, 66, 202) (by decide)
theorem rf_159_67 {R : mR} (h : RF R) : R 159 67 = 203 := h.1 (159, 67, 203) (by decide)
theorem rfs_3 {R : mR} (h : RF R) {a : Nat} (ha : isSt a) : R a 3 = a + 1 := (h.2.1 a ha).1
theorem rfs_4 {R : mR} (h : RF R) {a : Nat} (ha : isSt a) : R a 4 = a + 2 := (h.2.1 a ha).2.1
theorem rfs_5 {R : mR} (h : RF R) {a : Nat} (ha : isSt a) : R a 5 = a + 3 := (h.2.1 a ha).2.2.1
theorem rfs_6 {R : mR} (h : RF R) {a : Nat} (ha : isSt a) : R a 6 = a + 4 := (h.2.1 a ha).2.2.2
theorem rfd_0 {R : mR} (h : RF R) {a : Nat} (ha : isLd a) : R a 0 = a + 1 := (h.2.2.1 a ha).1
theorem rfd_1 {R : mR} (h : RF R) {a : Nat} (ha : isLd a) : R a 1 = a + 2 := (h.2.2.1 a ha).2.1
theorem rfd_2 {R : mR} (h : RF R) {a : Nat} (ha : isLd a) : R a 2 = a + 3 := (h.2.2.1 a ha).2.2.1
theorem rfd_3 {R : mR} (h : RF R) {a : Nat} (ha : isLd a) : R a 3 = a + 4 := (h.2.2.1 a ha).2.2.2.1
theorem rfd_4 {R : mR} (h : RF R) {a : Nat} (ha : isLd a) : R a 4 = a + 5 := (h.2.2.1 a ha).2.2.2.2.1
theorem rfd_5 {R : mR} (h : RF R) {a : Nat} (ha : isLd a) : R a 5 = a + 6 := (h.2.2.1 a ha).2.2.2.2.2.1
theorem rfd_6 {R : mR} (h : RF R) {a : Nat} (ha : isLd a) : R a 6 = a + 7 := (h.2.2.1 a ha).2.2.2.2.2.2.1
theorem rfd_7 {R : mR} (h : RF R) {a : Nat} (ha : isLd a) : R a 7 = a + 8 := (h.2.2.1 a ha).2.2.2.2.2.2.2
theorem isSt_p {x : Int} (h0 : 0 ≤ x) (h1 : x < 20) : isSt (19 + 5 * x.toNat) := Or.inr (Or.inr (Or.inr ⟨x.toNat, by omega, rfl⟩))
theorem RF_up_1_12 {R : mR} {v : Nat} (h : RF R) : RF (up R 1 12 v) := by
  have h1 : ∀ q ∈ rfL, ¬ (q.1 = 1 ∧ q.2.1 = 12) := by decide +kernel
  have hs : ∀ a, isSt a → a ≠ 1 := fun a ha q => by have := st_k0 ha; rw [q] at this; exact absurd this (by decide)
  have hl : ∀ a, isLd a → a ≠ 1 := fun a ha q => by have := ld_k0 ha; rw [q] at this; exact absurd this (by decide)
  refine ⟨fun q hq => ?_, fun a ha => ?_, fun a ha => ?_, fun x h0 h2 => ?_⟩
  · unfold up; rw [if_neg (h1 q hq)]; exact h.1 q hq
  · rw [up_o R _ _ _ (hs a ha), up_o R _ _ _ (hs a ha), up_o R _ _ _ (hs a ha), up_o R _ _ _ (hs a ha)]; exact h.2.1 a ha
  · rw [up_o R _ _ _ (hl a ha), up_o R _ _ _ (hl a ha), up_o R _ _ _ (hl a ha), up_o R _ _ _ (hl a ha), up_o R _ _ _ (hl a ha), up_o R _ _ _ (hl a ha), up_o R _ _ _ (hl a ha), up_o R _ _ _ (hl a ha)]; exact h.2.2.1 a ha
  · rw [up_o R _ _ _ (by decide)]; exact h.2.2.2 x h0 h2
theorem RF_up_1_13 {R : mR} {v : Nat} (h : RF R) : RF (up R 1 13 v) := by
  have h1 : ∀ q ∈ rfL, ¬ (q.1 = 1 ∧ q.2.1 = 13) := by decide +kernel
  have hs : ∀ a, isSt a → a ≠ 1 := fun a ha q => by have := st_k0 ha; rw [q] at this; exact absurd this (by decide)
  have hl : ∀ a, isLd a → a ≠ 1 := fun a ha q => by have := ld_k0 ha; rw [q] at this; exact absurd this (by decide)
  refine ⟨fun q hq => ?_, fun a ha => ?_, fun a ha => ?_, fun x h0 h2 => ?_⟩
  · unfold up; rw [if_neg (h1 q hq)]; exact h.1 q hq
  · rw [up_o R _ _ _ (hs a ha), up_o R _ _ _ (hs a ha), up_o R _ _ _ (hs a ha), up_o R _ _ _ (hs a ha)]; exact h.2.1 a ha
  · rw [up_o R _ _ _ (hl a ha), up_o R _ _ _ (hl a ha), up_o R _ _ _ (hl a ha), up_o R _ _ _ (hl a ha), up_o R _ _ _ (hl a ha), up_o R _ _ _ (hl a ha), up_o R _ _ _ (hl a ha), up_o R _ _ _ (hl a ha)]; exact h.2.2.1 a ha
  · rw [up_o R _ _ _ (by decide)]; exact h.2.2.2 x h0 h2
theorem RF_up_146_4 {R : mR} {v : Nat} (h : RF R) : RF (up R 146 4 v) := by
  have h1 : ∀ q ∈ rfL, ¬ (q.1 = 146 ∧ q.2.1 = 4) := by decide +kernel
  have hs : ∀ a, isSt a → a ≠ 146 := fun a ha q => by have := st_k0 ha; rw [q] at this; exact absurd this (by decide)
  have hl : ∀ a, isLd a → a ≠ 146 := fun a ha q => by have := ld_k0 ha; rw [q] at this; exact absurd this (by decide)
  refine ⟨fun q hq => ?_, fun a ha => ?_, fun a ha => ?_, fun x h0 h2 => ?_⟩
  · unfold up; rw [if_neg (h1 q hq)]; exact h.1 q hq
  · rw [up_o R _ _ _ (hs a ha), up_o R _ _ _ (hs a ha), up_o R _ _ _ (hs a ha), up_o R _ _ _ (hs a ha)]; exact h.2.1 a ha
  · rw [up_o R _ _ _ (hl a ha), up_o R _ _ _ (hl a ha), up_o R _ _ _ (hl a ha), up_o R _ _ _ (hl a ha), up_o R _ _ _ (hl a ha), up_o R _ _ _ (hl a ha), up_o R _ _ _ (hl a ha), up_o R _ _ _ (hl a ha)]; exact h.2.2.1 a ha
  · rw [up_o R _ _ _ (by decide)]; exact h.2.2.2 x h0 h2
theorem RF_up_146_5 {R : mR} {v : Nat} (h : RF R) : RF (up R 146 5 v) := by
  have h1 : ∀ q ∈ rfL, ¬ (q.1 = 146 ∧ q.2.1 = 5) := by decide +kernel
  have hs : ∀ a, isSt a → a ≠ 146 := fun a ha q => by have := st_k0 ha; rw [q] at this; exact absurd this (by decide)
  have hl : ∀ a, isLd a → a ≠ 146 := fun a ha q => by have := ld_k0 ha; rw [q] at this; exact absurd this (by decide)
  refine ⟨fun q hq => ?_, fun a ha => ?_, fun a ha => ?_, fun x h0 h2 => ?_⟩
  · unfold up; rw [if_neg (h1 q hq)]; exact h.1 q hq
  · rw [up_o R _ _ _ (hs a ha), up_o R _ _ _ (hs a ha), up_o R _ _ _ (hs a ha), up_o R _ _ _ (hs a ha)]; exact h.2.1 a ha
  · rw [up_o R _ _ _ (hl a ha), up_o R _ _ _ (hl a ha), up_o R _ _ _ (hl a ha), up_o R _ _ _ (hl a ha), up_o R _ _ _ (hl a ha), up_o R _ _ _ (hl a ha), up_o R _ _ _ (hl a ha), up_o R _ _ _ (hl a ha)]; exact h.2.2.1 a ha
  · rw [up_o R _ _ _ (by decide)]; exact h.2.2.2 x h0 h2
theorem RF_up_141_2 {R : mR} {v : Nat} (h : RF R) : RF (up R 141 2 v) := by
  have h1 : ∀ q ∈ rfL, ¬ (q.1 = 141 ∧ q.2.1 = 2) := by decide +kernel
  have hs : ∀ a, isSt a → a ≠ 141 := fun a ha q => by have := st_k0 ha; rw [q] at this; exact absurd this (by decide)
  have hl : ∀ a, isLd a → a ≠ 141 := fun a ha q => by have := ld_k0 ha; rw [q] at this; exact absurd this (by decide)
  refine ⟨fun q hq => ?_, fun a ha => ?_, fun a ha => ?_, fun x h0 h2 => ?_⟩
  · unfold up; rw [if_neg (h1 q hq)]; exact h.1 q hq
  · rw [up_o R _ _ _ (hs a ha), up_o R _ _ _ (hs a ha), up_o R _ _ _ (hs a ha), up_o R _ _ _ (hs a ha)]; exact h.2.1 a ha
  · rw [up_o R _ _ _ (hl a ha), up_o R _ _ _ (hl a ha), up_o R _ _ _ (hl a ha), up_o R _ _ _ (hl a ha), up_o R _ _ _ (hl a ha), up_o R _ _ _ (hl a ha), up_o R _ _ _ (hl a ha), up_o R _ _ _ (hl a ha)]; exact h.2.2.1 a ha
  · rw [up_o R _ _ _ (by decide)]; exact h.2.2.2 x h0 h2
section R10
variable {C : wX} {cc : ByteArray} {nL : Nat} {own : String} {ad : Nat → Nat} {n : Nat} {I J : mI} {R : mR} {ks ss pc : Nat} {lv : List (Nat × wV)} {st : List wV} {WA : Prop} {PI : mI → Prop} {PR : mR → Prop} {N : Int}
theorem x_getR3 (hC : wOK C cc nL own) (kz : Int) {index ci k a b : Nat} {ty : FieldType} {fin : Bool} (hF : wPL own index ci k 2 ty fin) (hz : (k : Int) = kz) (hka : kK a = ci) (hb : R a kz = b) (hd : decode cc pc = .ok (.getfield index, 3)) (kk : WM C ad n I J R ks ss (pc + 3) lv (vr b :: st)) : WM C ad n I J R ks ss pc lv (vr a :: st) := by
  subst hb
  exact x_getR hC kz hF hz hka hd kk
theorem x_getRD (hC : wOK C cc nL own) (kz : Int) {index ci k a : Nat} {ty : FieldType} {fin : Bool} {PQ : Prop} (hF : wPL own index ci k 2 ty fin) (hz : (k : Int) = kz) (hka : kK a = ci) (hd : decode cc pc = .ok (.getfield index, 3)) (hw : PQ ∧ WA) (kk : PQ → WA → WM C ad n I J R ks ss (pc + 3) lv (vr (R a kz) :: st)) : WM C ad n I J R ks ss pc lv (vr a :: st) := x_getR hC kz hF hz hka hd (kk hw.1 hw.2)
theorem x_alen2 (hC : wOK C cc nL own) {a ci : Nat} (hka : kK a = ci) (hN : (kN a : Int) = N) (hci : ci = 20 ∨ ci = 21 ∨ ci = 22 ∨ ci = 23 ∨ ci = 24) (hd : decode cc pc = .ok (.arraylength, 1)) (kk : WM C ad n I J R ks ss (pc + 1) lv (vi N :: st)) : WM C ad n I J R ks ss pc lv (vr a :: st) := by
  subst hN
  exact wm_alen hC hka hci (kN_rg a) hd kk
theorem x_aald2 (hC : wOK C cc nL own) (hRF : RF R) {x : Int} (hd : decode cc pc = .ok (.aaload, 1)) (hw : (0 ≤ x ∧ x < 20) ∧ WA) (k : isSt (19 + 5 * x.toNat) → WA → WM C ad n I J R ks ss (pc + 1) lv (vr (19 + 5 * x.toNat) :: st)) : WM C ad n I J R ks ss pc lv (vi x :: vr 18 :: st) := by
  have h2 := k (isSt_p hw.1.1 hw.1.2) hw.2
  rw [← hRF.2.2.2 x hw.1.1 hw.1.2] at h2
  exact wm_aald hC kk_18 hw.1.1 hw.1.2 hd h2
theorem x_iald2 (hC : wOK C cc nL own) {a : Nat} {x : Int} (hka : kK a = 21) (hN : (kN a : Int) = N) (hd : decode cc pc = .ok (.iaload, 1)) (hw : (0 ≤ x ∧ x < N) ∧ WA) (k : WA → WM C ad n I J R ks ss (pc + 1) lv (vi (I a x) :: st)) : WM C ad n I J R ks ss pc lv (vi x :: vr a :: st) := wm_iald hC hka hw.1.1 (by rw [hN]; exact hw.1.2) hd (k hw.2)
theorem x_ialdK (hC : wOK C cc nL own) {a : Nat} {x : Int} (hka : kK a = 21) (hN : (kN a : Int) = N) (h1 : 0 ≤ x) (h2 : x < N) (hd : decode cc pc = .ok (.iaload, 1)) (k : WM C ad n I J R ks ss (pc + 1) lv (vi (I a x) :: st)) : WM C ad n I J R ks ss pc lv (vi x :: vr a :: st) := wm_iald hC hka h1 (by rw [hN]; exact h2) hd k
theorem x_bald2 (hC : wOK C cc nL own) {a : Nat} {x : Int} (hka : kK a = 20) (hN : (kN a : Int) = N) (hd : decode cc pc = .ok (.baload, 1)) (hw : (0 ≤ x ∧ x < N) ∧ WA) (k : WA → WM C ad n I J R ks ss (pc + 1) lv (vi (I a x) :: st)) : WM C ad n I J R ks ss pc lv (vi x :: vr a :: st) := wm_bald hC hka hw.1.1 (by rw [hN]; exact hw.1.2) hd (k hw.2)
theorem x_baldK (hC : wOK C cc nL own) {a : Nat} {x : Int} (hka : kK a = 20) (hN : (kN a : Int) = N) (h1 : 0 ≤ x) (h2 : x < N) (hd : decode cc pc = .ok (.baload, 1)) (k : WM C ad n I J R ks ss (pc + 1) lv (vi (I a x) :: st)) : WM C ad n I J R ks ss pc lv (vi x :: vr a :: st) := wm_bald hC hka h1 (by rw [hN]; exact h2) hd k
theorem x_zald2 (hC : wOK C cc nL own) {a : Nat} {x : Int} (hka : kK a = 23) (hN : (kN a : Int) = N) (hd : decode cc pc = .ok (.baload, 1)) (hw : (0 ≤ x ∧ x < N) ∧ WA) (k : WA → WM C ad n I J R ks ss (pc + 1) lv (vi (I a x) :: st)) : WM C ad n I J R ks ss pc lv (vi x :: vr a :: st) := wm_zald hC hka hw.1.1 (by rw [hN]; exact hw.1.2) hd (k hw.2)
theorem x_zaldK (hC : wOK C cc nL own) {a : Nat} {x : Int} (hka : kK a = 23) (hN : (kN a : Int) = N) (h1 : 0 ≤ x) (h2 : x < N) (hd : decode cc pc = .ok (.baload, 1)) (k : WM C ad n I J R ks ss (pc + 1) lv (vi (I a x) :: st)) : WM C ad n I J R ks ss pc lv (vi x :: vr a :: st) := wm_zald hC hka h1 (by rw [hN]; exact h2) hd k
theorem x_lald2 (hC : wOK C cc nL own) {a : Nat} {x : Int} (hka : kK a = 22) (hN : (kN a : Int) = N) (hd : decode cc pc = .ok (.laload, 1)) (hw : (0 ≤ x ∧ x < N) ∧ WA) (k : WA → WM C ad n I J R ks ss (pc + 1) lv (vl (J a x) :: st)) : WM C ad n I J R ks ss pc lv (vi x :: vr a :: st) := wm_lald hC hka hw.1.1 (by rw [hN]; exact hw.1.2) hd (k hw.2)
theorem x_laldK (hC : wOK C cc nL own) {a : Nat} {x : Int} (hka : kK a = 22) (hN : (kN a : Int) = N) (h1 : 0 ≤ x) (h2 : x < N) (hd : decode cc pc = .ok (.laload, 1)) (k : WM C ad n I J R ks ss (pc + 1) lv (vl (J a x) :: st)) : WM C ad n I J R ks ss pc lv (vi x :: vr a :: st) := wm_lald hC hka h1 (by rw [hN]; exact h2) hd k
theorem x_iast2 (hC : wOK C cc nL own) {a : Nat} {x v : Int} (hka : kK a = 21) (hN : (kN a : Int) = N)  (hd : decode cc pc = .ok (.iastore, 1)) (hw : (0 ≤ x ∧ x < N) ∧ wLet (up I a x v) PI) (k : ∀ m1, PI m1 → WM C ad n m1 J R ks ss (pc + 1) lv st) : WM C ad n I J R ks ss pc lv (vi v :: vi x :: vr a :: st) := wm_iast hC hka hw.1.1 (by rw [hN]; exact hw.1.2)  hd (k _ hw.2)
theorem x_iastK (hC : wOK C cc nL own) {a : Nat} {x v : Int} (hka : kK a = 21) (hN : (kN a : Int) = N)  (h1 : 0 ≤ x) (h2 : x < N) (hd : decode cc pc = .ok (.iastore, 1)) (hw : wLet (up I a x v) PI) (k : ∀ m1, PI m1 → WM C ad n m1 J R ks ss (pc + 1) lv st) : WM C ad n I J R ks ss pc lv (vi v :: vi x :: vr a :: st) := wm_iast hC hka h1 (by rw [hN]; exact h2)  hd (k _ hw)
theorem x_bast2 (hC : wOK C cc nL own) {a : Nat} {x v : Int} (hka : kK a = 20) (hN : (kN a : Int) = N) (b1 : -128 ≤ v) (b2 : v < 128) (hd : decode cc pc = .ok (.bastore, 1)) (hw : (0 ≤ x ∧ x < N) ∧ wLet (up I a x v) PI) (k : ∀ m1, PI m1 → WM C ad n m1 J R ks ss (pc + 1) lv st) : WM C ad n I J R ks ss pc lv (vi v :: vi x :: vr a :: st) := wm_bast hC hka hw.1.1 (by rw [hN]; exact hw.1.2) b1 b2 hd (k _ hw.2)
theorem x_bastK (hC : wOK C cc nL own) {a : Nat} {x v : Int} (hka : kK a = 20) (hN : (kN a : Int) = N) (b1 : -128 ≤ v) (b2 : v < 128) (h1 : 0 ≤ x) (h2 : x < N) (hd : decode cc pc = .ok (.bastore, 1)) (hw : wLet (up I a x v) PI) (k : ∀ m1, PI m1 → WM C ad n m1 J R ks ss (pc + 1) lv st) : WM C ad n I J R ks ss pc lv (vi v :: vi x :: vr a :: st) := wm_bast hC hka h1 (by rw [hN]; exact h2) b1 b2 hd (k _ hw)
theorem x_zast2 (hC : wOK C cc nL own) {a : Nat} {x v : Int} (hka : kK a = 23) (hN : (kN a : Int) = N) (h01 : v = 0 ∨ v = 1) (hd : decode cc pc = .ok (.bastore, 1)) (hw : (0 ≤ x ∧ x < N) ∧ wLet (up I a x v) PI) (k : ∀ m1, PI m1 → WM C ad n m1 J R ks ss (pc + 1) lv st) : WM C ad n I J R ks ss pc lv (vi v :: vi x :: vr a :: st) := wm_zast hC hka hw.1.1 (by rw [hN]; exact hw.1.2) h01 hd (k _ hw.2)
theorem x_zastK (hC : wOK C cc nL own) {a : Nat} {x v : Int} (hka : kK a = 23) (hN : (kN a : Int) = N) (h01 : v = 0 ∨ v = 1) (h1 : 0 ≤ x) (h2 : x < N) (hd : decode cc pc = .ok (.bastore, 1)) (hw : wLet (up I a x v) PI) (k : ∀ m1, PI m1 → WM C ad n m1 J R ks ss (pc + 1) lv st) : WM C ad n I J R ks ss pc lv (vi v :: vi x :: vr a :: st) := wm_zast hC hka h1 (by rw [hN]; exact h2) h01 hd (k _ hw)
theorem x_last2 (hC : wOK C cc nL own) {a : Nat} {x v : Int} (hka : kK a = 22) (hN : (kN a : Int) = N)  (hd : decode cc pc = .ok (.lastore, 1)) (hw : (0 ≤ x ∧ x < N) ∧ wLet (up J a x v) PI) (k : ∀ m1, PI m1 → WM C ad n I m1 R ks ss (pc + 1) lv st) : WM C ad n I J R ks ss pc lv (vl v :: vi x :: vr a :: st) := wm_last hC hka hw.1.1 (by rw [hN]; exact hw.1.2)  hd (k _ hw.2)
theorem x_lastK (hC : wOK C cc nL own) {a : Nat} {x v : Int} (hka : kK a = 22) (hN : (kN a : Int) = N)  (h1 : 0 ≤ x) (h2 : x < N) (hd : decode cc pc = .ok (.lastore, 1)) (hw : wLet (up J a x v) PI) (k : ∀ m1, PI m1 → WM C ad n I m1 R ks ss (pc + 1) lv st) : WM C ad n I J R ks ss pc lv (vl v :: vi x :: vr a :: st) := wm_last hC hka h1 (by rw [hN]; exact h2)  hd (k _ hw)
theorem x_copyi2 (hC : wOK C cc nL own) {rfr rlo cs sl : Nat} (hRm : wRm C rfr rlo cs sl) {index a0 a : Nat} {sp dp len N0 : Int} (hk0 : kK a0 = 21) (hN0 : (kN a0 : Int) = N0) (hk1 : kK a = 21) (hN : (kN a : Int) = N) (hws : Cond.methodLink own index arraycopyName ∈ wT ∧ Cond.native arraycopyName ∈ wT ∧ Cond.static arraycopyName ∈ wT ∧ Cond.initialized "java/lang/System" ∈ wT) (hfr : 1 ≤ rfr) (hlo : wsum st + (nativeFrameWords "java/lang/System" "arraycopy" 5 + 11) ≤ rlo) (h1 : 0 ≤ sp ∧ 0 ≤ dp ∧ 0 ≤ len ∧ sp + len ≤ N0 ∧ dp + len ≤ N) (hd : decode cc pc = .ok (.invokestatic index, 3)) (hw : wLet (cpy I a0 sp a dp len) PI) (kk : ∀ I1, PI I1 → WM C ad n I1 J R ks ss (pc + 3) lv st) : WM C ad n I J R ks ss pc lv (vi len :: vi dp :: vr a :: vi sp :: vr a0 :: st) := wm_copyi hC hRm hk0 hk1 h1.1 h1.2.1 h1.2.2.1 (by rw [hN0]; exact h1.2.2.2.1) (by rw [hN]; exact h1.2.2.2.2) hws.1 hws.2.1 hws.2.2.1 hws.2.2.2 hfr hlo hd (kk _ hw)
theorem wm_ixor (hC : wOK C cc nL own) {x y : Int} (hd : decode cc pc = .ok (.ixor, 1)) (k : WM C ad n I J R ks ss (pc + 1) lv (vi (bXor x y) :: st)) : WM C ad n I J R ks ss pc lv (vi y :: vi x :: st) := by
  obtain ⟨p, l, e, Rm, s, m, args, below, meth, c, Q, D, cY, A, nL', own'⟩ := C
  obtain ⟨hx, hb, hml, hown, hts, hK, hA, hlk, rfl, rfl⟩ := hC
  intro hM hlv hst H locs ls hP hD hS hl
  refine lv_ixor hx hb hd ?_
  have h2 := k hM hlv (fc_i (rg_i32 _) (fc_c (fc_c hst).2).2) H locs ls hP hD hS hl
  rw [List.map_cons, show wv ad (vi (bXor x y)) = _ from congrArg Value.int (Int32.ofInt_toInt _)] at h2
  exact h2
end R10
