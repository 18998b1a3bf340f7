/-! The shape behind both constructors, and what never changes in it. -/
def S0 : Sh := [(9, 14), (2, 1), (22, 4), (0, 3), (21, 12), (7, 5), (21, 6), (21, 6), (4, 5), (20, 8), (22, 32), (0, 3), (21, 12), (0, 3), (21, 12), (0, 3), (21, 12), (0, 3), (21, 12), (0, 3), (21, 12), (0, 3), (21, 12), (0, 3), (21, 12), (0, 3), (21, 12), (0, 3), (21, 12), (0, 3), (21, 12), (0, 3), (21, 12), (0, 3), (21, 12), (0, 3), (21, 12), (0, 3), (21, 12), (0, 3), (21, 12), (0, 3), (21, 12), (0, 3), (21, 12), (0, 3), (21, 12), (0, 3), (21, 12), (0, 3), (21, 12), (0, 3), (21, 12), (0, 3), (21, 12), (0, 3), (21, 12), (0, 3), (21, 12), (0, 3), (21, 12), (0, 3), (21, 12), (0, 3), (21, 12), (0, 3), (21, 12), (0, 3), (21, 12), (0, 3), (21, 12), (0, 3), (21, 12), (0, 3), (21, 12), (8, 6), (20, 40), (20, 40), (7, 5), (21, 6), (21, 6), (1, 8), (22, 6), (0, 3), (21, 12), (0, 3), (21, 12), (0, 3), (21, 12), (0, 3), (21, 12), (0, 3), (21, 12), (0, 3), (21, 12), (0, 3), (21, 12), (0, 3), (21, 12), (0, 3), (21, 12), (0, 3), (21, 12), (7, 5), (21, 6), (21, 6), (1, 8), (22, 6), (0, 3), (21, 12), (0, 3), (21, 12), (0, 3), (21, 12), (0, 3), (21, 12), (0, 3), (21, 12), (0, 3), (21, 12), (0, 3), (21, 12), (0, 3), (21, 12), (0, 3), (21, 12), (0, 3), (21, 12), (7, 5), (21, 6), (21, 6), (3, 5), (24, 36), (21, 6), (21, 6), (21, 6), (21, 6), (21, 6), (21, 6), (21, 6), (21, 6), (21, 6), (21, 6), (21, 6), (21, 6), (21, 6), (21, 6), (21, 6), (21, 6), (21, 6), (21, 6), (21, 6), (21, 6), (21, 6), (21, 6), (21, 6), (21, 6), (21, 6), (21, 6), (21, 6), (21, 6), (21, 6), (21, 6), (21, 6), (21, 6), (21, 6), (21, 6), (21, 6), (21, 6), (20, 36), (20, 36), (6, 7), (20, 243), (0, 3), (21, 12), (0, 3), (21, 12), (7, 5), (21, 6), (21, 6), (7, 5), (21, 6), (21, 6), (7, 5), (21, 6), (21, 6), (5, 4), (20, 7), (23, 6), (20, 6), (20, 6), (20, 6), (20, 6), (20, 6), (20, 6), (23, 6), (20, 6), (20, 6), (20, 6), (20, 6), (20, 6), (20, 6), (23, 6), (20, 6), (20, 6), (20, 6), (20, 6), (20, 6), (20, 6), (0, 3), (21, 12), (0, 3), (21, 12), (0, 3), (21, 12), (0, 3), (21, 12), (10, 38), (20, 3), (20, 11), (20, 792), (20, 72), (20, 243), (20, 6), (20, 16), (20, 6), (20, 6), (20, 6), (20, 2344), (20, 3), (20, 432), (20, 6), (20, 72), (20, 243), (20, 6), (20, 432), (20, 6), (20, 36), (20, 1296), (20, 36), (20, 243), (20, 243), (20, 40), (20, 40), (20, 36), (20, 36), (20, 36), (20, 64)]
/-- the fields of the model's object -/
def fxo (kd : Nat) (a i : Int) : Option Int :=
  match kd with
  | 0 => if i = 0 then some 1 else if i = 2 then some (a + 1) else none
  | 7 => if i = 0 then some 1 else if i = 3 then some (a + 1) else if i = 4 then some (a + 2) else none
  | 1 => if i = 0 then some 1 else if i = 1 then some (a + 1) else if i = 3 then some (a + 14) else if i = 4 then some (a + 16) else if i = 5 then some (a + 18) else if i = 6 then some (a + 20) else if i = 7 then some (a + 22) else none
  | 3 => if i = 0 then some 1 else if i = 1 then some 132 else if i = 2 then some 169 else if i = 3 then some 170 else none
  | 4 => if i = 0 then some 1 else if i = 3 then some 9 else if i = 4 then some 10 else none
  | 5 => if i = 0 then some 187 else if i = 1 then some 188 else if i = 2 then some 195 else if i = 3 then some 202 else none
  | 6 => if i = 0 then some 1 else if i = 1 then some 173 else if i = 2 then some 175 else if i = 3 then some 177 else if i = 4 then some 180 else if i = 5 then some 183 else if i = 6 then some 172 else none
  | 8 => if i = 0 then some 1 else if i = 2 then some 76 else if i = 4 then some 77 else if i = 5 then some 78 else none
  | 9 => if i = 0 then some 1 else if i = 1 then some 2 else if i = 2 then some 3 else if i = 3 then some 5 else if i = 4 then some 8 else if i = 5 then some 75 else if i = 6 then some 81 else if i = 7 then some 106 else if i = 8 then some 131 else if i = 9 then some 171 else if i = 10 then some 186 else none
  | 10 => if i = 0 then some 218 else if i = 2 then some 219 else if i = 3 then some 220 else if i = 4 then some 221 else if i = 6 then some 222 else if i = 8 then some 223 else if i = 9 then some 224 else if i = 10 then some 225 else if i = 11 then some 226 else if i = 12 then some 227 else if i = 14 then some 228 else if i = 15 then some 229 else if i = 17 then some 230 else if i = 18 then some 231 else if i = 19 then some 232 else if i = 20 then some 233 else if i = 22 then some 234 else if i = 23 then some 235 else if i = 24 then some 236 else if i = 25 then some 237 else if i = 26 then some 238 else if i = 27 then some 239 else if i = 28 then some 240 else if i = 29 then some 241 else if i = 30 then some 242 else if i = 32 then some 243 else if i = 34 then some 244 else if i = 35 then some 245 else if i = 36 then some 246 else if i = 37 then some 247 else none
  | 22 => if a = 2 then some (209 + 2 * i) else if a = 10 then some (11 + 2 * i) else none
  | 23 => if a = 188 then some (189 + i) else if a = 195 then some (196 + i) else if a = 202 then some (203 + i) else none
  | 24 => if a = 132 then some (133 + i) else none
  | _ => none
/-- what a place always holds: the references that never change -/
def fx (a i : Int) : Option Int := if 0 ≤ i ∧ i < (shp S0 a).2 then fxo (shp S0 a).1 a i else none
def Lay (M : Mo) : Prop := ∀ a i z : Int, fx a i = some z → M a i = z
theorem Lay.up {M : Mo} (h : Lay M) {a i v : Int} (hf : fx a i = none) : Lay (up2 M a i v) := by
  intro b j z hz
  unfold up2
  rw [if_neg]
  · exact h b j z hz
  · rintro ⟨rfl, rfl⟩
    rw [hf] at hz
    cases hz
theorem fx_arr {a i : Int} (h : (shp S0 a).1 = 20 ∨ (shp S0 a).1 = 21) : fx a i = none := by
  unfold fx
  split
  · rcases h with h | h <;> rw [h] <;> rfl
  · rfl
theorem Lay.cp {M : Mo} (h : Lay M) {b sp a dp n : Int} (hf : (shp S0 a).1 = 20 ∨ (shp S0 a).1 = 21) : Lay (cp2 M b sp a dp n) := by
  intro c j z hz
  unfold cp2
  rw [if_neg]
  · exact h c j z hz
  · rintro ⟨rfl, -⟩
    rw [fx_arr hf] at hz
    cases hz

theorem sh_0 : shp S0 0 = (9, 14) := by decide +kernel
theorem sh_1 : shp S0 1 = (2, 1) := by decide +kernel
theorem sh_2 : shp S0 2 = (22, 4) := by decide +kernel
theorem sh_3 : shp S0 3 = (0, 3) := by decide +kernel
theorem sh_4 : shp S0 4 = (21, 12) := by decide +kernel
theorem sh_5 : shp S0 5 = (7, 5) := by decide +kernel
theorem sh_6 : shp S0 6 = (21, 6) := by decide +kernel
theorem sh_7 : shp S0 7 = (21, 6) := by decide +kernel
theorem sh_8 : shp S0 8 = (4, 5) := by decide +kernel
theorem sh_9 : shp S0 9 = (20, 8) := by decide +kernel
theorem sh_10 : shp S0 10 = (22, 32) := by decide +kernel
theorem sh_11 : shp S0 11 = (0, 3) := by decide +kernel
theorem sh_12 : shp S0 12 = (21, 12) := by decide +kernel
theorem sh_13 : shp S0 13 = (0, 3) := by decide +kernel
theorem sh_14 : shp S0 14 = (21, 12) := by decide +kernel
theorem sh_15 : shp S0 15 = (0, 3) := by decide +kernel
theorem sh_16 : shp S0 16 = (21, 12) := by decide +kernel
theorem sh_17 : shp S0 17 = (0, 3) := by decide +kernel
theorem sh_18 : shp S0 18 = (21, 12) := by decide +kernel
theorem sh_19 : shp S0 19 = (0, 3) := by decide +kernel
theorem sh_20 : shp S0 20 = (21, 12) := by decide +kernel
theorem sh_21 : shp S0 21 = (0, 3) := by decide +kernel
theorem sh_22 : shp S0 22 = (21, 12) := by decide +kernel
theorem sh_23 : shp S0 23 = (0, 3) := by decide +kernel
theorem sh_24 : shp S0 24 = (21, 12) := by decide +kernel
theorem sh_25 : shp S0 25 = (0, 3) := by decide +kernel
theorem sh_26 : shp S0 26 = (21, 12) := by decide +kernel
theorem sh_27 : shp S0 27 = (0, 3) := by decide +kernel
theorem sh_28 : shp S0 28 = (21, 12) := by decide +kernel
theorem sh_29 : shp S0 29 = (0, 3) := by decide +kernel
theorem sh_30 : shp S0 30 = (21, 12) := by decide +kernel
theorem sh_31 : shp S0 31 = (0, 3) := by decide +kernel
theorem sh_32 : shp S0 32 = (21, 12) := by decide +kernel
theorem sh_33 : shp S0 33 = (0, 3) := by decide +kernel
theorem sh_34 : shp S0 34 = (21, 12) := by decide +kernel
theorem sh_35 : shp S0 35 = (0, 3) := by decide +kernel
theorem sh_36 : shp S0 36 = (21, 12) := by decide +kernel
theorem sh_37 : shp S0 37 = (0, 3) := by decide +kernel
theorem sh_38 : shp S0 38 = (21, 12) := by decide +kernel
theorem sh_39 : shp S0 39 = (0, 3) := by decide +kernel
theorem sh_40 : shp S0 40 = (21, 12) := by decide +kernel
theorem sh_41 : shp S0 41 = (0, 3) := by decide +kernel
theorem sh_42 : shp S0 42 = (21, 12) := by decide +kernel
theorem sh_43 : shp S0 43 = (0, 3) := by decide +kernel
theorem sh_44 : shp S0 44 = (21, 12) := by decide +kernel
theorem sh_45 : shp S0 45 = (0, 3) := by decide +kernel
theorem sh_46 : shp S0 46 = (21, 12) := by decide +kernel
theorem sh_47 : shp S0 47 = (0, 3) := by decide +kernel
theorem sh_48 : shp S0 48 = (21, 12) := by decide +kernel
theorem sh_49 : shp S0 49 = (0, 3) := by decide +kernel
theorem sh_50 : shp S0 50 = (21, 12) := by decide +kernel
theorem sh_51 : shp S0 51 = (0, 3) := by decide +kernel
theorem sh_52 : shp S0 52 = (21, 12) := by decide +kernel
theorem sh_53 : shp S0 53 = (0, 3) := by decide +kernel
theorem sh_54 : shp S0 54 = (21, 12) := by decide +kernel
theorem sh_55 : shp S0 55 = (0, 3) := by decide +kernel
theorem sh_56 : shp S0 56 = (21, 12) := by decide +kernel
theorem sh_57 : shp S0 57 = (0, 3) := by decide +kernel
theorem sh_58 : shp S0 58 = (21, 12) := by decide +kernel
theorem sh_59 : shp S0 59 = (0, 3) := by decide +kernel
theorem sh_60 : shp S0 60 = (21, 12) := by decide +kernel
theorem sh_61 : shp S0 61 = (0, 3) := by decide +kernel
theorem sh_62 : shp S0 62 = (21, 12) := by decide +kernel
theorem sh_63 : shp S0 63 = (0, 3) := by decide +kernel
theorem sh_64 : shp S0 64 = (21, 12) := by decide +kernel
theorem sh_65 : shp S0 65 = (0, 3) := by decide +kernel
theorem sh_66 : shp S0 66 = (21, 12) := by decide +kernel
theorem sh_67 : shp S0 67 = (0, 3) := by decide +kernel
theorem sh_68 : shp S0 68 = (21, 12) := by decide +kernel
theorem sh_69 : shp S0 69 = (0, 3) := by decide +kernel
theorem sh_70 : shp S0 70 = (21, 12) := by decide +kernel
theorem sh_71 : shp S0 71 = (0, 3) := by decide +kernel
theorem sh_72 : shp S0 72 = (21, 12) := by decide +kernel
theorem sh_73 : shp S0 73 = (0, 3) := by decide +kernel
theorem sh_74 : shp S0 74 = (21, 12) := by decide +kernel
theorem sh_75 : shp S0 75 = (8, 6) := by decide +kernel
theorem sh_76 : shp S0 76 = (20, 40) := by decide +kernel
theorem sh_77 : shp S0 77 = (20, 40) := by decide +kernel
theorem sh_78 : shp S0 78 = (7, 5) := by decide +kernel
theorem sh_79 : shp S0 79 = (21, 6) := by decide +kernel
theorem sh_80 : shp S0 80 = (21, 6) := by decide +kernel
theorem sh_81 : shp S0 81 = (1, 8) := by decide +kernel
theorem sh_82 : shp S0 82 = (22, 6) := by decide +kernel
theorem sh_83 : shp S0 83 = (0, 3) := by decide +kernel
theorem sh_84 : shp S0 84 = (21, 12) := by decide +kernel
theorem sh_85 : shp S0 85 = (0, 3) := by decide +kernel
theorem sh_86 : shp S0 86 = (21, 12) := by decide +kernel
theorem sh_87 : shp S0 87 = (0, 3) := by decide +kernel
theorem sh_88 : shp S0 88 = (21, 12) := by decide +kernel
theorem sh_89 : shp S0 89 = (0, 3) := by decide +kernel
theorem sh_90 : shp S0 90 = (21, 12) := by decide +kernel
theorem sh_91 : shp S0 91 = (0, 3) := by decide +kernel
theorem sh_92 : shp S0 92 = (21, 12) := by decide +kernel
theorem sh_93 : shp S0 93 = (0, 3) := by decide +kernel
theorem sh_94 : shp S0 94 = (21, 12) := by decide +kernel
theorem sh_95 : shp S0 95 = (0, 3) := by decide +kernel
theorem sh_96 : shp S0 96 = (21, 12) := by decide +kernel
theorem sh_97 : shp S0 97 = (0, 3) := by decide +kernel
theorem sh_98 : shp S0 98 = (21, 12) := by decide +kernel
theorem sh_99 : shp S0 99 = (0, 3) := by decide +kernel
theorem sh_100 : shp S0 100 = (21, 12) := by decide +kernel
theorem sh_101 : shp S0 101 = (0, 3) := by decide +kernel
theorem sh_102 : shp S0 102 = (21, 12) := by decide +kernel
theorem sh_103 : shp S0 103 = (7, 5) := by decide +kernel
theorem sh_104 : shp S0 104 = (21, 6) := by decide +kernel
theorem sh_105 : shp S0 105 = (21, 6) := by decide +kernel
theorem sh_106 : shp S0 106 = (1, 8) := by decide +kernel
theorem sh_107 : shp S0 107 = (22, 6) := by decide +kernel
theorem sh_108 : shp S0 108 = (0, 3) := by decide +kernel
theorem sh_109 : shp S0 109 = (21, 12) := by decide +kernel
theorem sh_110 : shp S0 110 = (0, 3) := by decide +kernel
theorem sh_111 : shp S0 111 = (21, 12) := by decide +kernel
theorem sh_112 : shp S0 112 = (0, 3) := by decide +kernel
theorem sh_113 : shp S0 113 = (21, 12) := by decide +kernel
theorem sh_114 : shp S0 114 = (0, 3) := by decide +kernel
theorem sh_115 : shp S0 115 = (21, 12) := by decide +kernel
theorem sh_116 : shp S0 116 = (0, 3) := by decide +kernel
theorem sh_117 : shp S0 117 = (21, 12) := by decide +kernel
theorem sh_118 : shp S0 118 = (0, 3) := by decide +kernel
theorem sh_119 : shp S0 119 = (21, 12) := by decide +kernel
theorem sh_120 : shp S0 120 = (0, 3) := by decide +kernel
theorem sh_121 : shp S0 121 = (21, 12) := by decide +kernel
theorem sh_122 : shp S0 122 = (0, 3) := by decide +kernel
theorem sh_123 : shp S0 123 = (21, 12) := by decide +kernel
theorem sh_124 : shp S0 124 = (0, 3) := by decide +kernel
theorem sh_125 : shp S0 125 = (21, 12) := by decide +kernel
theorem sh_126 : shp S0 126 = (0, 3) := by decide +kernel
theorem sh_127 : shp S0 127 = (21, 12) := by decide +kernel
theorem sh_128 : shp S0 128 = (7, 5) := by decide +kernel
theorem sh_129 : shp S0 129 = (21, 6) := by decide +kernel
theorem sh_130 : shp S0 130 = (21, 6) := by decide +kernel
theorem sh_131 : shp S0 131 = (3, 5) := by decide +kernel
theorem sh_132 : shp S0 132 = (24, 36) := by decide +kernel
theorem sh_133 : shp S0 133 = (21, 6) := by decide +kernel
theorem sh_134 : shp S0 134 = (21, 6) := by decide +kernel
theorem sh_135 : shp S0 135 = (21, 6) := by decide +kernel
theorem sh_136 : shp S0 136 = (21, 6) := by decide +kernel
theorem sh_137 : shp S0 137 = (21, 6) := by decide +kernel
theorem sh_138 : shp S0 138 = (21, 6) := by decide +kernel
theorem sh_139 : shp S0 139 = (21, 6) := by decide +kernel
theorem sh_140 : shp S0 140 = (21, 6) := by decide +kernel
theorem sh_141 : shp S0 141 = (21, 6) := by decide +kernel
theorem sh_142 : shp S0 142 = (21, 6) := by decide +kernel
theorem sh_143 : shp S0 143 = (21, 6) := by decide +kernel
theorem sh_144 : shp S0 144 = (21, 6) := by decide +kernel
theorem sh_145 : shp S0 145 = (21, 6) := by decide +kernel
theorem sh_146 : shp S0 146 = (21, 6) := by decide +kernel
theorem sh_147 : shp S0 147 = (21, 6) := by decide +kernel
theorem sh_148 : shp S0 148 = (21, 6) := by decide +kernel
theorem sh_149 : shp S0 149 = (21, 6) := by decide +kernel
theorem sh_150 : shp S0 150 = (21, 6) := by decide +kernel
theorem sh_151 : shp S0 151 = (21, 6) := by decide +kernel
theorem sh_152 : shp S0 152 = (21, 6) := by decide +kernel
theorem sh_153 : shp S0 153 = (21, 6) := by decide +kernel
theorem sh_154 : shp S0 154 = (21, 6) := by decide +kernel
theorem sh_155 : shp S0 155 = (21, 6) := by decide +kernel
theorem sh_156 : shp S0 156 = (21, 6) := by decide +kernel
theorem sh_157 : shp S0 157 = (21, 6) := by decide +kernel
theorem sh_158 : shp S0 158 = (21, 6) := by decide +kernel
theorem sh_159 : shp S0 159 = (21, 6) := by decide +kernel
theorem sh_160 : shp S0 160 = (21, 6) := by decide +kernel
theorem sh_161 : shp S0 161 = (21, 6) := by decide +kernel
theorem sh_162 : shp S0 162 = (21, 6) := by decide +kernel
theorem sh_163 : shp S0 163 = (21, 6) := by decide +kernel
theorem sh_164 : shp S0 164 = (21, 6) := by decide +kernel
theorem sh_165 : shp S0 165 = (21, 6) := by decide +kernel
theorem sh_166 : shp S0 166 = (21, 6) := by decide +kernel
theorem sh_167 : shp S0 167 = (21, 6) := by decide +kernel
theorem sh_168 : shp S0 168 = (21, 6) := by decide +kernel
theorem sh_169 : shp S0 169 = (20, 36) := by decide +kernel
theorem sh_170 : shp S0 170 = (20, 36) := by decide +kernel
theorem sh_171 : shp S0 171 = (6, 7) := by decide +kernel
theorem sh_172 : shp S0 172 = (20, 243) := by decide +kernel
theorem sh_173 : shp S0 173 = (0, 3) := by decide +kernel
theorem sh_174 : shp S0 174 = (21, 12) := by decide +kernel
theorem sh_175 : shp S0 175 = (0, 3) := by decide +kernel
theorem sh_176 : shp S0 176 = (21, 12) := by decide +kernel
theorem sh_177 : shp S0 177 = (7, 5) := by decide +kernel
theorem sh_178 : shp S0 178 = (21, 6) := by decide +kernel
theorem sh_179 : shp S0 179 = (21, 6) := by decide +kernel
theorem sh_180 : shp S0 180 = (7, 5) := by decide +kernel
theorem sh_181 : shp S0 181 = (21, 6) := by decide +kernel
theorem sh_182 : shp S0 182 = (21, 6) := by decide +kernel
theorem sh_183 : shp S0 183 = (7, 5) := by decide +kernel
theorem sh_184 : shp S0 184 = (21, 6) := by decide +kernel
theorem sh_185 : shp S0 185 = (21, 6) := by decide +kernel
theorem sh_186 : shp S0 186 = (5, 4) := by decide +kernel
theorem sh_187 : shp S0 187 = (20, 7) := by decide +kernel
theorem sh_188 : shp S0 188 = (23, 6) := by decide +kernel
theorem sh_189 : shp S0 189 = (20, 6) := by decide +kernel
theorem sh_190 : shp S0 190 = (20, 6) := by decide +kernel
theorem sh_191 : shp S0 191 = (20, 6) := by decide +kernel
theorem sh_192 : shp S0 192 = (20, 6) := by decide +kernel
theorem sh_193 : shp S0 193 = (20, 6) := by decide +kernel
theorem sh_194 : shp S0 194 = (20, 6) := by decide +kernel
theorem sh_195 : shp S0 195 = (23, 6) := by decide +kernel
theorem sh_196 : shp S0 196 = (20, 6) := by decide +kernel
theorem sh_197 : shp S0 197 = (20, 6) := by decide +kernel
theorem sh_198 : shp S0 198 = (20, 6) := by decide +kernel
theorem sh_199 : shp S0 199 = (20, 6) := by decide +kernel
theorem sh_200 : shp S0 200 = (20, 6) := by decide +kernel
theorem sh_201 : shp S0 201 = (20, 6) := by decide +kernel
theorem sh_202 : shp S0 202 = (23, 6) := by decide +kernel
theorem sh_203 : shp S0 203 = (20, 6) := by decide +kernel
theorem sh_204 : shp S0 204 = (20, 6) := by decide +kernel
theorem sh_205 : shp S0 205 = (20, 6) := by decide +kernel
theorem sh_206 : shp S0 206 = (20, 6) := by decide +kernel
theorem sh_207 : shp S0 207 = (20, 6) := by decide +kernel
theorem sh_208 : shp S0 208 = (20, 6) := by decide +kernel
theorem sh_209 : shp S0 209 = (0, 3) := by decide +kernel
theorem sh_210 : shp S0 210 = (21, 12) := by decide +kernel
theorem sh_211 : shp S0 211 = (0, 3) := by decide +kernel
theorem sh_212 : shp S0 212 = (21, 12) := by decide +kernel
theorem sh_213 : shp S0 213 = (0, 3) := by decide +kernel
theorem sh_214 : shp S0 214 = (21, 12) := by decide +kernel
theorem sh_215 : shp S0 215 = (0, 3) := by decide +kernel
theorem sh_216 : shp S0 216 = (21, 12) := by decide +kernel
theorem sh_217 : shp S0 217 = (10, 38) := by decide +kernel
theorem sh_218 : shp S0 218 = (20, 3) := by decide +kernel
theorem sh_219 : shp S0 219 = (20, 11) := by decide +kernel
theorem sh_220 : shp S0 220 = (20, 792) := by decide +kernel
theorem sh_221 : shp S0 221 = (20, 72) := by decide +kernel
theorem sh_222 : shp S0 222 = (20, 243) := by decide +kernel
theorem sh_223 : shp S0 223 = (20, 6) := by decide +kernel
theorem sh_224 : shp S0 224 = (20, 16) := by decide +kernel
theorem sh_225 : shp S0 225 = (20, 6) := by decide +kernel
theorem sh_226 : shp S0 226 = (20, 6) := by decide +kernel
theorem sh_227 : shp S0 227 = (20, 6) := by decide +kernel
theorem sh_228 : shp S0 228 = (20, 2344) := by decide +kernel
theorem sh_229 : shp S0 229 = (20, 3) := by decide +kernel
theorem sh_230 : shp S0 230 = (20, 432) := by decide +kernel
theorem sh_231 : shp S0 231 = (20, 6) := by decide +kernel
theorem sh_232 : shp S0 232 = (20, 72) := by decide +kernel
theorem sh_233 : shp S0 233 = (20, 243) := by decide +kernel
theorem sh_234 : shp S0 234 = (20, 6) := by decide +kernel
theorem sh_235 : shp S0 235 = (20, 432) := by decide +kernel
theorem sh_236 : shp S0 236 = (20, 6) := by decide +kernel
theorem sh_237 : shp S0 237 = (20, 36) := by decide +kernel
theorem sh_238 : shp S0 238 = (20, 1296) := by decide +kernel
theorem sh_239 : shp S0 239 = (20, 36) := by decide +kernel
theorem sh_240 : shp S0 240 = (20, 243) := by decide +kernel
theorem sh_241 : shp S0 241 = (20, 243) := by decide +kernel
theorem sh_242 : shp S0 242 = (20, 40) := by decide +kernel
theorem sh_243 : shp S0 243 = (20, 40) := by decide +kernel
theorem sh_244 : shp S0 244 = (20, 36) := by decide +kernel
theorem sh_245 : shp S0 245 = (20, 36) := by decide +kernel
theorem sh_246 : shp S0 246 = (20, 36) := by decide +kernel
theorem sh_247 : shp S0 247 = (20, 64) := by decide +kernel
theorem fx_217_0 : fx 217 0 = some 218 := by decide +kernel
theorem fx_217_1 : fx 217 1 = none := by decide +kernel
theorem fx_217_2 : fx 217 2 = some 219 := by decide +kernel
theorem fx_217_3 : fx 217 3 = some 220 := by decide +kernel
theorem fx_217_4 : fx 217 4 = some 221 := by decide +kernel
theorem fx_217_5 : fx 217 5 = none := by decide +kernel
theorem fx_217_6 : fx 217 6 = some 222 := by decide +kernel
theorem fx_217_7 : fx 217 7 = none := by decide +kernel
theorem fx_217_8 : fx 217 8 = some 223 := by decide +kernel
theorem fx_217_9 : fx 217 9 = some 224 := by decide +kernel
theorem fx_217_10 : fx 217 10 = some 225 := by decide +kernel
theorem fx_217_11 : fx 217 11 = some 226 := by decide +kernel
theorem fx_217_12 : fx 217 12 = some 227 := by decide +kernel
theorem fx_217_13 : fx 217 13 = none := by decide +kernel
theorem fx_217_14 : fx 217 14 = some 228 := by decide +kernel
theorem fx_217_15 : fx 217 15 = some 229 := by decide +kernel
theorem fx_217_16 : fx 217 16 = none := by decide +kernel
theorem fx_217_17 : fx 217 17 = some 230 := by decide +kernel
theorem fx_217_18 : fx 217 18 = some 231 := by decide +kernel
theorem fx_217_19 : fx 217 19 = some 232 := by decide +kernel
theorem fx_217_20 : fx 217 20 = some 233 := by decide +kernel
theorem fx_217_21 : fx 217 21 = none := by decide +kernel
theorem fx_217_22 : fx 217 22 = some 234 := by decide +kernel
theorem fx_217_23 : fx 217 23 = some 235 := by decide +kernel
theorem fx_217_24 : fx 217 24 = some 236 := by decide +kernel
theorem fx_217_25 : fx 217 25 = some 237 := by decide +kernel
theorem fx_217_26 : fx 217 26 = some 238 := by decide +kernel
theorem fx_217_27 : fx 217 27 = some 239 := by decide +kernel
theorem fx_217_28 : fx 217 28 = some 240 := by decide +kernel
theorem fx_217_29 : fx 217 29 = some 241 := by decide +kernel
theorem fx_217_30 : fx 217 30 = some 242 := by decide +kernel
theorem fx_217_31 : fx 217 31 = none := by decide +kernel
theorem fx_217_32 : fx 217 32 = some 243 := by decide +kernel
theorem fx_217_33 : fx 217 33 = none := by decide +kernel
theorem fx_217_34 : fx 217 34 = some 244 := by decide +kernel
theorem fx_217_35 : fx 217 35 = some 245 := by decide +kernel
theorem fx_217_36 : fx 217 36 = some 246 := by decide +kernel
theorem fx_217_37 : fx 217 37 = some 247 := by decide +kernel
theorem fx_0_0 : fx 0 0 = some 1 := by decide +kernel
theorem fx_0_1 : fx 0 1 = some 2 := by decide +kernel
theorem fx_0_2 : fx 0 2 = some 3 := by decide +kernel
theorem fx_0_3 : fx 0 3 = some 5 := by decide +kernel
theorem fx_0_4 : fx 0 4 = some 8 := by decide +kernel
theorem fx_0_5 : fx 0 5 = some 75 := by decide +kernel
theorem fx_0_6 : fx 0 6 = some 81 := by decide +kernel
theorem fx_0_7 : fx 0 7 = some 106 := by decide +kernel
theorem fx_0_8 : fx 0 8 = some 131 := by decide +kernel
theorem fx_0_9 : fx 0 9 = some 171 := by decide +kernel
theorem fx_0_10 : fx 0 10 = some 186 := by decide +kernel
theorem fx_0_11 : fx 0 11 = none := by decide +kernel
theorem fx_0_12 : fx 0 12 = none := by decide +kernel
theorem fx_0_13 : fx 0 13 = none := by decide +kernel
theorem fx_1_0 : fx 1 0 = none := by decide +kernel
theorem fx_8_0 : fx 8 0 = some 1 := by decide +kernel
theorem fx_8_1 : fx 8 1 = none := by decide +kernel
theorem fx_8_2 : fx 8 2 = none := by decide +kernel
theorem fx_8_3 : fx 8 3 = some 9 := by decide +kernel
theorem fx_8_4 : fx 8 4 = some 10 := by decide +kernel
theorem fx_75_0 : fx 75 0 = some 1 := by decide +kernel
theorem fx_75_1 : fx 75 1 = none := by decide +kernel
theorem fx_75_2 : fx 75 2 = some 76 := by decide +kernel
theorem fx_75_3 : fx 75 3 = none := by decide +kernel
theorem fx_75_4 : fx 75 4 = some 77 := by decide +kernel
theorem fx_75_5 : fx 75 5 = some 78 := by decide +kernel
theorem fx_131_0 : fx 131 0 = some 1 := by decide +kernel
theorem fx_131_1 : fx 131 1 = some 132 := by decide +kernel
theorem fx_131_2 : fx 131 2 = some 169 := by decide +kernel
theorem fx_131_3 : fx 131 3 = some 170 := by decide +kernel
theorem fx_131_4 : fx 131 4 = none := by decide +kernel
theorem fx_171_0 : fx 171 0 = some 1 := by decide +kernel
theorem fx_171_1 : fx 171 1 = some 173 := by decide +kernel
theorem fx_171_2 : fx 171 2 = some 175 := by decide +kernel
theorem fx_171_3 : fx 171 3 = some 177 := by decide +kernel
theorem fx_171_4 : fx 171 4 = some 180 := by decide +kernel
theorem fx_171_5 : fx 171 5 = some 183 := by decide +kernel
theorem fx_171_6 : fx 171 6 = some 172 := by decide +kernel
theorem fx_186_0 : fx 186 0 = some 187 := by decide +kernel
theorem fx_186_1 : fx 186 1 = some 188 := by decide +kernel
theorem fx_186_2 : fx 186 2 = some 195 := by decide +kernel
theorem fx_186_3 : fx 186 3 = some 202 := by decide +kernel
theorem act_next : ∀ a ∈ List.range 248, sg S0 a = (0, 3) → sg S0 (a + 1) = (21, 12) := by decide +kernel
theorem spc_next : ∀ a ∈ List.range 248, sg S0 a = (7, 5) → sg S0 (a + 1) = (21, 6) ∧ sg S0 (a + 2) = (21, 6) := by decide +kernel
theorem shp_nat (k : Nat) : shp S0 (k : Int) = sg S0 k := by
  unfold shp
  rw [if_neg (by omega), Int.toNat_natCast]
  rfl
theorem S0_len : S0.length = 248 := by decide +kernel
theorem shA1 {a : Int} (h : shp S0 a = (0, 3)) : shp S0 (a + 1) = (21, 12) := by
  obtain ⟨k, rfl, hk, hs⟩ := shp_spec h (by decide)
  rw [S0_len] at hk
  have := act_next k (List.mem_range.mpr hk) hs
  rw [show ((k : Int) + 1) = ((k + 1 : Nat) : Int) by omega, shp_nat]
  exact this
theorem shS1 {a : Int} (h : shp S0 a = (7, 5)) : shp S0 (a + 1) = (21, 6) := by
  obtain ⟨k, rfl, hk, hs⟩ := shp_spec h (by decide)
  rw [S0_len] at hk
  have := (spc_next k (List.mem_range.mpr hk) hs).1
  rw [show ((k : Int) + 1) = ((k + 1 : Nat) : Int) by omega, shp_nat]
  exact this
theorem shS2 {a : Int} (h : shp S0 a = (7, 5)) : shp S0 (a + 2) = (21, 6) := by
  obtain ⟨k, rfl, hk, hs⟩ := shp_spec h (by decide)
  rw [S0_len] at hk
  have := (spc_next k (List.mem_range.mpr hk) hs).2
  rw [show ((k : Int) + 2) = ((k + 2 : Nat) : Int) by omega, shp_nat]
  exact this
theorem fxA0 {a : Int} (h : shp S0 a = (0, 3)) : fx a 0 = some 1 := by unfold fx; rw [h]; rfl
theorem fxA1 {a : Int} (h : shp S0 a = (0, 3)) : fx a 1 = none := by unfold fx; rw [h]; rfl
theorem fxA2 {a : Int} (h : shp S0 a = (0, 3)) : fx a 2 = some (a + 1) := by unfold fx; rw [h]; rfl
theorem fxS0 {a : Int} (h : shp S0 a = (7, 5)) : fx a 0 = some 1 := by unfold fx; rw [h]; rfl
theorem fxS1 {a : Int} (h : shp S0 a = (7, 5)) : fx a 1 = none := by unfold fx; rw [h]; rfl
theorem fxS2 {a : Int} (h : shp S0 a = (7, 5)) : fx a 2 = none := by unfold fx; rw [h]; rfl
theorem fxS3 {a : Int} (h : shp S0 a = (7, 5)) : fx a 3 = some (a + 1) := by unfold fx; rw [h]; rfl
theorem fxS4 {a : Int} (h : shp S0 a = (7, 5)) : fx a 4 = some (a + 2) := by unfold fx; rw [h]; rfl
theorem fxF {a : Int} (h : shp S0 a = (1, 8)) : fx a 0 = some 1 ∧ fx a 1 = some (a + 1) ∧ fx a 2 = none ∧ fx a 3 = some (a + 14) ∧ fx a 4 = some (a + 16) ∧ fx a 5 = some (a + 18) ∧ fx a 6 = some (a + 20) ∧ fx a 7 = some (a + 22) := by unfold fx; rw [h]; exact ⟨rfl, rfl, rfl, rfl, rfl, rfl, rfl, rfl⟩

