
theorem q1p {α : Type} {Q : α → Prop} {c : Prop} [Decidable c] {a b : α} (hc : c) (h : Q (if c then a else b)) : Q a := by rw [if_pos hc] at h; exact h
theorem q1n {α : Type} {Q : α → Prop} {c : Prop} [Decidable c] {a b : α} (hc : ¬ c) (h : Q (if c then a else b)) : Q b := by rw [if_neg hc] at h; exact h
theorem qlp {α β : Type} {Q : α → β → Prop} {c : Prop} [Decidable c] {a b : α} {m : β} (hc : c) (h : Q (if c then a else b) m) : Q a m := by rw [if_pos hc] at h; exact h
theorem qln {α β : Type} {Q : α → β → Prop} {c : Prop} [Decidable c] {a b : α} {m : β} (hc : ¬ c) (h : Q (if c then a else b) m) : Q b m := by rw [if_neg hc] at h; exact h
theorem qrp {α β : Type} {Q : α → β → Prop} {c : Prop} [Decidable c] {v : α} {a b : β} (hc : c) (h : Q v (if c then a else b)) : Q v a := by rw [if_pos hc] at h; exact h
theorem qrn {α β : Type} {Q : α → β → Prop} {c : Prop} [Decidable c] {v : α} {a b : β} (hc : ¬ c) (h : Q v (if c then a else b)) : Q v b := by rw [if_neg hc] at h; exact h
theorem q2p {α β : Type} {Q : α → β → Prop} {c : Prop} [Decidable c] {a b : α} {m n : β} (hc : c) (h : Q (if c then a else b) (if c then m else n)) : Q a m := by rw [if_pos hc, if_pos hc] at h; exact h
theorem q2n {α β : Type} {Q : α → β → Prop} {c : Prop} [Decidable c] {a b : α} {m n : β} (hc : ¬ c) (h : Q (if c then a else b) (if c then m else n)) : Q b n := by rw [if_neg hc, if_neg hc] at h; exact h
theorem q3p {α β : Type} {Q : α → β → Prop} {c : Prop} [Decidable c] {a b : α × β} (hc : c) (h : Q (if c then a else b).1 (if c then a else b).2) : Q a.1 a.2 := by rw [if_pos hc] at h; exact h
theorem q3n {α β : Type} {Q : α → β → Prop} {c : Prop} [Decidable c] {a b : α × β} (hc : ¬ c) (h : Q (if c then a else b).1 (if c then a else b).2) : Q b.1 b.2 := by rw [if_neg hc] at h; exact h
theorem i01 {p : Prop} [Decidable p] {a b : Int32} (ha : a = 0 ∨ a = 1) (hb : b = 0 ∨ b = 1) : (if p then a else b) = 0 ∨ (if p then a else b) = 1 := by
  by_cases h : p
  · rw [if_pos h]; exact ha
  · rw [if_neg h]; exact hb
theorem i32_of_toInt {x y : Int32} {n : Int} (h : x.toInt = n) (hy : y.toInt = n := by decide) : x = y := Int32.toInt_inj.mp (h.trans hy.symm)
/-- a throw stands at pc -/
def thrAt (M : MT) (pc : Nat) : Prop := decode M.2.2.1 pc = .ok (.new 176, 3) ∧ decode M.2.2.1 (pc + 3) = .ok (.dup, 1) ∧ decode M.2.2.1 (pc + 4) = .ok (.invokespecial 178, 3) ∧ decode M.2.2.1 (pc + 7) = .ok (.athrow, 1)
def KQx (M : MT) (Q : Option Int32 → SM → Prop) : Option Value → JMem → Prop := fun v m1 => (∃ x s1, v = some (.int x) ∧ m1 = std s1 ∧ Q (some x) s1) ∨ ∃ pc s1, v = some (.retAddr pc) ∧ thrAt M pc ∧ m1 = std s1 ∧ Q none s1
abbrev BXX (M : MT) (d : Nat) (pc : Nat) (lv : List (Nat × Value)) (s : SM) (Q : Option Int32 → SM → Prop) : Prop := JT M d 0 0 pc lv [] (std s) (KQx M Q)
def KX (M : MT) (d : Nat) (as : List Value) (s : SM) (Q : Option Int32 → SM → Prop) : Prop := BXX M d 0 (lv_args 0 as) s Q
theorem JS_iretx {M : MT} {d : Nat} {pc : Nat} {lv : List (Nat × Value)} {s : SM} {Q : Option Int32 → SM → Prop} {x : Int32} {ty : FieldType} (hd : decode M.2.2.1 pc = .ok (.ireturn, 1)) (hr : M.2.2.2.2 = some ty) (hn : narrow ty (.int x) = .int x) (k : Q (some x) s) : JT M d 0 0 pc lv [.int x] (std s) (KQx M Q) := JT_iret (st := []) hd hr hn (Or.inl ⟨x, s, rfl, rfl, k⟩)
theorem JS_throw {M : MT} {d : Nat} {pc : Nat} {lv : List (Nat × Value)} {s : SM} {Q : Option Int32 → SM → Prop} (ht : thrAt M pc) (k : Q none s) : JT M d 0 0 pc lv [] (std s) (KQx M Q) := JT_stop (Or.inr ⟨pc, s, rfl, ht, rfl, k⟩)

theorem BS_0 : BS 0 = (some .int, 0) := by decide +kernel
theorem BS_1 : BS 1 = (some .long, 17) := by decide +kernel
theorem BS_2 : BS 2 = (none, 11) := by decide +kernel
theorem BS_3 : BS 3 = (none, 9) := by decide +kernel
theorem BS_4 : BS 4 = (some .int, 640) := by decide +kernel
theorem BS_5 : BS 5 = (none, 6) := by decide +kernel
theorem BS_6 : BS 6 = (some .long, 9) := by decide +kernel
theorem BS_7 : BS 7 = (some .int, 9) := by decide +kernel
theorem BS_8 : BS 8 = (some .int, 9) := by decide +kernel
theorem BS_9 : BS 9 = (some .long, 6) := by decide +kernel
theorem BS_10 : BS 10 = (some .int, 6) := by decide +kernel
theorem BS_11 : BS 11 = (some .int, 6) := by decide +kernel
theorem BS_12 : BS 12 = (none, 6) := by decide +kernel
theorem BS_13 : BS 13 = (some .long, 9) := by decide +kernel
theorem BS_14 : BS 14 = (some .int, 9) := by decide +kernel
theorem BS_15 : BS 15 = (some .int, 9) := by decide +kernel
theorem BS_16 : BS 16 = (some .long, 6) := by decide +kernel
theorem BS_17 : BS 17 = (some .int, 6) := by decide +kernel
theorem BS_18 : BS 18 = (some .int, 6) := by decide +kernel
theorem BS_19 : BS 19 = (none, 0) := by decide +kernel
theorem BS_20 : BS 20 = (some .int, 40) := by decide +kernel
theorem BS_21 : BS 21 = (some .int, 40) := by decide +kernel
theorem BS_22 : BS 22 = (some .int, 40) := by decide +kernel
theorem BS_23 : BS 23 = (some .int, 40) := by decide +kernel
theorem BS_24 : BS 24 = (some .int, 40) := by decide +kernel
theorem BS_25 : BS 25 = (none, 0) := by decide +kernel
theorem BS_26 : BS 26 = (some .int, 40) := by decide +kernel
theorem BS_27 : BS 27 = (some .int, 40) := by decide +kernel
theorem BS_28 : BS 28 = (some .int, 40) := by decide +kernel
theorem BS_29 : BS 29 = (some .int, 40) := by decide +kernel
theorem BS_30 : BS 30 = (some .int, 40) := by decide +kernel
theorem BS_31 : BS 31 = (none, 4) := by decide +kernel
theorem BS_32 : BS 32 = (some .int, 60) := by decide +kernel
theorem BS_33 : BS 33 = (some .int, 60) := by decide +kernel
theorem BS_34 : BS 34 = (some .int, 60) := by decide +kernel
theorem BS_35 : BS 35 = (some .int, 60) := by decide +kernel
theorem BS_36 : BS 36 = (some .int, 60) := by decide +kernel
theorem BS_37 : BS 37 = (some .int, 60) := by decide +kernel
theorem BS_38 : BS 38 = (some .int, 9) := by decide +kernel
theorem BS_39 : BS 39 = (some .int, 9) := by decide +kernel
theorem BS_40 : BS 40 = (some .int, 60) := by decide +kernel
theorem BS_41 : BS 41 = (some .int, 60) := by decide +kernel
theorem BS_42 : BS 42 = (some .int, 60) := by decide +kernel
theorem BS_43 : BS 43 = (none, 4) := by decide +kernel
theorem BS_44 : BS 44 = (some .int, 60) := by decide +kernel
theorem BS_45 : BS 45 = (some .int, 60) := by decide +kernel
theorem BS_46 : BS 46 = (some .int, 60) := by decide +kernel
theorem BS_47 : BS 47 = (some .int, 60) := by decide +kernel
theorem BS_48 : BS 48 = (some .int, 60) := by decide +kernel
theorem BS_49 : BS 49 = (some .int, 60) := by decide +kernel
theorem BS_50 : BS 50 = (some .int, 9) := by decide +kernel
theorem BS_51 : BS 51 = (some .int, 9) := by decide +kernel
theorem BS_52 : BS 52 = (some .int, 60) := by decide +kernel
theorem BS_53 : BS 53 = (some .int, 60) := by decide +kernel
theorem BS_54 : BS 54 = (some .int, 60) := by decide +kernel
theorem BS_55 : BS 55 = (none, 2) := by decide +kernel
theorem BS_56 : BS 56 = (some (.object "SkinLedger$Ledger"), 9) := by decide +kernel
theorem BS_57 : BS 57 = (none, 4) := by decide +kernel
theorem BS_58 : BS 58 = (some .int, 60) := by decide +kernel
theorem BS_59 : BS 59 = (some .int, 60) := by decide +kernel
theorem BS_60 : BS 60 = (some .int, 60) := by decide +kernel
theorem BS_61 : BS 61 = (some .int, 60) := by decide +kernel
theorem BS_62 : BS 62 = (some .int, 60) := by decide +kernel
theorem BS_63 : BS 63 = (some .int, 60) := by decide +kernel
theorem BS_64 : BS 64 = (some .int, 9) := by decide +kernel
theorem BS_65 : BS 65 = (some .int, 9) := by decide +kernel
theorem BS_66 : BS 66 = (some .int, 60) := by decide +kernel
theorem BS_67 : BS 67 = (some .int, 60) := by decide +kernel
theorem BS_68 : BS 68 = (some .int, 60) := by decide +kernel
theorem BS_69 : BS 69 = (none, 4) := by decide +kernel
theorem BS_70 : BS 70 = (some .int, 60) := by decide +kernel
theorem BS_71 : BS 71 = (some .int, 60) := by decide +kernel
theorem BS_72 : BS 72 = (some .int, 60) := by decide +kernel
theorem BS_73 : BS 73 = (some .int, 60) := by decide +kernel
theorem BS_74 : BS 74 = (some .int, 60) := by decide +kernel
theorem BS_75 : BS 75 = (some .int, 60) := by decide +kernel
theorem BS_76 : BS 76 = (some .int, 9) := by decide +kernel
theorem BS_77 : BS 77 = (some .int, 9) := by decide +kernel
theorem BS_78 : BS 78 = (some .int, 60) := by decide +kernel
theorem BS_79 : BS 79 = (some .int, 60) := by decide +kernel
theorem BS_80 : BS 80 = (some .int, 60) := by decide +kernel
theorem BS_81 : BS 81 = (none, 4) := by decide +kernel
theorem BS_82 : BS 82 = (some .int, 60) := by decide +kernel
theorem BS_83 : BS 83 = (some .int, 60) := by decide +kernel
theorem BS_84 : BS 84 = (some .int, 60) := by decide +kernel
theorem BS_85 : BS 85 = (some .int, 60) := by decide +kernel
theorem BS_86 : BS 86 = (some .int, 60) := by decide +kernel
theorem BS_87 : BS 87 = (some .int, 60) := by decide +kernel
theorem BS_88 : BS 88 = (some .int, 9) := by decide +kernel
theorem BS_89 : BS 89 = (some .int, 9) := by decide +kernel
theorem BS_90 : BS 90 = (some .int, 60) := by decide +kernel
theorem BS_91 : BS 91 = (some .int, 60) := by decide +kernel
theorem BS_92 : BS 92 = (some .int, 60) := by decide +kernel
theorem BS_93 : BS 93 = (none, 4) := by decide +kernel
theorem BS_94 : BS 94 = (some .int, 60) := by decide +kernel
theorem BS_95 : BS 95 = (some .int, 60) := by decide +kernel
theorem BS_96 : BS 96 = (some .int, 60) := by decide +kernel
theorem BS_97 : BS 97 = (some .int, 60) := by decide +kernel
theorem BS_98 : BS 98 = (some .int, 60) := by decide +kernel
theorem BS_99 : BS 99 = (some .int, 60) := by decide +kernel
theorem BS_100 : BS 100 = (some .int, 9) := by decide +kernel
theorem BS_101 : BS 101 = (some .int, 9) := by decide +kernel
theorem BS_102 : BS 102 = (some .int, 60) := by decide +kernel
theorem BS_103 : BS 103 = (some .int, 60) := by decide +kernel
theorem BS_104 : BS 104 = (some .int, 60) := by decide +kernel
theorem BS_105 : BS 105 = (none, 4) := by decide +kernel
theorem BS_106 : BS 106 = (some .int, 60) := by decide +kernel
theorem BS_107 : BS 107 = (some .int, 60) := by decide +kernel
theorem BS_108 : BS 108 = (some .int, 60) := by decide +kernel
theorem BS_109 : BS 109 = (some .int, 60) := by decide +kernel
theorem BS_110 : BS 110 = (some .int, 60) := by decide +kernel
theorem BS_111 : BS 111 = (some .int, 60) := by decide +kernel
theorem BS_112 : BS 112 = (some .int, 9) := by decide +kernel
theorem BS_113 : BS 113 = (some .int, 9) := by decide +kernel
theorem BS_114 : BS 114 = (some .int, 60) := by decide +kernel
theorem BS_115 : BS 115 = (some .int, 60) := by decide +kernel
theorem BS_116 : BS 116 = (some .int, 60) := by decide +kernel
theorem BS_117 : BS 117 = (none, 4) := by decide +kernel
theorem BS_118 : BS 118 = (some .int, 60) := by decide +kernel
theorem BS_119 : BS 119 = (some .int, 60) := by decide +kernel
theorem BS_120 : BS 120 = (some .int, 60) := by decide +kernel
theorem BS_121 : BS 121 = (some .int, 60) := by decide +kernel
theorem BS_122 : BS 122 = (some .int, 60) := by decide +kernel
theorem BS_123 : BS 123 = (some .int, 60) := by decide +kernel
theorem BS_124 : BS 124 = (some .int, 9) := by decide +kernel
theorem BS_125 : BS 125 = (some .int, 9) := by decide +kernel
theorem BS_126 : BS 126 = (some .int, 60) := by decide +kernel
theorem BS_127 : BS 127 = (some .int, 60) := by decide +kernel
theorem BS_128 : BS 128 = (some .int, 60) := by decide +kernel
theorem BS_129 : BS 129 = (none, 4) := by decide +kernel
theorem BS_130 : BS 130 = (some .int, 60) := by decide +kernel
theorem BS_131 : BS 131 = (some .int, 60) := by decide +kernel
theorem BS_132 : BS 132 = (some .int, 60) := by decide +kernel
theorem BS_133 : BS 133 = (some .int, 60) := by decide +kernel
theorem BS_134 : BS 134 = (some .int, 60) := by decide +kernel
theorem BS_135 : BS 135 = (some .int, 60) := by decide +kernel
theorem BS_136 : BS 136 = (some .int, 9) := by decide +kernel
theorem BS_137 : BS 137 = (some .int, 9) := by decide +kernel
theorem BS_138 : BS 138 = (some .int, 60) := by decide +kernel
theorem BS_139 : BS 139 = (some .int, 60) := by decide +kernel
theorem BS_140 : BS 140 = (some .int, 60) := by decide +kernel
theorem BS_141 : BS 141 = (none, 4) := by decide +kernel
theorem BS_142 : BS 142 = (some .int, 60) := by decide +kernel
theorem BS_143 : BS 143 = (some .int, 60) := by decide +kernel
theorem BS_144 : BS 144 = (some .int, 60) := by decide +kernel
theorem BS_145 : BS 145 = (some .int, 60) := by decide +kernel
theorem BS_146 : BS 146 = (some .int, 60) := by decide +kernel
theorem BS_147 : BS 147 = (some .int, 60) := by decide +kernel
theorem BS_148 : BS 148 = (some .int, 9) := by decide +kernel
theorem BS_149 : BS 149 = (some .int, 9) := by decide +kernel
theorem BS_150 : BS 150 = (some .int, 60) := by decide +kernel
theorem BS_151 : BS 151 = (some .int, 60) := by decide +kernel
theorem BS_152 : BS 152 = (some .int, 60) := by decide +kernel
theorem BS_153 : BS 153 = (none, 4) := by decide +kernel
theorem BS_154 : BS 154 = (some .int, 60) := by decide +kernel
theorem BS_155 : BS 155 = (some .int, 60) := by decide +kernel
theorem BS_156 : BS 156 = (some .int, 60) := by decide +kernel
theorem BS_157 : BS 157 = (some .int, 60) := by decide +kernel
theorem BS_158 : BS 158 = (some .int, 60) := by decide +kernel
theorem BS_159 : BS 159 = (some .int, 60) := by decide +kernel
theorem BS_160 : BS 160 = (some .int, 9) := by decide +kernel
theorem BS_161 : BS 161 = (some .int, 9) := by decide +kernel
theorem BS_162 : BS 162 = (some .int, 60) := by decide +kernel
theorem BS_163 : BS 163 = (some .int, 60) := by decide +kernel
theorem BS_164 : BS 164 = (some .int, 60) := by decide +kernel
theorem BS_165 : BS 165 = (some (.object "SkinLedger$Image"), 2) := by decide +kernel
theorem BS_166 : BS 166 = (none, 3) := by decide +kernel
theorem BS_167 : BS 167 = (none, 6) := by decide +kernel
theorem BS_168 : BS 168 = (some .long, 9) := by decide +kernel
theorem BS_169 : BS 169 = (some .int, 9) := by decide +kernel
theorem BS_170 : BS 170 = (some .int, 9) := by decide +kernel
theorem BS_171 : BS 171 = (some .long, 6) := by decide +kernel
theorem BS_172 : BS 172 = (some .int, 6) := by decide +kernel
theorem BS_173 : BS 173 = (some .int, 6) := by decide +kernel
theorem BS_174 : BS 174 = (none, 4) := by decide +kernel
theorem BS_175 : BS 175 = (some .int, 60) := by decide +kernel
theorem BS_176 : BS 176 = (some .int, 60) := by decide +kernel
theorem BS_177 : BS 177 = (some .int, 60) := by decide +kernel
theorem BS_178 : BS 178 = (some .int, 60) := by decide +kernel
theorem BS_179 : BS 179 = (some .int, 60) := by decide +kernel
theorem BS_180 : BS 180 = (some .int, 60) := by decide +kernel
theorem BS_181 : BS 181 = (some .int, 9) := by decide +kernel
theorem BS_182 : BS 182 = (some .int, 9) := by decide +kernel
theorem BS_183 : BS 183 = (some .int, 60) := by decide +kernel
theorem BS_184 : BS 184 = (some .int, 60) := by decide +kernel
theorem BS_185 : BS 185 = (some .int, 60) := by decide +kernel
theorem BS_186 : BS 186 = (none, 0) := by decide +kernel
theorem BS_187 : BS 187 = (some .int, 40) := by decide +kernel
theorem BS_188 : BS 188 = (some .int, 40) := by decide +kernel
theorem BS_189 : BS 189 = (some .int, 40) := by decide +kernel
theorem BS_190 : BS 190 = (some .int, 40) := by decide +kernel
theorem BS_191 : BS 191 = (some .int, 40) := by decide +kernel
theorem BS_192 : BS 192 = (none, 3) := by decide +kernel
theorem BS_193 : BS 193 = (none, 6) := by decide +kernel
theorem BS_194 : BS 194 = (some .long, 9) := by decide +kernel
theorem BS_195 : BS 195 = (some .int, 9) := by decide +kernel
theorem BS_196 : BS 196 = (some .int, 9) := by decide +kernel
theorem BS_197 : BS 197 = (some .long, 6) := by decide +kernel
theorem BS_198 : BS 198 = (some .int, 6) := by decide +kernel
theorem BS_199 : BS 199 = (some .int, 6) := by decide +kernel
theorem BS_200 : BS 200 = (none, 4) := by decide +kernel
theorem BS_201 : BS 201 = (some .int, 60) := by decide +kernel
theorem BS_202 : BS 202 = (some .int, 60) := by decide +kernel
theorem BS_203 : BS 203 = (some .int, 60) := by decide +kernel
theorem BS_204 : BS 204 = (some .int, 60) := by decide +kernel
theorem BS_205 : BS 205 = (some .int, 60) := by decide +kernel
theorem BS_206 : BS 206 = (some .int, 60) := by decide +kernel
theorem BS_207 : BS 207 = (some .int, 9) := by decide +kernel
theorem BS_208 : BS 208 = (some .int, 9) := by decide +kernel
theorem BS_209 : BS 209 = (some .int, 60) := by decide +kernel
theorem BS_210 : BS 210 = (some .int, 60) := by decide +kernel
theorem BS_211 : BS 211 = (some .int, 60) := by decide +kernel
theorem BS_212 : BS 212 = (none, 0) := by decide +kernel
theorem BS_213 : BS 213 = (some .int, 40) := by decide +kernel
theorem BS_214 : BS 214 = (some .int, 40) := by decide +kernel
theorem BS_215 : BS 215 = (some .int, 40) := by decide +kernel
theorem BS_216 : BS 216 = (some .int, 40) := by decide +kernel
theorem BS_217 : BS 217 = (some .int, 40) := by decide +kernel
theorem BS_218 : BS 218 = (none, 7) := by decide +kernel
theorem BS_219 : BS 219 = (some .int, 5) := by decide +kernel
theorem BS_220 : BS 220 = (some .int, 5) := by decide +kernel
theorem BS_221 : BS 221 = (some .int, 60) := by decide +kernel
theorem BS_222 : BS 222 = (some .int, 60) := by decide +kernel
theorem BS_223 : BS 223 = (some .int, 9) := by decide +kernel
theorem BS_224 : BS 224 = (some .int, 9) := by decide +kernel
theorem BS_225 : BS 225 = (none, 5) := by decide +kernel
theorem BS_226 : BS 226 = (some .int, 6) := by decide +kernel
theorem BS_227 : BS 227 = (some .int, 6) := by decide +kernel
theorem BS_228 : BS 228 = (some .int, 6) := by decide +kernel
theorem BS_229 : BS 229 = (some .int, 6) := by decide +kernel
theorem BS_230 : BS 230 = (some .int, 6) := by decide +kernel
theorem BS_231 : BS 231 = (some .int, 6) := by decide +kernel
theorem BS_232 : BS 232 = (some .int, 9) := by decide +kernel
theorem BS_233 : BS 233 = (none, 1) := by decide +kernel
theorem BS_234 : BS 234 = (some .int, 4) := by decide +kernel
theorem BS_235 : BS 235 = (some .int, 4) := by decide +kernel
theorem BS_236 : BS 236 = (some .int, 4) := by decide +kernel
theorem BS_237 : BS 237 = (some .int, 4) := by decide +kernel
theorem BS_238 : BS 238 = (some .int, 9) := by decide +kernel
theorem BS_239 : BS 239 = (some .int, 9) := by decide +kernel
theorem BS_240 : BS 240 = (none, 8) := by decide +kernel
theorem BS_241 : BS 241 = (some .int, 9) := by decide +kernel
theorem BS_242 : BS 242 = (some .int, 512) := by decide +kernel
theorem BS_243 : BS 243 = (some .int, 512) := by decide +kernel
theorem BS_244 : BS 244 = (none, 10) := by decide +kernel
theorem BS_245 : BS 245 = (some .int, 2640) := by decide +kernel
theorem BS_246 : BS 246 = (some .int, 5) := by decide +kernel
theorem BS_247 : BS 247 = (some .int, 5) := by decide +kernel
theorem BS_248 : BS 248 = (none, 12) := by decide +kernel
theorem BS_249 : BS 249 = (some .byte, 640) := by decide +kernel
theorem BS_250 : BS 250 = (some .int, 787) := by decide +kernel
theorem BS_251 : BS 251 = (some .int, 34) := by decide +kernel
theorem BS_252 : BS 252 = (some .int, 201) := by decide +kernel
theorem BS_253 : BS 253 = (some .long, 30) := by decide +kernel
theorem BS_254 : BS 254 = (some .long, 17) := by decide +kernel
theorem BS_255 : BS 255 = (some .int, 4416) := by decide +kernel
theorem BS_256 : BS 256 = (some .int, 5) := by decide +kernel
theorem BS_257 : BS 257 = (some .int, 5) := by decide +kernel
theorem BS_258 : BS 258 = (some .int, 5) := by decide +kernel
theorem BS_259 : BS 259 = (some .int, 552) := by decide +kernel
theorem BS_260 : BS 260 = (some .int, 512) := by decide +kernel
theorem BS_261 : BS 261 = (some .int, 9) := by decide +kernel
theorem BS_262 : BS 262 = (some .byte, 3600) := by decide +kernel
theorem BS_263 : BS 263 = (some .int, 5) := by decide +kernel
theorem BS_264 : BS 264 = (some .int, 18) := by decide +kernel
theorem BS_265 : BS 265 = (some .int, 18) := by decide +kernel
theorem BS_266 : BS 266 = (some .int, 6) := by decide +kernel
theorem BS_267 : BS 267 = (some .int, 6) := by decide +kernel
theorem BS_268 : BS 268 = (some .int, 6) := by decide +kernel
theorem BS_269 : BS 269 = (some .int, 9) := by decide +kernel
theorem BS_270 : BS 270 = (some .int, 4) := by decide +kernel
theorem BS_271 : BS 271 = (some .int, 4) := by decide +kernel
theorem BS_272 : BS 272 = (some .int, 4) := by decide +kernel
theorem BS_273 : BS 273 = (some .int, 9) := by decide +kernel
theorem BS_274 : BS 274 = (some .int, 9) := by decide +kernel
theorem BS_275 : BS 275 = (some .int, 1576) := by decide +kernel
theorem BS_276 : BS 276 = (some .long, 30) := by decide +kernel
theorem BS_277 : BS 277 = (some .boolean, 2) := by decide +kernel
theorem BS_278 : BS 278 = (some .long, 1) := by decide +kernel
theorem RF_2_0 {f : Nat → Option Nat} : RFd f 2 0 = some 3 := by rw [show RFd f 2 0 = RF 2 0 from rfl]; decide +kernel
theorem RF_2_1 {f : Nat → Option Nat} : RFd f 2 1 = some 5 := by rw [show RFd f 2 1 = RF 2 1 from rfl]; decide +kernel
theorem RF_2_2 {f : Nat → Option Nat} : RFd f 2 2 = some 12 := by rw [show RFd f 2 2 = RF 2 2 from rfl]; decide +kernel
theorem RF_2_3 {f : Nat → Option Nat} : RFd f 2 3 = some 19 := by rw [show RFd f 2 3 = RF 2 3 from rfl]; decide +kernel
theorem RF_2_4 {f : Nat → Option Nat} : RFd f 2 4 = some 25 := by rw [show RFd f 2 4 = RF 2 4 from rfl]; decide +kernel
theorem RF_2_5 {f : Nat → Option Nat} : RFd f 2 5 = some 31 := by rw [show RFd f 2 5 = RF 2 5 from rfl]; decide +kernel
theorem RF_2_6 {f : Nat → Option Nat} : RFd f 2 6 = some 43 := by rw [show RFd f 2 6 = RF 2 6 from rfl]; decide +kernel
theorem RF_2_7 {f : Nat → Option Nat} : RFd f 2 7 = some 55 := by rw [show RFd f 2 7 = RF 2 7 from rfl]; decide +kernel
theorem RF_2_8 {f : Nat → Option Nat} : RFd f 2 8 = some 165 := by rw [show RFd f 2 8 = RF 2 8 from rfl]; decide +kernel
theorem RF_2_9 {f : Nat → Option Nat} : RFd f 2 9 = some 218 := by rw [show RFd f 2 9 = RF 2 9 from rfl]; decide +kernel
theorem RF_2_10 {f : Nat → Option Nat} : RFd f 2 10 = some 225 := by rw [show RFd f 2 10 = RF 2 10 from rfl]; decide +kernel
theorem RF_2_11 {f : Nat → Option Nat} : RFd f 2 11 = some 233 := by rw [show RFd f 2 11 = RF 2 11 from rfl]; decide +kernel
theorem RF_2_12 {f : Nat → Option Nat} : RFd f 2 12 = some 240 := by rw [show RFd f 2 12 = RF 2 12 from rfl]; decide +kernel
theorem RF_2_13 {f : Nat → Option Nat} : RFd f 2 13 = some 244 := by rw [show RFd f 2 13 = RF 2 13 from rfl]; decide +kernel
theorem RF_2_14 {f : Nat → Option Nat} : RFd f 2 14 = some 246 := by rw [show RFd f 2 14 = RF 2 14 from rfl]; decide +kernel
theorem RF_2_16 {f : Nat → Option Nat} : RFd f 2 16 = some 247 := by rw [show RFd f 2 16 = RF 2 16 from rfl]; decide +kernel
theorem RF_3_0 {f : Nat → Option Nat} : RFd f 3 0 = some 4 := by rw [show RFd f 3 0 = RF 3 0 from rfl]; decide +kernel
theorem RF_5_0 {f : Nat → Option Nat} : RFd f 5 0 = some 6 := by rw [show RFd f 5 0 = RF 5 0 from rfl]; decide +kernel
theorem RF_5_1 {f : Nat → Option Nat} : RFd f 5 1 = some 7 := by rw [show RFd f 5 1 = RF 5 1 from rfl]; decide +kernel
theorem RF_5_2 {f : Nat → Option Nat} : RFd f 5 2 = some 8 := by rw [show RFd f 5 2 = RF 5 2 from rfl]; decide +kernel
theorem RF_5_3 {f : Nat → Option Nat} : RFd f 5 3 = some 9 := by rw [show RFd f 5 3 = RF 5 3 from rfl]; decide +kernel
theorem RF_5_4 {f : Nat → Option Nat} : RFd f 5 4 = some 10 := by rw [show RFd f 5 4 = RF 5 4 from rfl]; decide +kernel
theorem RF_5_5 {f : Nat → Option Nat} : RFd f 5 5 = some 11 := by rw [show RFd f 5 5 = RF 5 5 from rfl]; decide +kernel
theorem RF_12_0 {f : Nat → Option Nat} : RFd f 12 0 = some 13 := by rw [show RFd f 12 0 = RF 12 0 from rfl]; decide +kernel
theorem RF_12_1 {f : Nat → Option Nat} : RFd f 12 1 = some 14 := by rw [show RFd f 12 1 = RF 12 1 from rfl]; decide +kernel
theorem RF_12_2 {f : Nat → Option Nat} : RFd f 12 2 = some 15 := by rw [show RFd f 12 2 = RF 12 2 from rfl]; decide +kernel
theorem RF_12_3 {f : Nat → Option Nat} : RFd f 12 3 = some 16 := by rw [show RFd f 12 3 = RF 12 3 from rfl]; decide +kernel
theorem RF_12_4 {f : Nat → Option Nat} : RFd f 12 4 = some 17 := by rw [show RFd f 12 4 = RF 12 4 from rfl]; decide +kernel
theorem RF_12_5 {f : Nat → Option Nat} : RFd f 12 5 = some 18 := by rw [show RFd f 12 5 = RF 12 5 from rfl]; decide +kernel
theorem RF_19_1 {f : Nat → Option Nat} : RFd f 19 1 = some 20 := by rw [show RFd f 19 1 = RF 19 1 from rfl]; decide +kernel
theorem RF_19_2 {f : Nat → Option Nat} : RFd f 19 2 = some 21 := by rw [show RFd f 19 2 = RF 19 2 from rfl]; decide +kernel
theorem RF_19_3 {f : Nat → Option Nat} : RFd f 19 3 = some 22 := by rw [show RFd f 19 3 = RF 19 3 from rfl]; decide +kernel
theorem RF_19_4 {f : Nat → Option Nat} : RFd f 19 4 = some 23 := by rw [show RFd f 19 4 = RF 19 4 from rfl]; decide +kernel
theorem RF_19_5 {f : Nat → Option Nat} : RFd f 19 5 = some 24 := by rw [show RFd f 19 5 = RF 19 5 from rfl]; decide +kernel
theorem RF_25_1 {f : Nat → Option Nat} : RFd f 25 1 = some 26 := by rw [show RFd f 25 1 = RF 25 1 from rfl]; decide +kernel
theorem RF_25_2 {f : Nat → Option Nat} : RFd f 25 2 = some 27 := by rw [show RFd f 25 2 = RF 25 2 from rfl]; decide +kernel
theorem RF_25_3 {f : Nat → Option Nat} : RFd f 25 3 = some 28 := by rw [show RFd f 25 3 = RF 25 3 from rfl]; decide +kernel
theorem RF_25_4 {f : Nat → Option Nat} : RFd f 25 4 = some 29 := by rw [show RFd f 25 4 = RF 25 4 from rfl]; decide +kernel
theorem RF_25_5 {f : Nat → Option Nat} : RFd f 25 5 = some 30 := by rw [show RFd f 25 5 = RF 25 5 from rfl]; decide +kernel
theorem RF_31_0 {f : Nat → Option Nat} : RFd f 31 0 = some 32 := by rw [show RFd f 31 0 = RF 31 0 from rfl]; decide +kernel
theorem RF_31_1 {f : Nat → Option Nat} : RFd f 31 1 = some 33 := by rw [show RFd f 31 1 = RF 31 1 from rfl]; decide +kernel
theorem RF_31_2 {f : Nat → Option Nat} : RFd f 31 2 = some 34 := by rw [show RFd f 31 2 = RF 31 2 from rfl]; decide +kernel
theorem RF_31_3 {f : Nat → Option Nat} : RFd f 31 3 = some 35 := by rw [show RFd f 31 3 = RF 31 3 from rfl]; decide +kernel
theorem RF_31_4 {f : Nat → Option Nat} : RFd f 31 4 = some 36 := by rw [show RFd f 31 4 = RF 31 4 from rfl]; decide +kernel
theorem RF_31_5 {f : Nat → Option Nat} : RFd f 31 5 = some 37 := by rw [show RFd f 31 5 = RF 31 5 from rfl]; decide +kernel
theorem RF_31_6 {f : Nat → Option Nat} : RFd f 31 6 = some 38 := by rw [show RFd f 31 6 = RF 31 6 from rfl]; decide +kernel
theorem RF_31_7 {f : Nat → Option Nat} : RFd f 31 7 = some 39 := by rw [show RFd f 31 7 = RF 31 7 from rfl]; decide +kernel
theorem RF_31_8 {f : Nat → Option Nat} : RFd f 31 8 = some 5 := by rw [show RFd f 31 8 = RF 31 8 from rfl]; decide +kernel
theorem RF_31_11 {f : Nat → Option Nat} : RFd f 31 11 = some 40 := by rw [show RFd f 31 11 = RF 31 11 from rfl]; decide +kernel
theorem RF_31_12 {f : Nat → Option Nat} : RFd f 31 12 = some 41 := by rw [show RFd f 31 12 = RF 31 12 from rfl]; decide +kernel
theorem RF_31_13 {f : Nat → Option Nat} : RFd f 31 13 = some 42 := by rw [show RFd f 31 13 = RF 31 13 from rfl]; decide +kernel
theorem RF_43_0 {f : Nat → Option Nat} : RFd f 43 0 = some 44 := by rw [show RFd f 43 0 = RF 43 0 from rfl]; decide +kernel
theorem RF_43_1 {f : Nat → Option Nat} : RFd f 43 1 = some 45 := by rw [show RFd f 43 1 = RF 43 1 from rfl]; decide +kernel
theorem RF_43_2 {f : Nat → Option Nat} : RFd f 43 2 = some 46 := by rw [show RFd f 43 2 = RF 43 2 from rfl]; decide +kernel
theorem RF_43_3 {f : Nat → Option Nat} : RFd f 43 3 = some 47 := by rw [show RFd f 43 3 = RF 43 3 from rfl]; decide +kernel
theorem RF_43_4 {f : Nat → Option Nat} : RFd f 43 4 = some 48 := by rw [show RFd f 43 4 = RF 43 4 from rfl]; decide +kernel
theorem RF_43_5 {f : Nat → Option Nat} : RFd f 43 5 = some 49 := by rw [show RFd f 43 5 = RF 43 5 from rfl]; decide +kernel
theorem RF_43_6 {f : Nat → Option Nat} : RFd f 43 6 = some 50 := by rw [show RFd f 43 6 = RF 43 6 from rfl]; decide +kernel
theorem RF_43_7 {f : Nat → Option Nat} : RFd f 43 7 = some 51 := by rw [show RFd f 43 7 = RF 43 7 from rfl]; decide +kernel
theorem RF_43_8 {f : Nat → Option Nat} : RFd f 43 8 = some 5 := by rw [show RFd f 43 8 = RF 43 8 from rfl]; decide +kernel
theorem RF_43_11 {f : Nat → Option Nat} : RFd f 43 11 = some 52 := by rw [show RFd f 43 11 = RF 43 11 from rfl]; decide +kernel
theorem RF_43_12 {f : Nat → Option Nat} : RFd f 43 12 = some 53 := by rw [show RFd f 43 12 = RF 43 12 from rfl]; decide +kernel
theorem RF_43_13 {f : Nat → Option Nat} : RFd f 43 13 = some 54 := by rw [show RFd f 43 13 = RF 43 13 from rfl]; decide +kernel
theorem RF_55_0 {f : Nat → Option Nat} : RFd f 55 0 = some 56 := by rw [show RFd f 55 0 = RF 55 0 from rfl]; decide +kernel
theorem RF_56_0 {f : Nat → Option Nat} : RFd f 56 0 = some 57 := by rw [show RFd f 56 0 = RF 56 0 from rfl]; decide +kernel
theorem RF_56_1 {f : Nat → Option Nat} : RFd f 56 1 = some 69 := by rw [show RFd f 56 1 = RF 56 1 from rfl]; decide +kernel
theorem RF_56_2 {f : Nat → Option Nat} : RFd f 56 2 = some 81 := by rw [show RFd f 56 2 = RF 56 2 from rfl]; decide +kernel
theorem RF_56_3 {f : Nat → Option Nat} : RFd f 56 3 = some 93 := by rw [show RFd f 56 3 = RF 56 3 from rfl]; decide +kernel
theorem RF_56_4 {f : Nat → Option Nat} : RFd f 56 4 = some 105 := by rw [show RFd f 56 4 = RF 56 4 from rfl]; decide +kernel
theorem RF_56_5 {f : Nat → Option Nat} : RFd f 56 5 = some 117 := by rw [show RFd f 56 5 = RF 56 5 from rfl]; decide +kernel
theorem RF_56_6 {f : Nat → Option Nat} : RFd f 56 6 = some 129 := by rw [show RFd f 56 6 = RF 56 6 from rfl]; decide +kernel
theorem RF_56_7 {f : Nat → Option Nat} : RFd f 56 7 = some 141 := by rw [show RFd f 56 7 = RF 56 7 from rfl]; decide +kernel
theorem RF_56_8 {f : Nat → Option Nat} : RFd f 56 8 = some 153 := by rw [show RFd f 56 8 = RF 56 8 from rfl]; decide +kernel
theorem RF_57_0 {f : Nat → Option Nat} : RFd f 57 0 = some 58 := by rw [show RFd f 57 0 = RF 57 0 from rfl]; decide +kernel
theorem RF_57_1 {f : Nat → Option Nat} : RFd f 57 1 = some 59 := by rw [show RFd f 57 1 = RF 57 1 from rfl]; decide +kernel
theorem RF_57_2 {f : Nat → Option Nat} : RFd f 57 2 = some 60 := by rw [show RFd f 57 2 = RF 57 2 from rfl]; decide +kernel
theorem RF_57_3 {f : Nat → Option Nat} : RFd f 57 3 = some 61 := by rw [show RFd f 57 3 = RF 57 3 from rfl]; decide +kernel
theorem RF_57_4 {f : Nat → Option Nat} : RFd f 57 4 = some 62 := by rw [show RFd f 57 4 = RF 57 4 from rfl]; decide +kernel
theorem RF_57_5 {f : Nat → Option Nat} : RFd f 57 5 = some 63 := by rw [show RFd f 57 5 = RF 57 5 from rfl]; decide +kernel
theorem RF_57_6 {f : Nat → Option Nat} : RFd f 57 6 = some 64 := by rw [show RFd f 57 6 = RF 57 6 from rfl]; decide +kernel
theorem RF_57_7 {f : Nat → Option Nat} : RFd f 57 7 = some 65 := by rw [show RFd f 57 7 = RF 57 7 from rfl]; decide +kernel
theorem RF_57_8 {f : Nat → Option Nat} : RFd f 57 8 = some 5 := by rw [show RFd f 57 8 = RF 57 8 from rfl]; decide +kernel
theorem RF_57_11 {f : Nat → Option Nat} : RFd f 57 11 = some 66 := by rw [show RFd f 57 11 = RF 57 11 from rfl]; decide +kernel
theorem RF_57_12 {f : Nat → Option Nat} : RFd f 57 12 = some 67 := by rw [show RFd f 57 12 = RF 57 12 from rfl]; decide +kernel
theorem RF_57_13 {f : Nat → Option Nat} : RFd f 57 13 = some 68 := by rw [show RFd f 57 13 = RF 57 13 from rfl]; decide +kernel
theorem RF_69_0 {f : Nat → Option Nat} : RFd f 69 0 = some 70 := by rw [show RFd f 69 0 = RF 69 0 from rfl]; decide +kernel
theorem RF_69_1 {f : Nat → Option Nat} : RFd f 69 1 = some 71 := by rw [show RFd f 69 1 = RF 69 1 from rfl]; decide +kernel
theorem RF_69_2 {f : Nat → Option Nat} : RFd f 69 2 = some 72 := by rw [show RFd f 69 2 = RF 69 2 from rfl]; decide +kernel
theorem RF_69_3 {f : Nat → Option Nat} : RFd f 69 3 = some 73 := by rw [show RFd f 69 3 = RF 69 3 from rfl]; decide +kernel
theorem RF_69_4 {f : Nat → Option Nat} : RFd f 69 4 = some 74 := by rw [show RFd f 69 4 = RF 69 4 from rfl]; decide +kernel
theorem RF_69_5 {f : Nat → Option Nat} : RFd f 69 5 = some 75 := by rw [show RFd f 69 5 = RF 69 5 from rfl]; decide +kernel
theorem RF_69_6 {f : Nat → Option Nat} : RFd f 69 6 = some 76 := by rw [show RFd f 69 6 = RF 69 6 from rfl]; decide +kernel
theorem RF_69_7 {f : Nat → Option Nat} : RFd f 69 7 = some 77 := by rw [show RFd f 69 7 = RF 69 7 from rfl]; decide +kernel
theorem RF_69_8 {f : Nat → Option Nat} : RFd f 69 8 = some 5 := by rw [show RFd f 69 8 = RF 69 8 from rfl]; decide +kernel
theorem RF_69_11 {f : Nat → Option Nat} : RFd f 69 11 = some 78 := by rw [show RFd f 69 11 = RF 69 11 from rfl]; decide +kernel
theorem RF_69_12 {f : Nat → Option Nat} : RFd f 69 12 = some 79 := by rw [show RFd f 69 12 = RF 69 12 from rfl]; decide +kernel
theorem RF_69_13 {f : Nat → Option Nat} : RFd f 69 13 = some 80 := by rw [show RFd f 69 13 = RF 69 13 from rfl]; decide +kernel
theorem RF_81_0 {f : Nat → Option Nat} : RFd f 81 0 = some 82 := by rw [show RFd f 81 0 = RF 81 0 from rfl]; decide +kernel
theorem RF_81_1 {f : Nat → Option Nat} : RFd f 81 1 = some 83 := by rw [show RFd f 81 1 = RF 81 1 from rfl]; decide +kernel
theorem RF_81_2 {f : Nat → Option Nat} : RFd f 81 2 = some 84 := by rw [show RFd f 81 2 = RF 81 2 from rfl]; decide +kernel
theorem RF_81_3 {f : Nat → Option Nat} : RFd f 81 3 = some 85 := by rw [show RFd f 81 3 = RF 81 3 from rfl]; decide +kernel
theorem RF_81_4 {f : Nat → Option Nat} : RFd f 81 4 = some 86 := by rw [show RFd f 81 4 = RF 81 4 from rfl]; decide +kernel
theorem RF_81_5 {f : Nat → Option Nat} : RFd f 81 5 = some 87 := by rw [show RFd f 81 5 = RF 81 5 from rfl]; decide +kernel
theorem RF_81_6 {f : Nat → Option Nat} : RFd f 81 6 = some 88 := by rw [show RFd f 81 6 = RF 81 6 from rfl]; decide +kernel
theorem RF_81_7 {f : Nat → Option Nat} : RFd f 81 7 = some 89 := by rw [show RFd f 81 7 = RF 81 7 from rfl]; decide +kernel
theorem RF_81_8 {f : Nat → Option Nat} : RFd f 81 8 = some 5 := by rw [show RFd f 81 8 = RF 81 8 from rfl]; decide +kernel
theorem RF_81_11 {f : Nat → Option Nat} : RFd f 81 11 = some 90 := by rw [show RFd f 81 11 = RF 81 11 from rfl]; decide +kernel
theorem RF_81_12 {f : Nat → Option Nat} : RFd f 81 12 = some 91 := by rw [show RFd f 81 12 = RF 81 12 from rfl]; decide +kernel
theorem RF_81_13 {f : Nat → Option Nat} : RFd f 81 13 = some 92 := by rw [show RFd f 81 13 = RF 81 13 from rfl]; decide +kernel
theorem RF_93_0 {f : Nat → Option Nat} : RFd f 93 0 = some 94 := by rw [show RFd f 93 0 = RF 93 0 from rfl]; decide +kernel
theorem RF_93_1 {f : Nat → Option Nat} : RFd f 93 1 = some 95 := by rw [show RFd f 93 1 = RF 93 1 from rfl]; decide +kernel
theorem RF_93_2 {f : Nat → Option Nat} : RFd f 93 2 = some 96 := by rw [show RFd f 93 2 = RF 93 2 from rfl]; decide +kernel
theorem RF_93_3 {f : Nat → Option Nat} : RFd f 93 3 = some 97 := by rw [show RFd f 93 3 = RF 93 3 from rfl]; decide +kernel
theorem RF_93_4 {f : Nat → Option Nat} : RFd f 93 4 = some 98 := by rw [show RFd f 93 4 = RF 93 4 from rfl]; decide +kernel
theorem RF_93_5 {f : Nat → Option Nat} : RFd f 93 5 = some 99 := by rw [show RFd f 93 5 = RF 93 5 from rfl]; decide +kernel
theorem RF_93_6 {f : Nat → Option Nat} : RFd f 93 6 = some 100 := by rw [show RFd f 93 6 = RF 93 6 from rfl]; decide +kernel
theorem RF_93_7 {f : Nat → Option Nat} : RFd f 93 7 = some 101 := by rw [show RFd f 93 7 = RF 93 7 from rfl]; decide +kernel
theorem RF_93_8 {f : Nat → Option Nat} : RFd f 93 8 = some 5 := by rw [show RFd f 93 8 = RF 93 8 from rfl]; decide +kernel
theorem RF_93_11 {f : Nat → Option Nat} : RFd f 93 11 = some 102 := by rw [show RFd f 93 11 = RF 93 11 from rfl]; decide +kernel
theorem RF_93_12 {f : Nat → Option Nat} : RFd f 93 12 = some 103 := by rw [show RFd f 93 12 = RF 93 12 from rfl]; decide +kernel
theorem RF_93_13 {f : Nat → Option Nat} : RFd f 93 13 = some 104 := by rw [show RFd f 93 13 = RF 93 13 from rfl]; decide +kernel
theorem RF_105_0 {f : Nat → Option Nat} : RFd f 105 0 = some 106 := by rw [show RFd f 105 0 = RF 105 0 from rfl]; decide +kernel
theorem RF_105_1 {f : Nat → Option Nat} : RFd f 105 1 = some 107 := by rw [show RFd f 105 1 = RF 105 1 from rfl]; decide +kernel
theorem RF_105_2 {f : Nat → Option Nat} : RFd f 105 2 = some 108 := by rw [show RFd f 105 2 = RF 105 2 from rfl]; decide +kernel
theorem RF_105_3 {f : Nat → Option Nat} : RFd f 105 3 = some 109 := by rw [show RFd f 105 3 = RF 105 3 from rfl]; decide +kernel
theorem RF_105_4 {f : Nat → Option Nat} : RFd f 105 4 = some 110 := by rw [show RFd f 105 4 = RF 105 4 from rfl]; decide +kernel
theorem RF_105_5 {f : Nat → Option Nat} : RFd f 105 5 = some 111 := by rw [show RFd f 105 5 = RF 105 5 from rfl]; decide +kernel
theorem RF_105_6 {f : Nat → Option Nat} : RFd f 105 6 = some 112 := by rw [show RFd f 105 6 = RF 105 6 from rfl]; decide +kernel
theorem RF_105_7 {f : Nat → Option Nat} : RFd f 105 7 = some 113 := by rw [show RFd f 105 7 = RF 105 7 from rfl]; decide +kernel
theorem RF_105_8 {f : Nat → Option Nat} : RFd f 105 8 = some 5 := by rw [show RFd f 105 8 = RF 105 8 from rfl]; decide +kernel
theorem RF_105_11 {f : Nat → Option Nat} : RFd f 105 11 = some 114 := by rw [show RFd f 105 11 = RF 105 11 from rfl]; decide +kernel
theorem RF_105_12 {f : Nat → Option Nat} : RFd f 105 12 = some 115 := by rw [show RFd f 105 12 = RF 105 12 from rfl]; decide +kernel
theorem RF_105_13 {f : Nat → Option Nat} : RFd f 105 13 = some 116 := by rw [show RFd f 105 13 = RF 105 13 from rfl]; decide +kernel
theorem RF_117_0 {f : Nat → Option Nat} : RFd f 117 0 = some 118 := by rw [show RFd f 117 0 = RF 117 0 from rfl]; decide +kernel
theorem RF_117_1 {f : Nat → Option Nat} : RFd f 117 1 = some 119 := by rw [show RFd f 117 1 = RF 117 1 from rfl]; decide +kernel
theorem RF_117_2 {f : Nat → Option Nat} : RFd f 117 2 = some 120 := by rw [show RFd f 117 2 = RF 117 2 from rfl]; decide +kernel
theorem RF_117_3 {f : Nat → Option Nat} : RFd f 117 3 = some 121 := by rw [show RFd f 117 3 = RF 117 3 from rfl]; decide +kernel
theorem RF_117_4 {f : Nat → Option Nat} : RFd f 117 4 = some 122 := by rw [show RFd f 117 4 = RF 117 4 from rfl]; decide +kernel
theorem RF_117_5 {f : Nat → Option Nat} : RFd f 117 5 = some 123 := by rw [show RFd f 117 5 = RF 117 5 from rfl]; decide +kernel
theorem RF_117_6 {f : Nat → Option Nat} : RFd f 117 6 = some 124 := by rw [show RFd f 117 6 = RF 117 6 from rfl]; decide +kernel
theorem RF_117_7 {f : Nat → Option Nat} : RFd f 117 7 = some 125 := by rw [show RFd f 117 7 = RF 117 7 from rfl]; decide +kernel
theorem RF_117_8 {f : Nat → Option Nat} : RFd f 117 8 = some 5 := by rw [show RFd f 117 8 = RF 117 8 from rfl]; decide +kernel
theorem RF_117_11 {f : Nat → Option Nat} : RFd f 117 11 = some 126 := by rw [show RFd f 117 11 = RF 117 11 from rfl]; decide +kernel
theorem RF_117_12 {f : Nat → Option Nat} : RFd f 117 12 = some 127 := by rw [show RFd f 117 12 = RF 117 12 from rfl]; decide +kernel
theorem RF_117_13 {f : Nat → Option Nat} : RFd f 117 13 = some 128 := by rw [show RFd f 117 13 = RF 117 13 from rfl]; decide +kernel
theorem RF_129_0 {f : Nat → Option Nat} : RFd f 129 0 = some 130 := by rw [show RFd f 129 0 = RF 129 0 from rfl]; decide +kernel
theorem RF_129_1 {f : Nat → Option Nat} : RFd f 129 1 = some 131 := by rw [show RFd f 129 1 = RF 129 1 from rfl]; decide +kernel
theorem RF_129_2 {f : Nat → Option Nat} : RFd f 129 2 = some 132 := by rw [show RFd f 129 2 = RF 129 2 from rfl]; decide +kernel
theorem RF_129_3 {f : Nat → Option Nat} : RFd f 129 3 = some 133 := by rw [show RFd f 129 3 = RF 129 3 from rfl]; decide +kernel
theorem RF_129_4 {f : Nat → Option Nat} : RFd f 129 4 = some 134 := by rw [show RFd f 129 4 = RF 129 4 from rfl]; decide +kernel
theorem RF_129_5 {f : Nat → Option Nat} : RFd f 129 5 = some 135 := by rw [show RFd f 129 5 = RF 129 5 from rfl]; decide +kernel
theorem RF_129_6 {f : Nat → Option Nat} : RFd f 129 6 = some 136 := by rw [show RFd f 129 6 = RF 129 6 from rfl]; decide +kernel
theorem RF_129_7 {f : Nat → Option Nat} : RFd f 129 7 = some 137 := by rw [show RFd f 129 7 = RF 129 7 from rfl]; decide +kernel
theorem RF_129_8 {f : Nat → Option Nat} : RFd f 129 8 = some 5 := by rw [show RFd f 129 8 = RF 129 8 from rfl]; decide +kernel
theorem RF_129_11 {f : Nat → Option Nat} : RFd f 129 11 = some 138 := by rw [show RFd f 129 11 = RF 129 11 from rfl]; decide +kernel
theorem RF_129_12 {f : Nat → Option Nat} : RFd f 129 12 = some 139 := by rw [show RFd f 129 12 = RF 129 12 from rfl]; decide +kernel
theorem RF_129_13 {f : Nat → Option Nat} : RFd f 129 13 = some 140 := by rw [show RFd f 129 13 = RF 129 13 from rfl]; decide +kernel
theorem RF_141_0 {f : Nat → Option Nat} : RFd f 141 0 = some 142 := by rw [show RFd f 141 0 = RF 141 0 from rfl]; decide +kernel
theorem RF_141_1 {f : Nat → Option Nat} : RFd f 141 1 = some 143 := by rw [show RFd f 141 1 = RF 141 1 from rfl]; decide +kernel
theorem RF_141_2 {f : Nat → Option Nat} : RFd f 141 2 = some 144 := by rw [show RFd f 141 2 = RF 141 2 from rfl]; decide +kernel
theorem RF_141_3 {f : Nat → Option Nat} : RFd f 141 3 = some 145 := by rw [show RFd f 141 3 = RF 141 3 from rfl]; decide +kernel
theorem RF_141_4 {f : Nat → Option Nat} : RFd f 141 4 = some 146 := by rw [show RFd f 141 4 = RF 141 4 from rfl]; decide +kernel
theorem RF_141_5 {f : Nat → Option Nat} : RFd f 141 5 = some 147 := by rw [show RFd f 141 5 = RF 141 5 from rfl]; decide +kernel
theorem RF_141_6 {f : Nat → Option Nat} : RFd f 141 6 = some 148 := by rw [show RFd f 141 6 = RF 141 6 from rfl]; decide +kernel
theorem RF_141_7 {f : Nat → Option Nat} : RFd f 141 7 = some 149 := by rw [show RFd f 141 7 = RF 141 7 from rfl]; decide +kernel
theorem RF_141_8 {f : Nat → Option Nat} : RFd f 141 8 = some 5 := by rw [show RFd f 141 8 = RF 141 8 from rfl]; decide +kernel
theorem RF_141_11 {f : Nat → Option Nat} : RFd f 141 11 = some 150 := by rw [show RFd f 141 11 = RF 141 11 from rfl]; decide +kernel
theorem RF_141_12 {f : Nat → Option Nat} : RFd f 141 12 = some 151 := by rw [show RFd f 141 12 = RF 141 12 from rfl]; decide +kernel
theorem RF_141_13 {f : Nat → Option Nat} : RFd f 141 13 = some 152 := by rw [show RFd f 141 13 = RF 141 13 from rfl]; decide +kernel
theorem RF_153_0 {f : Nat → Option Nat} : RFd f 153 0 = some 154 := by rw [show RFd f 153 0 = RF 153 0 from rfl]; decide +kernel
theorem RF_153_1 {f : Nat → Option Nat} : RFd f 153 1 = some 155 := by rw [show RFd f 153 1 = RF 153 1 from rfl]; decide +kernel
theorem RF_153_2 {f : Nat → Option Nat} : RFd f 153 2 = some 156 := by rw [show RFd f 153 2 = RF 153 2 from rfl]; decide +kernel
theorem RF_153_3 {f : Nat → Option Nat} : RFd f 153 3 = some 157 := by rw [show RFd f 153 3 = RF 153 3 from rfl]; decide +kernel
theorem RF_153_4 {f : Nat → Option Nat} : RFd f 153 4 = some 158 := by rw [show RFd f 153 4 = RF 153 4 from rfl]; decide +kernel
theorem RF_153_5 {f : Nat → Option Nat} : RFd f 153 5 = some 159 := by rw [show RFd f 153 5 = RF 153 5 from rfl]; decide +kernel
theorem RF_153_6 {f : Nat → Option Nat} : RFd f 153 6 = some 160 := by rw [show RFd f 153 6 = RF 153 6 from rfl]; decide +kernel
theorem RF_153_7 {f : Nat → Option Nat} : RFd f 153 7 = some 161 := by rw [show RFd f 153 7 = RF 153 7 from rfl]; decide +kernel
theorem RF_153_8 {f : Nat → Option Nat} : RFd f 153 8 = some 5 := by rw [show RFd f 153 8 = RF 153 8 from rfl]; decide +kernel
theorem RF_153_11 {f : Nat → Option Nat} : RFd f 153 11 = some 162 := by rw [show RFd f 153 11 = RF 153 11 from rfl]; decide +kernel
theorem RF_153_12 {f : Nat → Option Nat} : RFd f 153 12 = some 163 := by rw [show RFd f 153 12 = RF 153 12 from rfl]; decide +kernel
theorem RF_153_13 {f : Nat → Option Nat} : RFd f 153 13 = some 164 := by rw [show RFd f 153 13 = RF 153 13 from rfl]; decide +kernel
theorem RF_165_0 {f : Nat → Option Nat} : RFd f 165 0 = some 166 := by rw [show RFd f 165 0 = RF 165 0 from rfl]; decide +kernel
theorem RF_165_1 {f : Nat → Option Nat} : RFd f 165 1 = some 192 := by rw [show RFd f 165 1 = RF 165 1 from rfl]; decide +kernel
theorem RF_166_1 {f : Nat → Option Nat} : RFd f 166 1 = some 167 := by rw [show RFd f 166 1 = RF 166 1 from rfl]; decide +kernel
theorem RF_166_2 {f : Nat → Option Nat} : RFd f 166 2 = some 174 := by rw [show RFd f 166 2 = RF 166 2 from rfl]; decide +kernel
theorem RF_166_3 {f : Nat → Option Nat} : RFd f 166 3 = some 186 := by rw [show RFd f 166 3 = RF 166 3 from rfl]; decide +kernel
theorem RF_167_0 {f : Nat → Option Nat} : RFd f 167 0 = some 168 := by rw [show RFd f 167 0 = RF 167 0 from rfl]; decide +kernel
theorem RF_167_1 {f : Nat → Option Nat} : RFd f 167 1 = some 169 := by rw [show RFd f 167 1 = RF 167 1 from rfl]; decide +kernel
theorem RF_167_2 {f : Nat → Option Nat} : RFd f 167 2 = some 170 := by rw [show RFd f 167 2 = RF 167 2 from rfl]; decide +kernel
theorem RF_167_3 {f : Nat → Option Nat} : RFd f 167 3 = some 171 := by rw [show RFd f 167 3 = RF 167 3 from rfl]; decide +kernel
theorem RF_167_4 {f : Nat → Option Nat} : RFd f 167 4 = some 172 := by rw [show RFd f 167 4 = RF 167 4 from rfl]; decide +kernel
theorem RF_167_5 {f : Nat → Option Nat} : RFd f 167 5 = some 173 := by rw [show RFd f 167 5 = RF 167 5 from rfl]; decide +kernel
theorem RF_174_0 {f : Nat → Option Nat} : RFd f 174 0 = some 175 := by rw [show RFd f 174 0 = RF 174 0 from rfl]; decide +kernel
theorem RF_174_1 {f : Nat → Option Nat} : RFd f 174 1 = some 176 := by rw [show RFd f 174 1 = RF 174 1 from rfl]; decide +kernel
theorem RF_174_2 {f : Nat → Option Nat} : RFd f 174 2 = some 177 := by rw [show RFd f 174 2 = RF 174 2 from rfl]; decide +kernel
theorem RF_174_3 {f : Nat → Option Nat} : RFd f 174 3 = some 178 := by rw [show RFd f 174 3 = RF 174 3 from rfl]; decide +kernel
theorem RF_174_4 {f : Nat → Option Nat} : RFd f 174 4 = some 179 := by rw [show RFd f 174 4 = RF 174 4 from rfl]; decide +kernel
theorem RF_174_5 {f : Nat → Option Nat} : RFd f 174 5 = some 180 := by rw [show RFd f 174 5 = RF 174 5 from rfl]; decide +kernel
theorem RF_174_6 {f : Nat → Option Nat} : RFd f 174 6 = some 181 := by rw [show RFd f 174 6 = RF 174 6 from rfl]; decide +kernel
theorem RF_174_7 {f : Nat → Option Nat} : RFd f 174 7 = some 182 := by rw [show RFd f 174 7 = RF 174 7 from rfl]; decide +kernel
theorem RF_174_8 {f : Nat → Option Nat} : RFd f 174 8 = some 167 := by rw [show RFd f 174 8 = RF 174 8 from rfl]; decide +kernel
theorem RF_174_11 {f : Nat → Option Nat} : RFd f 174 11 = some 183 := by rw [show RFd f 174 11 = RF 174 11 from rfl]; decide +kernel
theorem RF_174_12 {f : Nat → Option Nat} : RFd f 174 12 = some 184 := by rw [show RFd f 174 12 = RF 174 12 from rfl]; decide +kernel
theorem RF_174_13 {f : Nat → Option Nat} : RFd f 174 13 = some 185 := by rw [show RFd f 174 13 = RF 174 13 from rfl]; decide +kernel
theorem RF_186_1 {f : Nat → Option Nat} : RFd f 186 1 = some 187 := by rw [show RFd f 186 1 = RF 186 1 from rfl]; decide +kernel
theorem RF_186_2 {f : Nat → Option Nat} : RFd f 186 2 = some 188 := by rw [show RFd f 186 2 = RF 186 2 from rfl]; decide +kernel
theorem RF_186_3 {f : Nat → Option Nat} : RFd f 186 3 = some 189 := by rw [show RFd f 186 3 = RF 186 3 from rfl]; decide +kernel
theorem RF_186_4 {f : Nat → Option Nat} : RFd f 186 4 = some 190 := by rw [show RFd f 186 4 = RF 186 4 from rfl]; decide +kernel
theorem RF_186_5 {f : Nat → Option Nat} : RFd f 186 5 = some 191 := by rw [show RFd f 186 5 = RF 186 5 from rfl]; decide +kernel
theorem RF_192_1 {f : Nat → Option Nat} : RFd f 192 1 = some 193 := by rw [show RFd f 192 1 = RF 192 1 from rfl]; decide +kernel
theorem RF_192_2 {f : Nat → Option Nat} : RFd f 192 2 = some 200 := by rw [show RFd f 192 2 = RF 192 2 from rfl]; decide +kernel
theorem RF_192_3 {f : Nat → Option Nat} : RFd f 192 3 = some 212 := by rw [show RFd f 192 3 = RF 192 3 from rfl]; decide +kernel
theorem RF_193_0 {f : Nat → Option Nat} : RFd f 193 0 = some 194 := by rw [show RFd f 193 0 = RF 193 0 from rfl]; decide +kernel
theorem RF_193_1 {f : Nat → Option Nat} : RFd f 193 1 = some 195 := by rw [show RFd f 193 1 = RF 193 1 from rfl]; decide +kernel
theorem RF_193_2 {f : Nat → Option Nat} : RFd f 193 2 = some 196 := by rw [show RFd f 193 2 = RF 193 2 from rfl]; decide +kernel
theorem RF_193_3 {f : Nat → Option Nat} : RFd f 193 3 = some 197 := by rw [show RFd f 193 3 = RF 193 3 from rfl]; decide +kernel
theorem RF_193_4 {f : Nat → Option Nat} : RFd f 193 4 = some 198 := by rw [show RFd f 193 4 = RF 193 4 from rfl]; decide +kernel
theorem RF_193_5 {f : Nat → Option Nat} : RFd f 193 5 = some 199 := by rw [show RFd f 193 5 = RF 193 5 from rfl]; decide +kernel
theorem RF_200_0 {f : Nat → Option Nat} : RFd f 200 0 = some 201 := by rw [show RFd f 200 0 = RF 200 0 from rfl]; decide +kernel
theorem RF_200_1 {f : Nat → Option Nat} : RFd f 200 1 = some 202 := by rw [show RFd f 200 1 = RF 200 1 from rfl]; decide +kernel
theorem RF_200_2 {f : Nat → Option Nat} : RFd f 200 2 = some 203 := by rw [show RFd f 200 2 = RF 200 2 from rfl]; decide +kernel
theorem RF_200_3 {f : Nat → Option Nat} : RFd f 200 3 = some 204 := by rw [show RFd f 200 3 = RF 200 3 from rfl]; decide +kernel
theorem RF_200_4 {f : Nat → Option Nat} : RFd f 200 4 = some 205 := by rw [show RFd f 200 4 = RF 200 4 from rfl]; decide +kernel
theorem RF_200_5 {f : Nat → Option Nat} : RFd f 200 5 = some 206 := by rw [show RFd f 200 5 = RF 200 5 from rfl]; decide +kernel
theorem RF_200_6 {f : Nat → Option Nat} : RFd f 200 6 = some 207 := by rw [show RFd f 200 6 = RF 200 6 from rfl]; decide +kernel
theorem RF_200_7 {f : Nat → Option Nat} : RFd f 200 7 = some 208 := by rw [show RFd f 200 7 = RF 200 7 from rfl]; decide +kernel
theorem RF_200_8 {f : Nat → Option Nat} : RFd f 200 8 = some 193 := by rw [show RFd f 200 8 = RF 200 8 from rfl]; decide +kernel
theorem RF_200_11 {f : Nat → Option Nat} : RFd f 200 11 = some 209 := by rw [show RFd f 200 11 = RF 200 11 from rfl]; decide +kernel
theorem RF_200_12 {f : Nat → Option Nat} : RFd f 200 12 = some 210 := by rw [show RFd f 200 12 = RF 200 12 from rfl]; decide +kernel
theorem RF_200_13 {f : Nat → Option Nat} : RFd f 200 13 = some 211 := by rw [show RFd f 200 13 = RF 200 13 from rfl]; decide +kernel
theorem RF_212_1 {f : Nat → Option Nat} : RFd f 212 1 = some 213 := by rw [show RFd f 212 1 = RF 212 1 from rfl]; decide +kernel
theorem RF_212_2 {f : Nat → Option Nat} : RFd f 212 2 = some 214 := by rw [show RFd f 212 2 = RF 212 2 from rfl]; decide +kernel
theorem RF_212_3 {f : Nat → Option Nat} : RFd f 212 3 = some 215 := by rw [show RFd f 212 3 = RF 212 3 from rfl]; decide +kernel
theorem RF_212_4 {f : Nat → Option Nat} : RFd f 212 4 = some 216 := by rw [show RFd f 212 4 = RF 212 4 from rfl]; decide +kernel
theorem RF_212_5 {f : Nat → Option Nat} : RFd f 212 5 = some 217 := by rw [show RFd f 212 5 = RF 212 5 from rfl]; decide +kernel
theorem RF_218_0 {f : Nat → Option Nat} : RFd f 218 0 = some 219 := by rw [show RFd f 218 0 = RF 218 0 from rfl]; decide +kernel
theorem RF_218_5 {f : Nat → Option Nat} : RFd f 218 5 = some 220 := by rw [show RFd f 218 5 = RF 218 5 from rfl]; decide +kernel
theorem RF_218_6 {f : Nat → Option Nat} : RFd f 218 6 = some 221 := by rw [show RFd f 218 6 = RF 218 6 from rfl]; decide +kernel
theorem RF_218_8 {f : Nat → Option Nat} : RFd f 218 8 = some 222 := by rw [show RFd f 218 8 = RF 218 8 from rfl]; decide +kernel
theorem RF_218_9 {f : Nat → Option Nat} : RFd f 218 9 = some 223 := by rw [show RFd f 218 9 = RF 218 9 from rfl]; decide +kernel
theorem RF_218_10 {f : Nat → Option Nat} : RFd f 218 10 = some 224 := by rw [show RFd f 218 10 = RF 218 10 from rfl]; decide +kernel
theorem RF_225_2 {f : Nat → Option Nat} : RFd f 225 2 = some 226 := by rw [show RFd f 225 2 = RF 225 2 from rfl]; decide +kernel
theorem RF_225_3 {f : Nat → Option Nat} : RFd f 225 3 = some 227 := by rw [show RFd f 225 3 = RF 225 3 from rfl]; decide +kernel
theorem RF_225_4 {f : Nat → Option Nat} : RFd f 225 4 = some 228 := by rw [show RFd f 225 4 = RF 225 4 from rfl]; decide +kernel
theorem RF_225_5 {f : Nat → Option Nat} : RFd f 225 5 = some 229 := by rw [show RFd f 225 5 = RF 225 5 from rfl]; decide +kernel
theorem RF_225_6 {f : Nat → Option Nat} : RFd f 225 6 = some 230 := by rw [show RFd f 225 6 = RF 225 6 from rfl]; decide +kernel
theorem RF_225_7 {f : Nat → Option Nat} : RFd f 225 7 = some 231 := by rw [show RFd f 225 7 = RF 225 7 from rfl]; decide +kernel
theorem RF_225_8 {f : Nat → Option Nat} : RFd f 225 8 = some 232 := by rw [show RFd f 225 8 = RF 225 8 from rfl]; decide +kernel
theorem RF_233_0 {f : Nat → Option Nat} : RFd f 233 0 = some 234 := by rw [show RFd f 233 0 = RF 233 0 from rfl]; decide +kernel
theorem RF_233_1 {f : Nat → Option Nat} : RFd f 233 1 = some 235 := by rw [show RFd f 233 1 = RF 233 1 from rfl]; decide +kernel
theorem RF_233_2 {f : Nat → Option Nat} : RFd f 233 2 = some 236 := by rw [show RFd f 233 2 = RF 233 2 from rfl]; decide +kernel
theorem RF_233_3 {f : Nat → Option Nat} : RFd f 233 3 = some 237 := by rw [show RFd f 233 3 = RF 233 3 from rfl]; decide +kernel
theorem RF_233_4 {f : Nat → Option Nat} : RFd f 233 4 = some 238 := by rw [show RFd f 233 4 = RF 233 4 from rfl]; decide +kernel
theorem RF_233_5 {f : Nat → Option Nat} : RFd f 233 5 = some 239 := by rw [show RFd f 233 5 = RF 233 5 from rfl]; decide +kernel
theorem RF_240_0 {f : Nat → Option Nat} : RFd f 240 0 = some 241 := by rw [show RFd f 240 0 = RF 240 0 from rfl]; decide +kernel
theorem RF_240_1 {f : Nat → Option Nat} : RFd f 240 1 = some 242 := by rw [show RFd f 240 1 = RF 240 1 from rfl]; decide +kernel
theorem RF_240_2 {f : Nat → Option Nat} : RFd f 240 2 = some 243 := by rw [show RFd f 240 2 = RF 240 2 from rfl]; decide +kernel
theorem RF_244_1 {f : Nat → Option Nat} : RFd f 244 1 = some 245 := by rw [show RFd f 244 1 = RF 244 1 from rfl]; decide +kernel
theorem RF_248_1 {f : Nat → Option Nat} : RFd f 248 1 = some 249 := by rw [show RFd f 248 1 = RF 248 1 from rfl]; decide +kernel
theorem RF_248_6 {f : Nat → Option Nat} : RFd f 248 6 = some 250 := by rw [show RFd f 248 6 = RF 248 6 from rfl]; decide +kernel
theorem RF_248_7 {f : Nat → Option Nat} : RFd f 248 7 = some 251 := by rw [show RFd f 248 7 = RF 248 7 from rfl]; decide +kernel
theorem RF_248_8 {f : Nat → Option Nat} : RFd f 248 8 = some 252 := by rw [show RFd f 248 8 = RF 248 8 from rfl]; decide +kernel
theorem RF_248_9 {f : Nat → Option Nat} : RFd f 248 9 = some 253 := by rw [show RFd f 248 9 = RF 248 9 from rfl]; decide +kernel
theorem RF_248_10 {f : Nat → Option Nat} : RFd f 248 10 = some 254 := by rw [show RFd f 248 10 = RF 248 10 from rfl]; decide +kernel
theorem RF_248_24 {f : Nat → Option Nat} : RFd f 248 24 = some 255 := by rw [show RFd f 248 24 = RF 248 24 from rfl]; decide +kernel
theorem RF_248_26 {f : Nat → Option Nat} : RFd f 248 26 = some 256 := by rw [show RFd f 248 26 = RF 248 26 from rfl]; decide +kernel
theorem RF_248_27 {f : Nat → Option Nat} : RFd f 248 27 = some 257 := by rw [show RFd f 248 27 = RF 248 27 from rfl]; decide +kernel
theorem RF_248_28 {f : Nat → Option Nat} : RFd f 248 28 = some 258 := by rw [show RFd f 248 28 = RF 248 28 from rfl]; decide +kernel
theorem RF_248_31 {f : Nat → Option Nat} : RFd f 248 31 = some 259 := by rw [show RFd f 248 31 = RF 248 31 from rfl]; decide +kernel
theorem RF_248_32 {f : Nat → Option Nat} : RFd f 248 32 = some 260 := by rw [show RFd f 248 32 = RF 248 32 from rfl]; decide +kernel
theorem RF_248_33 {f : Nat → Option Nat} : RFd f 248 33 = some 261 := by rw [show RFd f 248 33 = RF 248 33 from rfl]; decide +kernel
theorem RF_248_34 {f : Nat → Option Nat} : RFd f 248 34 = some 262 := by rw [show RFd f 248 34 = RF 248 34 from rfl]; decide +kernel
theorem RF_248_37 {f : Nat → Option Nat} : RFd f 248 37 = some 263 := by rw [show RFd f 248 37 = RF 248 37 from rfl]; decide +kernel
theorem RF_248_39 {f : Nat → Option Nat} : RFd f 248 39 = some 264 := by rw [show RFd f 248 39 = RF 248 39 from rfl]; decide +kernel
theorem RF_248_40 {f : Nat → Option Nat} : RFd f 248 40 = some 265 := by rw [show RFd f 248 40 = RF 248 40 from rfl]; decide +kernel
theorem RF_248_41 {f : Nat → Option Nat} : RFd f 248 41 = some 266 := by rw [show RFd f 248 41 = RF 248 41 from rfl]; decide +kernel
theorem RF_248_42 {f : Nat → Option Nat} : RFd f 248 42 = some 267 := by rw [show RFd f 248 42 = RF 248 42 from rfl]; decide +kernel
theorem RF_248_43 {f : Nat → Option Nat} : RFd f 248 43 = some 268 := by rw [show RFd f 248 43 = RF 248 43 from rfl]; decide +kernel
theorem RF_248_44 {f : Nat → Option Nat} : RFd f 248 44 = some 269 := by rw [show RFd f 248 44 = RF 248 44 from rfl]; decide +kernel
theorem RF_248_48 {f : Nat → Option Nat} : RFd f 248 48 = some 270 := by rw [show RFd f 248 48 = RF 248 48 from rfl]; decide +kernel
theorem RF_248_49 {f : Nat → Option Nat} : RFd f 248 49 = some 271 := by rw [show RFd f 248 49 = RF 248 49 from rfl]; decide +kernel
theorem RF_248_50 {f : Nat → Option Nat} : RFd f 248 50 = some 272 := by rw [show RFd f 248 50 = RF 248 50 from rfl]; decide +kernel
theorem RF_248_51 {f : Nat → Option Nat} : RFd f 248 51 = some 273 := by rw [show RFd f 248 51 = RF 248 51 from rfl]; decide +kernel
theorem RF_248_52 {f : Nat → Option Nat} : RFd f 248 52 = some 274 := by rw [show RFd f 248 52 = RF 248 52 from rfl]; decide +kernel
theorem RF_248_55 {f : Nat → Option Nat} : RFd f 248 55 = some 275 := by rw [show RFd f 248 55 = RF 248 55 from rfl]; decide +kernel
theorem RF_248_56 {f : Nat → Option Nat} : RFd f 248 56 = some 276 := by rw [show RFd f 248 56 = RF 248 56 from rfl]; decide +kernel
theorem RF_248_57 {f : Nat → Option Nat} : RFd f 248 57 = some 277 := by rw [show RFd f 248 57 = RF 248 57 from rfl]; decide +kernel
theorem RF_218_4 {f : Nat → Option Nat} : RFd f 218 4 = f 0 := rfl
theorem RF_225_10 {f : Nat → Option Nat} : RFd f 225 10 = f 1 := rfl
theorem RF_233_11 {f : Nat → Option Nat} : RFd f 233 11 = f 2 := rfl
theorem ct_0_0 : CFT 0 0 = .int := rfl
theorem ct_0_1 : CFT 0 1 = .array .int := rfl
theorem ct_0_2 : CFT 0 2 = .array .int := rfl
theorem ct_0_3 : CFT 0 3 = .array .int := rfl
theorem ct_0_4 : CFT 0 4 = .array .int := rfl
theorem ct_0_5 : CFT 0 5 = .array .int := rfl
theorem hci_0 : ∃ T N, vwCl[0]? = some (RX0, T, N) := ⟨_, _, rfl⟩
theorem ct_1_0 : CFT 1 0 = .array .int := rfl
theorem ct_1_1 : CFT 1 1 = .array .int := rfl
theorem ct_1_2 : CFT 1 2 = .array .int := rfl
theorem ct_1_3 : CFT 1 3 = .array .int := rfl
theorem ct_1_4 : CFT 1 4 = .array .int := rfl
theorem ct_1_5 : CFT 1 5 = .array .int := rfl
theorem ct_1_6 : CFT 1 6 = .int := rfl
theorem ct_1_7 : CFT 1 7 = .int := rfl
theorem ct_1_8 : CFT 1 8 = .int := rfl
theorem ct_1_9 : CFT 1 9 = .int := rfl
theorem ct_1_10 : CFT 1 10 = .boolean := rfl
theorem ct_1_11 : CFT 1 11 = (.object "SkinLedger$Ledger") := rfl
theorem hci_1 : ∃ T N, vwCl[1]? = some (RX1, T, N) := ⟨_, _, rfl⟩
theorem ct_2_0 : CFT 2 0 = .array (.object "SkinLedger$Ledger") := rfl
theorem ct_2_1 : CFT 2 1 = .int := rfl
theorem ct_2_2 : CFT 2 2 = .int := rfl
theorem hci_2 : ∃ T N, vwCl[2]? = some (RX2, T, N) := ⟨_, _, rfl⟩
theorem ct_3_0 : CFT 3 0 = .boolean := rfl
theorem ct_3_1 : CFT 3 1 = (.object "SkinLedger$Port") := rfl
theorem ct_3_2 : CFT 3 2 = (.object "SkinLedger$Ledger") := rfl
theorem ct_3_3 : CFT 3 3 = (.object "SkinLedger$Book") := rfl
theorem hci_3 : ∃ T N, vwCl[3]? = some (RX3, T, N) := ⟨_, _, rfl⟩
theorem ct_4_0 : CFT 4 0 = .array .int := rfl
theorem ct_4_1 : CFT 4 1 = .array .int := rfl
theorem ct_4_2 : CFT 4 2 = .array .int := rfl
theorem ct_4_3 : CFT 4 3 = .array .int := rfl
theorem ct_4_4 : CFT 4 4 = .array .int := rfl
theorem ct_4_5 : CFT 4 5 = .array .int := rfl
theorem ct_4_6 : CFT 4 6 = .array .int := rfl
theorem ct_4_7 : CFT 4 7 = .array .int := rfl
theorem ct_4_8 : CFT 4 8 = (.object "SkinLedger$Port") := rfl
theorem ct_4_9 : CFT 4 9 = .int := rfl
theorem ct_4_10 : CFT 4 10 = .int := rfl
theorem ct_4_11 : CFT 4 11 = .array .int := rfl
theorem ct_4_12 : CFT 4 12 = .array .int := rfl
theorem ct_4_13 : CFT 4 13 = .array .int := rfl
theorem ct_4_14 : CFT 4 14 = .int := rfl
theorem hci_4 : ∃ T N, vwCl[4]? = some (RX4, T, N) := ⟨_, _, rfl⟩
theorem ct_5_0 : CFT 5 0 = .int := rfl
theorem ct_5_1 : CFT 5 1 = .int := rfl
theorem ct_5_2 : CFT 5 2 = .array .int := rfl
theorem ct_5_3 : CFT 5 3 = .array .int := rfl
theorem ct_5_4 : CFT 5 4 = .array .int := rfl
theorem ct_5_5 : CFT 5 5 = .array .int := rfl
theorem ct_5_6 : CFT 5 6 = .array .int := rfl
theorem ct_5_7 : CFT 5 7 = .array .int := rfl
theorem ct_5_8 : CFT 5 8 = .array .int := rfl
theorem ct_5_9 : CFT 5 9 = .int := rfl
theorem ct_5_10 : CFT 5 10 = (.object "SkinLedger$Ledger") := rfl
theorem hci_5 : ∃ T N, vwCl[5]? = some (RX5, T, N) := ⟨_, _, rfl⟩
theorem ct_6_0 : CFT 6 0 = .array .long := rfl
theorem ct_6_1 : CFT 6 1 = .array .int := rfl
theorem ct_6_2 : CFT 6 2 = .array .int := rfl
theorem ct_6_3 : CFT 6 3 = .array .long := rfl
theorem ct_6_4 : CFT 6 4 = .array .int := rfl
theorem ct_6_5 : CFT 6 5 = .array .int := rfl
theorem ct_6_6 : CFT 6 6 = .int := rfl
theorem ct_6_7 : CFT 6 7 = .int := rfl
theorem ct_6_8 : CFT 6 8 = .int := rfl
theorem ct_6_9 : CFT 6 9 = .int := rfl
theorem ct_6_10 : CFT 6 10 = .int := rfl
theorem ct_6_11 : CFT 6 11 = .int := rfl
theorem ct_6_12 : CFT 6 12 = .boolean := rfl
theorem ct_6_13 : CFT 6 13 = .boolean := rfl
theorem hci_6 : ∃ T N, vwCl[6]? = some (RX6, T, N) := ⟨_, _, rfl⟩
theorem ct_7_0 : CFT 7 0 = .array .int := rfl
theorem ct_7_1 : CFT 7 1 = .int := rfl
theorem ct_7_2 : CFT 7 2 = .int := rfl
theorem ct_7_3 : CFT 7 3 = .int := rfl
theorem ct_7_4 : CFT 7 4 = (.object "SkinLedger$Ledger") := rfl
theorem ct_7_5 : CFT 7 5 = .array .int := rfl
theorem ct_7_6 : CFT 7 6 = .array .int := rfl
theorem ct_7_7 : CFT 7 7 = .int := rfl
theorem ct_7_8 : CFT 7 8 = .array .int := rfl
theorem ct_7_9 : CFT 7 9 = .array .int := rfl
theorem ct_7_10 : CFT 7 10 = .array .int := rfl
theorem ct_7_11 : CFT 7 11 = .int := rfl
theorem hci_7 : ∃ T N, vwCl[7]? = some (RX7, T, N) := ⟨_, _, rfl⟩
theorem ct_8_0 : CFT 8 0 = .array .int := rfl
theorem ct_8_1 : CFT 8 1 = .array .int := rfl
theorem ct_8_2 : CFT 8 2 = .array .int := rfl
theorem hci_8 : ∃ T N, vwCl[8]? = some (RX8, T, N) := ⟨_, _, rfl⟩
theorem ct_9_0 : CFT 9 0 = .array .int := rfl
theorem ct_9_1 : CFT 9 1 = .int := rfl
theorem ct_9_2 : CFT 9 2 = .int := rfl
theorem ct_9_3 : CFT 9 3 = .int := rfl
theorem ct_9_4 : CFT 9 4 = .long := rfl
theorem ct_9_5 : CFT 9 5 = .int := rfl
theorem ct_9_6 : CFT 9 6 = .int := rfl
theorem ct_9_7 : CFT 9 7 = .int := rfl
theorem ct_9_8 : CFT 9 8 = .int := rfl
theorem ct_9_9 : CFT 9 9 = .int := rfl
theorem hci_9 : ∃ T N, vwCl[9]? = some (RX9, T, N) := ⟨_, _, rfl⟩
theorem ct_10_0 : CFT 10 0 = .int := rfl
theorem ct_10_1 : CFT 10 1 = .array .int := rfl
theorem hci_10 : ∃ T N, vwCl[10]? = some (RX10, T, N) := ⟨_, _, rfl⟩
theorem ct_11_0 : CFT 11 0 = (.object "SkinLedger$Tape") := rfl
theorem ct_11_1 : CFT 11 1 = (.object "SkinLedger$Port") := rfl
theorem ct_11_2 : CFT 11 2 = (.object "SkinLedger$Port") := rfl
theorem ct_11_3 : CFT 11 3 = (.object "SkinLedger$Book") := rfl
theorem ct_11_4 : CFT 11 4 = (.object "SkinLedger$Book") := rfl
theorem ct_11_5 : CFT 11 5 = (.object "SkinLedger$Ledger") := rfl
theorem ct_11_6 : CFT 11 6 = (.object "SkinLedger$Ledger") := rfl
theorem ct_11_7 : CFT 11 7 = (.object "SkinLedger$History") := rfl
theorem ct_11_8 : CFT 11 8 = .array (.object "SkinLedger$Image") := rfl
theorem ct_11_9 : CFT 11 9 = (.object "SkinLedger$Rings") := rfl
theorem ct_11_10 : CFT 11 10 = (.object "SkinLedger$Packer") := rfl
theorem ct_11_11 : CFT 11 11 = (.object "SkinLedger$Fitter") := rfl
theorem ct_11_12 : CFT 11 12 = (.object "SkinLedger$Settler") := rfl
theorem ct_11_13 : CFT 11 13 = (.object "SkinLedger$Text") := rfl
theorem ct_11_14 : CFT 11 14 = .array .int := rfl
theorem ct_11_15 : CFT 11 15 = .int := rfl
theorem ct_11_16 : CFT 11 16 = .array .int := rfl
theorem ct_11_17 : CFT 11 17 = .boolean := rfl
theorem ct_11_18 : CFT 11 18 = .int := rfl
theorem ct_11_19 : CFT 11 19 = .int := rfl
theorem hci_11 : ∃ T N, vwCl[11]? = some (RX11, T, N) := ⟨_, _, rfl⟩
theorem ct_12_0 : CFT 12 0 = .int := rfl
theorem ct_12_1 : CFT 12 1 = .array .byte := rfl
theorem ct_12_2 : CFT 12 2 = .int := rfl
theorem ct_12_3 : CFT 12 3 = .int := rfl
theorem ct_12_4 : CFT 12 4 = .int := rfl
theorem ct_12_5 : CFT 12 5 = .int := rfl
theorem ct_12_6 : CFT 12 6 = .array .int := rfl
theorem ct_12_7 : CFT 12 7 = .array .int := rfl
theorem ct_12_8 : CFT 12 8 = .array .int := rfl
theorem ct_12_9 : CFT 12 9 = .array .long := rfl
theorem ct_12_10 : CFT 12 10 = .array .long := rfl
theorem ct_12_11 : CFT 12 11 = .int := rfl
theorem ct_12_12 : CFT 12 12 = .int := rfl
theorem ct_12_13 : CFT 12 13 = .int := rfl
theorem ct_12_14 : CFT 12 14 = .int := rfl
theorem ct_12_15 : CFT 12 15 = .int := rfl
theorem ct_12_16 : CFT 12 16 = .int := rfl
theorem ct_12_17 : CFT 12 17 = .long := rfl
theorem ct_12_18 : CFT 12 18 = .int := rfl
theorem ct_12_19 : CFT 12 19 = .int := rfl
theorem ct_12_20 : CFT 12 20 = .boolean := rfl
theorem ct_12_21 : CFT 12 21 = .boolean := rfl
theorem ct_12_22 : CFT 12 22 = .int := rfl
theorem ct_12_23 : CFT 12 23 = .int := rfl
theorem ct_12_24 : CFT 12 24 = .array .int := rfl
theorem ct_12_25 : CFT 12 25 = .int := rfl
theorem ct_12_26 : CFT 12 26 = .array .int := rfl
theorem ct_12_27 : CFT 12 27 = .array .int := rfl
theorem ct_12_28 : CFT 12 28 = .array .int := rfl
theorem ct_12_29 : CFT 12 29 = .int := rfl
theorem ct_12_30 : CFT 12 30 = .int := rfl
theorem ct_12_31 : CFT 12 31 = .array .int := rfl
theorem ct_12_32 : CFT 12 32 = .array .int := rfl
theorem ct_12_33 : CFT 12 33 = .array .int := rfl
theorem ct_12_34 : CFT 12 34 = .array .byte := rfl
theorem ct_12_35 : CFT 12 35 = .int := rfl
theorem ct_12_36 : CFT 12 36 = .int := rfl
theorem ct_12_37 : CFT 12 37 = .array .int := rfl
theorem ct_12_38 : CFT 12 38 = .boolean := rfl
theorem ct_12_39 : CFT 12 39 = .array .int := rfl
theorem ct_12_40 : CFT 12 40 = .array .int := rfl
theorem ct_12_41 : CFT 12 41 = .array .int := rfl
theorem ct_12_42 : CFT 12 42 = .array .int := rfl
theorem ct_12_43 : CFT 12 43 = .array .int := rfl
theorem ct_12_44 : CFT 12 44 = .array .int := rfl
theorem ct_12_45 : CFT 12 45 = .int := rfl
theorem ct_12_46 : CFT 12 46 = .int := rfl
theorem ct_12_47 : CFT 12 47 = .int := rfl
theorem ct_12_48 : CFT 12 48 = .array .int := rfl
theorem ct_12_49 : CFT 12 49 = .array .int := rfl
theorem ct_12_50 : CFT 12 50 = .array .int := rfl
theorem ct_12_51 : CFT 12 51 = .array .int := rfl
theorem ct_12_52 : CFT 12 52 = .array .int := rfl
theorem ct_12_53 : CFT 12 53 = .int := rfl
theorem ct_12_54 : CFT 12 54 = .int := rfl
theorem ct_12_55 : CFT 12 55 = .array .int := rfl
theorem ct_12_56 : CFT 12 56 = .array .long := rfl
theorem ct_12_57 : CFT 12 57 = .array .boolean := rfl
theorem hci_12 : ∃ T N, vwCl[12]? = some (RX12, T, N) := ⟨_, _, rfl⟩
theorem ic_m1 : Int32.ofInt (-1) = (-1 : Int32) := by decide
theorem ic_0 : Int32.ofInt (0) = (0 : Int32) := by decide
theorem ic_1 : Int32.ofInt (1) = (1 : Int32) := by decide
theorem ic_2 : Int32.ofInt (2) = (2 : Int32) := by decide
theorem ic_3 : Int32.ofInt (3) = (3 : Int32) := by decide
theorem ic_4 : Int32.ofInt (4) = (4 : Int32) := by decide
theorem ic_5 : Int32.ofInt (5) = (5 : Int32) := by decide
theorem bp_m10 : (Int8.ofInt (-10)).toInt32 = (-10 : Int32) := by decide
theorem bp_m2 : (Int8.ofInt (-2)).toInt32 = (-2 : Int32) := by decide
theorem bp_6 : (Int8.ofInt (6)).toInt32 = (6 : Int32) := by decide
theorem bp_7 : (Int8.ofInt (7)).toInt32 = (7 : Int32) := by decide
theorem bp_8 : (Int8.ofInt (8)).toInt32 = (8 : Int32) := by decide
theorem bp_9 : (Int8.ofInt (9)).toInt32 = (9 : Int32) := by decide
theorem bp_10 : (Int8.ofInt (10)).toInt32 = (10 : Int32) := by decide
theorem bp_11 : (Int8.ofInt (11)).toInt32 = (11 : Int32) := by decide
theorem bp_12 : (Int8.ofInt (12)).toInt32 = (12 : Int32) := by decide
theorem bp_13 : (Int8.ofInt (13)).toInt32 = (13 : Int32) := by decide
theorem bp_14 : (Int8.ofInt (14)).toInt32 = (14 : Int32) := by decide
theorem bp_15 : (Int8.ofInt (15)).toInt32 = (15 : Int32) := by decide
theorem bp_16 : (Int8.ofInt (16)).toInt32 = (16 : Int32) := by decide
theorem bp_17 : (Int8.ofInt (17)).toInt32 = (17 : Int32) := by decide
theorem bp_18 : (Int8.ofInt (18)).toInt32 = (18 : Int32) := by decide
theorem bp_20 : (Int8.ofInt (20)).toInt32 = (20 : Int32) := by decide
theorem bp_22 : (Int8.ofInt (22)).toInt32 = (22 : Int32) := by decide
theorem bp_24 : (Int8.ofInt (24)).toInt32 = (24 : Int32) := by decide
theorem bp_28 : (Int8.ofInt (28)).toInt32 = (28 : Int32) := by decide
theorem bp_30 : (Int8.ofInt (30)).toInt32 = (30 : Int32) := by decide
theorem bp_32 : (Int8.ofInt (32)).toInt32 = (32 : Int32) := by decide
theorem bp_34 : (Int8.ofInt (34)).toInt32 = (34 : Int32) := by decide
theorem bp_35 : (Int8.ofInt (35)).toInt32 = (35 : Int32) := by decide
theorem bp_36 : (Int8.ofInt (36)).toInt32 = (36 : Int32) := by decide
theorem bp_37 : (Int8.ofInt (37)).toInt32 = (37 : Int32) := by decide
theorem bp_40 : (Int8.ofInt (40)).toInt32 = (40 : Int32) := by decide
theorem bp_43 : (Int8.ofInt (43)).toInt32 = (43 : Int32) := by decide
theorem bp_45 : (Int8.ofInt (45)).toInt32 = (45 : Int32) := by decide
theorem bp_46 : (Int8.ofInt (46)).toInt32 = (46 : Int32) := by decide
theorem bp_48 : (Int8.ofInt (48)).toInt32 = (48 : Int32) := by decide
theorem bp_57 : (Int8.ofInt (57)).toInt32 = (57 : Int32) := by decide
theorem bp_59 : (Int8.ofInt (59)).toInt32 = (59 : Int32) := by decide
theorem bp_60 : (Int8.ofInt (60)).toInt32 = (60 : Int32) := by decide
theorem bp_63 : (Int8.ofInt (63)).toInt32 = (63 : Int32) := by decide
theorem bp_97 : (Int8.ofInt (97)).toInt32 = (97 : Int32) := by decide
theorem bp_99 : (Int8.ofInt (99)).toInt32 = (99 : Int32) := by decide
theorem bp_111 : (Int8.ofInt (111)).toInt32 = (111 : Int32) := by decide
theorem bp_120 : (Int8.ofInt (120)).toInt32 = (120 : Int32) := by decide
theorem bp_122 : (Int8.ofInt (122)).toInt32 = (122 : Int32) := by decide
theorem sp_200 : (Int16.ofInt (200)).toInt32 = (200 : Int32) := by decide
theorem sp_201 : (Int16.ofInt (201)).toInt32 = (201 : Int32) := by decide
theorem sp_255 : (Int16.ofInt (255)).toInt32 = (255 : Int32) := by decide
theorem sp_256 : (Int16.ofInt (256)).toInt32 = (256 : Int32) := by decide
theorem sp_512 : (Int16.ofInt (512)).toInt32 = (512 : Int32) := by decide
theorem sp_552 : (Int16.ofInt (552)).toInt32 = (552 : Int32) := by decide
theorem sp_586 : (Int16.ofInt (586)).toInt32 = (586 : Int32) := by decide
theorem sp_587 : (Int16.ofInt (587)).toInt32 = (587 : Int32) := by decide
theorem sp_600 : (Int16.ofInt (600)).toInt32 = (600 : Int32) := by decide
theorem sp_640 : (Int16.ofInt (640)).toInt32 = (640 : Int32) := by decide
theorem sp_787 : (Int16.ofInt (787)).toInt32 = (787 : Int32) := by decide
theorem sp_788 : (Int16.ofInt (788)).toInt32 = (788 : Int32) := by decide
theorem sp_1576 : (Int16.ofInt (1576)).toInt32 = (1576 : Int32) := by decide
theorem sp_2640 : (Int16.ofInt (2640)).toInt32 = (2640 : Int32) := by decide
theorem sp_3600 : (Int16.ofInt (3600)).toInt32 = (3600 : Int32) := by decide
theorem sp_3864 : (Int16.ofInt (3864)).toInt32 = (3864 : Int32) := by decide
theorem sp_4416 : (Int16.ofInt (4416)).toInt32 = (4416 : Int32) := by decide
theorem sp_10000 : (Int16.ofInt (10000)).toInt32 = (10000 : Int32) := by decide
theorem sp_12345 : (Int16.ofInt (12345)).toInt32 = (12345 : Int32) := by decide
theorem hp_5 : 5 ∈ PX := by decide
theorem hp_12 : 12 ∈ PX := by decide
theorem hL_31 : (31, 5) ∈ LX := by decide
theorem hL_43 : (43, 5) ∈ LX := by decide
theorem hk_19 : 19 ∈ BX := by decide
theorem hk_25 : 25 ∈ BX := by decide
abbrev MJ6_bitCount_0f7a4 : MT := (RJ6, yJ6_bitCount_0f7a4, cJ6_bitCount_0f7a4, 1, some .int)
theorem okJ6_bitCount_0f7a4 : jOK MJ6_bitCount_0f7a4 1 := ⟨by decide, rfl, tsm (inT6 (List.mem_of_getElem? (i := 62) rfl)) rfl, tsm (inT1 (List.mem_of_getElem? (i := 20) rfl)) rfl, ⟨by decide +kernel, by decide +kernel, by decide +kernel⟩, by decide⟩
theorem cvX11_414 : jCS RX11 414 MJ6_bitCount_0f7a4 := ⟨tsm (inT6 (List.mem_of_getElem? (i := 60) rfl)) rfl, tsm (inT6 (List.mem_of_getElem? (i := 61) rfl)) rfl⟩
theorem kwJ6_265 : Cond.constant RJ6 265 1431655765 ∈ TS := tsm (inT6 (List.mem_of_getElem? (i := 63) rfl)) rfl
theorem kwJ6_266 : Cond.constant RJ6 266 858993459 ∈ TS := tsm (inT6 (List.mem_of_getElem? (i := 64) rfl)) rfl
theorem kwJ6_267 : Cond.constant RJ6 267 252645135 ∈ TS := tsm (inT6 (List.mem_of_getElem? (i := 65) rfl)) rfl

