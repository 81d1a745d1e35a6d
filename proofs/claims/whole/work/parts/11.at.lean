/-! What stands at each place of the code. -/
def am_srt {α : Type} : Nat → List (Nat × α) → Bool
  | _, [] => true
  | b, q :: l => Nat.ble b q.1 && am_srt (q.1 + 1) l
theorem am_lks {α : Type} : ∀ (l : List (Nat × α)) (b : Nat), am_srt b l = true → ∀ (i pc : Nat) (x : α), l[i]? = some (pc, x) → b ≤ pc ∧ l.lookup pc = some x := by
  intro l
  induction l with
  | nil => intro b _ i pc x h; simp at h
  | cons q l ih =>
    intro b hs i pc x h
    obtain ⟨k, y⟩ := q
    unfold am_srt at hs
    rw [Bool.and_eq_true] at hs
    have hb : b ≤ k := Nat.le_of_ble_eq_true hs.1
    cases i with
    | zero =>
      have h : some (k, y) = some (pc, x) := h
      cases h
      exact ⟨hb, by rw [List.lookup_cons]; simp⟩
    | succ i =>
      have h : l[i]? = some (pc, x) := h
      obtain ⟨g1, g2⟩ := ih (k + 1) hs.2 i pc x h
      have g1 : k + 1 ≤ pc := g1
      refine ⟨by omega, ?_⟩
      rw [List.lookup_cons]
      have e : (pc == k) = false := by
        rw [beq_eq_false_iff_ne]; omega
      rw [e]
      exact g2
theorem am_kB (K : Nat) (t : List (Nat × Instr × Nat)) (hK : am_T.getD K [] = t) (hs : am_srt 0 t = true) (i pc : Nat) (x : Instr) (nx : Nat) (hi : t[i]? = some (pc, x, nx)) : am_at K pc = some (x, nx) := by
  unfold am_at
  rw [hK]
  exact (am_lks t 0 hs i pc (x, nx) hi).2
set_option maxRecDepth 20000 in
theorem am_kq0 (i pc : Nat) (x : Instr) (nx : Nat) (hi : am_t0[i]? = some (pc, x, nx)) : am_at 0 pc = some (x, nx) := am_kB 0 am_t0 rfl (by decide +kernel) i pc x nx hi
theorem k0_0 : am_at 0 0 = some (.new 0, 3) := am_kq0 0 _ _ _ rfl
theorem k0_3 : am_at 0 3 = some (.dup, 4) := am_kq0 1 _ _ _ rfl
theorem k0_4 : am_at 0 4 = some (.invokestatic 1, 7) := am_kq0 2 _ _ _ rfl
theorem k0_7 : am_at 0 7 = some (.astore 1, 8) := am_kq0 3 _ _ _ rfl
theorem k0_8 : am_at 0 8 = some (.new 11, 11) := am_kq0 4 _ _ _ rfl
theorem k0_11 : am_at 0 11 = some (.dup, 12) := am_kq0 5 _ _ _ rfl
theorem k0_12 : am_at 0 12 = some (.invokestatic 30, 15) := am_kq0 6 _ _ _ rfl
theorem k0_15 : am_at 0 15 = some (.astore 2, 16) := am_kq0 7 _ _ _ rfl
theorem k0_16 : am_at 0 16 = some (.bipush 0, 17) := am_kq0 8 _ _ _ rfl
theorem k0_17 : am_at 0 17 = some (.istore 3, 18) := am_kq0 9 _ _ _ rfl
theorem k0_18 : am_at 0 18 = some (.iload 3, 19) := am_kq0 10 _ _ _ rfl
theorem k0_19 : am_at 0 19 = some (.aload 0, 20) := am_kq0 11 _ _ _ rfl
theorem k0_20 : am_at 0 20 = some (.saload, 21) := am_kq0 12 _ _ _ rfl
theorem k0_21 : am_at 0 21 = some (.bipush 6, 23) := am_kq0 13 _ _ _ rfl
theorem k0_23 : am_at 0 23 = some (.isub, 24) := am_kq0 14 _ _ _ rfl
theorem k0_24 : am_at 0 24 = some (.if_icmp .gt 774, 27) := am_kq0 15 _ _ _ rfl
theorem k0_27 : am_at 0 27 = some (.aload 0, 28) := am_kq0 16 _ _ _ rfl
theorem k0_28 : am_at 0 28 = some (.iload 3, 29) := am_kq0 17 _ _ _ rfl
theorem k0_29 : am_at 0 29 = some (.caload, 30) := am_kq0 18 _ _ _ rfl
theorem k0_30 : am_at 0 30 = some (.bipush 31, 32) := am_kq0 19 _ _ _ rfl
theorem k0_32 : am_at 0 32 = some (.iand, 33) := am_kq0 20 _ _ _ rfl
theorem k0_33 : am_at 0 33 = some (.tableswitch 768 0 17 #[120, 173, 226, 249, 282, 316, 360, 394, 427, 490, 513, 556, 579, 623, 656, 689, 722, 745], 120) := am_kq0 21 _ _ _ rfl
theorem k0_120 : am_at 0 120 = some (.aload 1, 121) := am_kq0 22 _ _ _ rfl
theorem k0_121 : am_at 0 121 = some (.aload 0, 122) := am_kq0 23 _ _ _ rfl
theorem k0_122 : am_at 0 122 = some (.iload 3, 123) := am_kq0 24 _ _ _ rfl
theorem k0_123 : am_at 0 123 = some (.bipush 1, 124) := am_kq0 25 _ _ _ rfl
theorem k0_124 : am_at 0 124 = some (.iadd, 125) := am_kq0 26 _ _ _ rfl
theorem k0_125 : am_at 0 125 = some (.caload, 126) := am_kq0 27 _ _ _ rfl
theorem k0_126 : am_at 0 126 = some (.aload 0, 127) := am_kq0 28 _ _ _ rfl
theorem k0_127 : am_at 0 127 = some (.iload 3, 128) := am_kq0 29 _ _ _ rfl
theorem k0_128 : am_at 0 128 = some (.bipush 2, 129) := am_kq0 30 _ _ _ rfl
theorem k0_129 : am_at 0 129 = some (.iadd, 130) := am_kq0 31 _ _ _ rfl
theorem k0_130 : am_at 0 130 = some (.caload, 131) := am_kq0 32 _ _ _ rfl
theorem k0_131 : am_at 0 131 = some (.aload 0, 132) := am_kq0 33 _ _ _ rfl
theorem k0_132 : am_at 0 132 = some (.iload 3, 133) := am_kq0 34 _ _ _ rfl
theorem k0_133 : am_at 0 133 = some (.bipush 3, 134) := am_kq0 35 _ _ _ rfl
theorem k0_134 : am_at 0 134 = some (.iadd, 135) := am_kq0 36 _ _ _ rfl
theorem k0_135 : am_at 0 135 = some (.caload, 136) := am_kq0 37 _ _ _ rfl
theorem k0_136 : am_at 0 136 = some (.aload 0, 137) := am_kq0 38 _ _ _ rfl
theorem k0_137 : am_at 0 137 = some (.iload 3, 138) := am_kq0 39 _ _ _ rfl
theorem k0_138 : am_at 0 138 = some (.bipush 4, 139) := am_kq0 40 _ _ _ rfl
theorem k0_139 : am_at 0 139 = some (.iadd, 140) := am_kq0 41 _ _ _ rfl
theorem k0_140 : am_at 0 140 = some (.caload, 141) := am_kq0 42 _ _ _ rfl
theorem k0_141 : am_at 0 141 = some (.invokestatic 2, 144) := am_kq0 43 _ _ _ rfl
theorem k0_144 : am_at 0 144 = some (.aload 2, 145) := am_kq0 44 _ _ _ rfl
theorem k0_145 : am_at 0 145 = some (.aload 0, 146) := am_kq0 45 _ _ _ rfl
theorem k0_146 : am_at 0 146 = some (.iload 3, 147) := am_kq0 46 _ _ _ rfl
theorem k0_147 : am_at 0 147 = some (.bipush 1, 148) := am_kq0 47 _ _ _ rfl
theorem k0_148 : am_at 0 148 = some (.iadd, 149) := am_kq0 48 _ _ _ rfl
theorem k0_149 : am_at 0 149 = some (.caload, 150) := am_kq0 49 _ _ _ rfl
theorem k0_150 : am_at 0 150 = some (.aload 0, 151) := am_kq0 50 _ _ _ rfl
theorem k0_151 : am_at 0 151 = some (.iload 3, 152) := am_kq0 51 _ _ _ rfl
theorem k0_152 : am_at 0 152 = some (.bipush 2, 153) := am_kq0 52 _ _ _ rfl
theorem k0_153 : am_at 0 153 = some (.iadd, 154) := am_kq0 53 _ _ _ rfl
theorem k0_154 : am_at 0 154 = some (.caload, 155) := am_kq0 54 _ _ _ rfl
theorem k0_155 : am_at 0 155 = some (.aload 0, 156) := am_kq0 55 _ _ _ rfl
theorem k0_156 : am_at 0 156 = some (.iload 3, 157) := am_kq0 56 _ _ _ rfl
theorem k0_157 : am_at 0 157 = some (.bipush 3, 158) := am_kq0 57 _ _ _ rfl
theorem k0_158 : am_at 0 158 = some (.iadd, 159) := am_kq0 58 _ _ _ rfl
theorem k0_159 : am_at 0 159 = some (.caload, 160) := am_kq0 59 _ _ _ rfl
theorem k0_160 : am_at 0 160 = some (.aload 0, 161) := am_kq0 60 _ _ _ rfl
theorem k0_161 : am_at 0 161 = some (.iload 3, 162) := am_kq0 61 _ _ _ rfl
theorem k0_162 : am_at 0 162 = some (.bipush 4, 163) := am_kq0 62 _ _ _ rfl
theorem k0_163 : am_at 0 163 = some (.iadd, 164) := am_kq0 63 _ _ _ rfl
theorem k0_164 : am_at 0 164 = some (.caload, 165) := am_kq0 64 _ _ _ rfl
theorem k0_165 : am_at 0 165 = some (.invokestatic 37, 168) := am_kq0 65 _ _ _ rfl
theorem k0_168 : am_at 0 168 = some (.if_icmp .eq 768, 171) := am_kq0 66 _ _ _ rfl
theorem k0_171 : am_at 0 171 = some (.bipush 0, 172) := am_kq0 67 _ _ _ rfl
theorem k0_172 : am_at 0 172 = some (.ireturn, 173) := am_kq0 68 _ _ _ rfl
theorem k0_173 : am_at 0 173 = some (.aload 1, 174) := am_kq0 69 _ _ _ rfl
theorem k0_174 : am_at 0 174 = some (.aload 0, 175) := am_kq0 70 _ _ _ rfl
theorem k0_175 : am_at 0 175 = some (.iload 3, 176) := am_kq0 71 _ _ _ rfl
theorem k0_176 : am_at 0 176 = some (.bipush 1, 177) := am_kq0 72 _ _ _ rfl
theorem k0_177 : am_at 0 177 = some (.iadd, 178) := am_kq0 73 _ _ _ rfl
theorem k0_178 : am_at 0 178 = some (.caload, 179) := am_kq0 74 _ _ _ rfl
theorem k0_179 : am_at 0 179 = some (.aload 0, 180) := am_kq0 75 _ _ _ rfl
theorem k0_180 : am_at 0 180 = some (.iload 3, 181) := am_kq0 76 _ _ _ rfl
theorem k0_181 : am_at 0 181 = some (.bipush 2, 182) := am_kq0 77 _ _ _ rfl
theorem k0_182 : am_at 0 182 = some (.iadd, 183) := am_kq0 78 _ _ _ rfl
theorem k0_183 : am_at 0 183 = some (.caload, 184) := am_kq0 79 _ _ _ rfl
theorem k0_184 : am_at 0 184 = some (.aload 0, 185) := am_kq0 80 _ _ _ rfl
theorem k0_185 : am_at 0 185 = some (.iload 3, 186) := am_kq0 81 _ _ _ rfl
theorem k0_186 : am_at 0 186 = some (.bipush 3, 187) := am_kq0 82 _ _ _ rfl
theorem k0_187 : am_at 0 187 = some (.iadd, 188) := am_kq0 83 _ _ _ rfl
theorem k0_188 : am_at 0 188 = some (.caload, 189) := am_kq0 84 _ _ _ rfl
theorem k0_189 : am_at 0 189 = some (.aload 0, 190) := am_kq0 85 _ _ _ rfl
theorem k0_190 : am_at 0 190 = some (.iload 3, 191) := am_kq0 86 _ _ _ rfl
theorem k0_191 : am_at 0 191 = some (.bipush 4, 192) := am_kq0 87 _ _ _ rfl
theorem k0_192 : am_at 0 192 = some (.iadd, 193) := am_kq0 88 _ _ _ rfl
theorem k0_193 : am_at 0 193 = some (.caload, 194) := am_kq0 89 _ _ _ rfl
theorem k0_194 : am_at 0 194 = some (.invokestatic 3, 197) := am_kq0 90 _ _ _ rfl
theorem k0_197 : am_at 0 197 = some (.aload 2, 198) := am_kq0 91 _ _ _ rfl
theorem k0_198 : am_at 0 198 = some (.aload 0, 199) := am_kq0 92 _ _ _ rfl
theorem k0_199 : am_at 0 199 = some (.iload 3, 200) := am_kq0 93 _ _ _ rfl
theorem k0_200 : am_at 0 200 = some (.bipush 1, 201) := am_kq0 94 _ _ _ rfl
theorem k0_201 : am_at 0 201 = some (.iadd, 202) := am_kq0 95 _ _ _ rfl
theorem k0_202 : am_at 0 202 = some (.caload, 203) := am_kq0 96 _ _ _ rfl
theorem k0_203 : am_at 0 203 = some (.aload 0, 204) := am_kq0 97 _ _ _ rfl
theorem k0_204 : am_at 0 204 = some (.iload 3, 205) := am_kq0 98 _ _ _ rfl
theorem k0_205 : am_at 0 205 = some (.bipush 2, 206) := am_kq0 99 _ _ _ rfl
theorem k0_206 : am_at 0 206 = some (.iadd, 207) := am_kq0 100 _ _ _ rfl
theorem k0_207 : am_at 0 207 = some (.caload, 208) := am_kq0 101 _ _ _ rfl
theorem k0_208 : am_at 0 208 = some (.aload 0, 209) := am_kq0 102 _ _ _ rfl
theorem k0_209 : am_at 0 209 = some (.iload 3, 210) := am_kq0 103 _ _ _ rfl
theorem k0_210 : am_at 0 210 = some (.bipush 3, 211) := am_kq0 104 _ _ _ rfl
theorem k0_211 : am_at 0 211 = some (.iadd, 212) := am_kq0 105 _ _ _ rfl
theorem k0_212 : am_at 0 212 = some (.caload, 213) := am_kq0 106 _ _ _ rfl
theorem k0_213 : am_at 0 213 = some (.aload 0, 214) := am_kq0 107 _ _ _ rfl
theorem k0_214 : am_at 0 214 = some (.iload 3, 215) := am_kq0 108 _ _ _ rfl
theorem k0_215 : am_at 0 215 = some (.bipush 4, 216) := am_kq0 109 _ _ _ rfl
theorem k0_216 : am_at 0 216 = some (.iadd, 217) := am_kq0 110 _ _ _ rfl
theorem k0_217 : am_at 0 217 = some (.caload, 218) := am_kq0 111 _ _ _ rfl
theorem k0_218 : am_at 0 218 = some (.invokestatic 38, 221) := am_kq0 112 _ _ _ rfl
theorem k0_221 : am_at 0 221 = some (.if_icmp .eq 768, 224) := am_kq0 113 _ _ _ rfl
theorem k0_224 : am_at 0 224 = some (.bipush 0, 225) := am_kq0 114 _ _ _ rfl
theorem k0_225 : am_at 0 225 = some (.ireturn, 226) := am_kq0 115 _ _ _ rfl
theorem k0_226 : am_at 0 226 = some (.aload 1, 227) := am_kq0 116 _ _ _ rfl
theorem k0_227 : am_at 0 227 = some (.aload 0, 228) := am_kq0 117 _ _ _ rfl
theorem k0_228 : am_at 0 228 = some (.iload 3, 229) := am_kq0 118 _ _ _ rfl
theorem k0_229 : am_at 0 229 = some (.bipush 1, 230) := am_kq0 119 _ _ _ rfl
theorem k0_230 : am_at 0 230 = some (.iadd, 231) := am_kq0 120 _ _ _ rfl
theorem k0_231 : am_at 0 231 = some (.caload, 232) := am_kq0 121 _ _ _ rfl
theorem k0_232 : am_at 0 232 = some (.invokestatic 4, 235) := am_kq0 122 _ _ _ rfl
theorem k0_235 : am_at 0 235 = some (.aload 2, 236) := am_kq0 123 _ _ _ rfl
theorem k0_236 : am_at 0 236 = some (.aload 0, 237) := am_kq0 124 _ _ _ rfl
theorem k0_237 : am_at 0 237 = some (.iload 3, 238) := am_kq0 125 _ _ _ rfl
theorem k0_238 : am_at 0 238 = some (.bipush 1, 239) := am_kq0 126 _ _ _ rfl
theorem k0_239 : am_at 0 239 = some (.iadd, 240) := am_kq0 127 _ _ _ rfl
theorem k0_240 : am_at 0 240 = some (.caload, 241) := am_kq0 128 _ _ _ rfl
theorem k0_241 : am_at 0 241 = some (.invokestatic 43, 244) := am_kq0 129 _ _ _ rfl
theorem k0_244 : am_at 0 244 = some (.if_icmp .eq 768, 247) := am_kq0 130 _ _ _ rfl
theorem k0_247 : am_at 0 247 = some (.bipush 0, 248) := am_kq0 131 _ _ _ rfl
theorem k0_248 : am_at 0 248 = some (.ireturn, 249) := am_kq0 132 _ _ _ rfl
theorem k0_249 : am_at 0 249 = some (.aload 1, 250) := am_kq0 133 _ _ _ rfl
theorem k0_250 : am_at 0 250 = some (.aload 0, 251) := am_kq0 134 _ _ _ rfl
theorem k0_251 : am_at 0 251 = some (.iload 3, 252) := am_kq0 135 _ _ _ rfl
theorem k0_252 : am_at 0 252 = some (.bipush 1, 253) := am_kq0 136 _ _ _ rfl
theorem k0_253 : am_at 0 253 = some (.iadd, 254) := am_kq0 137 _ _ _ rfl
theorem k0_254 : am_at 0 254 = some (.caload, 255) := am_kq0 138 _ _ _ rfl
theorem k0_255 : am_at 0 255 = some (.aload 0, 256) := am_kq0 139 _ _ _ rfl
theorem k0_256 : am_at 0 256 = some (.iload 3, 257) := am_kq0 140 _ _ _ rfl
theorem k0_257 : am_at 0 257 = some (.bipush 2, 258) := am_kq0 141 _ _ _ rfl
theorem k0_258 : am_at 0 258 = some (.iadd, 259) := am_kq0 142 _ _ _ rfl
theorem k0_259 : am_at 0 259 = some (.caload, 260) := am_kq0 143 _ _ _ rfl
theorem k0_260 : am_at 0 260 = some (.invokestatic 5, 263) := am_kq0 144 _ _ _ rfl
theorem k0_263 : am_at 0 263 = some (.aload 2, 264) := am_kq0 145 _ _ _ rfl
theorem k0_264 : am_at 0 264 = some (.aload 0, 265) := am_kq0 146 _ _ _ rfl
theorem k0_265 : am_at 0 265 = some (.iload 3, 266) := am_kq0 147 _ _ _ rfl
theorem k0_266 : am_at 0 266 = some (.bipush 1, 267) := am_kq0 148 _ _ _ rfl
theorem k0_267 : am_at 0 267 = some (.iadd, 268) := am_kq0 149 _ _ _ rfl
theorem k0_268 : am_at 0 268 = some (.caload, 269) := am_kq0 150 _ _ _ rfl
theorem k0_269 : am_at 0 269 = some (.aload 0, 270) := am_kq0 151 _ _ _ rfl
theorem k0_270 : am_at 0 270 = some (.iload 3, 271) := am_kq0 152 _ _ _ rfl
theorem k0_271 : am_at 0 271 = some (.bipush 2, 272) := am_kq0 153 _ _ _ rfl
theorem k0_272 : am_at 0 272 = some (.iadd, 273) := am_kq0 154 _ _ _ rfl
theorem k0_273 : am_at 0 273 = some (.caload, 274) := am_kq0 155 _ _ _ rfl
theorem k0_274 : am_at 0 274 = some (.invokestatic 44, 277) := am_kq0 156 _ _ _ rfl
theorem k0_277 : am_at 0 277 = some (.if_icmp .eq 768, 280) := am_kq0 157 _ _ _ rfl
theorem k0_280 : am_at 0 280 = some (.bipush 0, 281) := am_kq0 158 _ _ _ rfl
theorem k0_281 : am_at 0 281 = some (.ireturn, 282) := am_kq0 159 _ _ _ rfl
theorem k0_282 : am_at 0 282 = some (.aload 1, 283) := am_kq0 160 _ _ _ rfl
theorem k0_283 : am_at 0 283 = some (.aload 0, 284) := am_kq0 161 _ _ _ rfl
theorem k0_284 : am_at 0 284 = some (.iload 3, 285) := am_kq0 162 _ _ _ rfl
theorem k0_285 : am_at 0 285 = some (.bipush 1, 286) := am_kq0 163 _ _ _ rfl
theorem k0_286 : am_at 0 286 = some (.iadd, 287) := am_kq0 164 _ _ _ rfl
theorem k0_287 : am_at 0 287 = some (.caload, 288) := am_kq0 165 _ _ _ rfl
theorem k0_288 : am_at 0 288 = some (.aload 0, 289) := am_kq0 166 _ _ _ rfl
theorem k0_289 : am_at 0 289 = some (.iload 3, 290) := am_kq0 167 _ _ _ rfl
theorem k0_290 : am_at 0 290 = some (.bipush 2, 291) := am_kq0 168 _ _ _ rfl
theorem k0_291 : am_at 0 291 = some (.iadd, 292) := am_kq0 169 _ _ _ rfl
theorem k0_292 : am_at 0 292 = some (.caload, 293) := am_kq0 170 _ _ _ rfl
theorem k0_293 : am_at 0 293 = some (.invokestatic 6, 296) := am_kq0 171 _ _ _ rfl
theorem k0_296 : am_at 0 296 = some (.aload 2, 297) := am_kq0 172 _ _ _ rfl
theorem k0_297 : am_at 0 297 = some (.aload 0, 298) := am_kq0 173 _ _ _ rfl
theorem k0_298 : am_at 0 298 = some (.iload 3, 299) := am_kq0 174 _ _ _ rfl
theorem k0_299 : am_at 0 299 = some (.bipush 1, 300) := am_kq0 175 _ _ _ rfl
theorem k0_300 : am_at 0 300 = some (.iadd, 301) := am_kq0 176 _ _ _ rfl
theorem k0_301 : am_at 0 301 = some (.caload, 302) := am_kq0 177 _ _ _ rfl
theorem k0_302 : am_at 0 302 = some (.aload 0, 303) := am_kq0 178 _ _ _ rfl
theorem k0_303 : am_at 0 303 = some (.iload 3, 304) := am_kq0 179 _ _ _ rfl
theorem k0_304 : am_at 0 304 = some (.bipush 2, 305) := am_kq0 180 _ _ _ rfl
theorem k0_305 : am_at 0 305 = some (.iadd, 306) := am_kq0 181 _ _ _ rfl
theorem k0_306 : am_at 0 306 = some (.caload, 307) := am_kq0 182 _ _ _ rfl
theorem k0_307 : am_at 0 307 = some (.invokestatic 47, 310) := am_kq0 183 _ _ _ rfl
theorem k0_310 : am_at 0 310 = some (.lcmp, 311) := am_kq0 184 _ _ _ rfl
theorem k0_311 : am_at 0 311 = some (.ifCond .eq 768, 314) := am_kq0 185 _ _ _ rfl
theorem k0_314 : am_at 0 314 = some (.bipush 0, 315) := am_kq0 186 _ _ _ rfl
theorem k0_315 : am_at 0 315 = some (.ireturn, 316) := am_kq0 187 _ _ _ rfl
theorem k0_316 : am_at 0 316 = some (.aload 1, 317) := am_kq0 188 _ _ _ rfl
theorem k0_317 : am_at 0 317 = some (.aload 0, 318) := am_kq0 189 _ _ _ rfl
theorem k0_318 : am_at 0 318 = some (.iload 3, 319) := am_kq0 190 _ _ _ rfl
theorem k0_319 : am_at 0 319 = some (.bipush 1, 320) := am_kq0 191 _ _ _ rfl
theorem k0_320 : am_at 0 320 = some (.iadd, 321) := am_kq0 192 _ _ _ rfl
theorem k0_321 : am_at 0 321 = some (.caload, 322) := am_kq0 193 _ _ _ rfl
theorem k0_322 : am_at 0 322 = some (.aload 0, 323) := am_kq0 194 _ _ _ rfl
theorem k0_323 : am_at 0 323 = some (.iload 3, 324) := am_kq0 195 _ _ _ rfl
theorem k0_324 : am_at 0 324 = some (.bipush 2, 325) := am_kq0 196 _ _ _ rfl
theorem k0_325 : am_at 0 325 = some (.iadd, 326) := am_kq0 197 _ _ _ rfl
theorem k0_326 : am_at 0 326 = some (.caload, 327) := am_kq0 198 _ _ _ rfl
theorem k0_327 : am_at 0 327 = some (.aload 0, 328) := am_kq0 199 _ _ _ rfl
theorem k0_328 : am_at 0 328 = some (.iload 3, 329) := am_kq0 200 _ _ _ rfl
set_option maxRecDepth 20000 in
theorem k0_329 : am_at 0 329 = some (.bipush 3, 330) := am_kq0 201 _ _ _ rfl
set_option maxRecDepth 20000 in
theorem k0_330 : am_at 0 330 = some (.iadd, 331) := am_kq0 202 _ _ _ rfl
set_option maxRecDepth 20000 in
theorem k0_331 : am_at 0 331 = some (.caload, 332) := am_kq0 203 _ _ _ rfl
set_option maxRecDepth 20000 in
theorem k0_332 : am_at 0 332 = some (.invokestatic 7, 335) := am_kq0 204 _ _ _ rfl
set_option maxRecDepth 20000 in
theorem k0_335 : am_at 0 335 = some (.aload 2, 336) := am_kq0 205 _ _ _ rfl
set_option maxRecDepth 20000 in
theorem k0_336 : am_at 0 336 = some (.aload 0, 337) := am_kq0 206 _ _ _ rfl
set_option maxRecDepth 20000 in
theorem k0_337 : am_at 0 337 = some (.iload 3, 338) := am_kq0 207 _ _ _ rfl
set_option maxRecDepth 20000 in
theorem k0_338 : am_at 0 338 = some (.bipush 1, 339) := am_kq0 208 _ _ _ rfl
set_option maxRecDepth 20000 in
theorem k0_339 : am_at 0 339 = some (.iadd, 340) := am_kq0 209 _ _ _ rfl
set_option maxRecDepth 20000 in
theorem k0_340 : am_at 0 340 = some (.caload, 341) := am_kq0 210 _ _ _ rfl
set_option maxRecDepth 20000 in
theorem k0_341 : am_at 0 341 = some (.aload 0, 342) := am_kq0 211 _ _ _ rfl
set_option maxRecDepth 20000 in
theorem k0_342 : am_at 0 342 = some (.iload 3, 343) := am_kq0 212 _ _ _ rfl
set_option maxRecDepth 20000 in
theorem k0_343 : am_at 0 343 = some (.bipush 2, 344) := am_kq0 213 _ _ _ rfl
set_option maxRecDepth 20000 in
theorem k0_344 : am_at 0 344 = some (.iadd, 345) := am_kq0 214 _ _ _ rfl
set_option maxRecDepth 20000 in
theorem k0_345 : am_at 0 345 = some (.caload, 346) := am_kq0 215 _ _ _ rfl
set_option maxRecDepth 20000 in
theorem k0_346 : am_at 0 346 = some (.aload 0, 347) := am_kq0 216 _ _ _ rfl
set_option maxRecDepth 20000 in
theorem k0_347 : am_at 0 347 = some (.iload 3, 348) := am_kq0 217 _ _ _ rfl
set_option maxRecDepth 20000 in
theorem k0_348 : am_at 0 348 = some (.bipush 3, 349) := am_kq0 218 _ _ _ rfl
set_option maxRecDepth 20000 in
theorem k0_349 : am_at 0 349 = some (.iadd, 350) := am_kq0 219 _ _ _ rfl
set_option maxRecDepth 20000 in
theorem k0_350 : am_at 0 350 = some (.caload, 351) := am_kq0 220 _ _ _ rfl
set_option maxRecDepth 20000 in
theorem k0_351 : am_at 0 351 = some (.invokestatic 48, 354) := am_kq0 221 _ _ _ rfl
set_option maxRecDepth 20000 in
theorem k0_354 : am_at 0 354 = some (.lcmp, 355) := am_kq0 222 _ _ _ rfl
set_option maxRecDepth 20000 in
theorem k0_355 : am_at 0 355 = some (.ifCond .eq 768, 358) := am_kq0 223 _ _ _ rfl
set_option maxRecDepth 20000 in
theorem k0_358 : am_at 0 358 = some (.bipush 0, 359) := am_kq0 224 _ _ _ rfl
set_option maxRecDepth 20000 in
theorem k0_359 : am_at 0 359 = some (.ireturn, 360) := am_kq0 225 _ _ _ rfl
set_option maxRecDepth 20000 in
theorem k0_360 : am_at 0 360 = some (.aload 1, 361) := am_kq0 226 _ _ _ rfl
set_option maxRecDepth 20000 in
theorem k0_361 : am_at 0 361 = some (.aload 0, 362) := am_kq0 227 _ _ _ rfl
set_option maxRecDepth 20000 in
theorem k0_362 : am_at 0 362 = some (.iload 3, 363) := am_kq0 228 _ _ _ rfl
set_option maxRecDepth 20000 in
theorem k0_363 : am_at 0 363 = some (.bipush 1, 364) := am_kq0 229 _ _ _ rfl
set_option maxRecDepth 20000 in
theorem k0_364 : am_at 0 364 = some (.iadd, 365) := am_kq0 230 _ _ _ rfl
set_option maxRecDepth 20000 in
theorem k0_365 : am_at 0 365 = some (.caload, 366) := am_kq0 231 _ _ _ rfl
set_option maxRecDepth 20000 in
theorem k0_366 : am_at 0 366 = some (.aload 0, 367) := am_kq0 232 _ _ _ rfl
set_option maxRecDepth 20000 in
theorem k0_367 : am_at 0 367 = some (.iload 3, 368) := am_kq0 233 _ _ _ rfl
set_option maxRecDepth 20000 in
theorem k0_368 : am_at 0 368 = some (.bipush 2, 369) := am_kq0 234 _ _ _ rfl
set_option maxRecDepth 20000 in
theorem k0_369 : am_at 0 369 = some (.iadd, 370) := am_kq0 235 _ _ _ rfl
set_option maxRecDepth 20000 in
theorem k0_370 : am_at 0 370 = some (.caload, 371) := am_kq0 236 _ _ _ rfl
set_option maxRecDepth 20000 in
theorem k0_371 : am_at 0 371 = some (.invokestatic 8, 374) := am_kq0 237 _ _ _ rfl
set_option maxRecDepth 20000 in
theorem k0_374 : am_at 0 374 = some (.aload 2, 375) := am_kq0 238 _ _ _ rfl
set_option maxRecDepth 20000 in
theorem k0_375 : am_at 0 375 = some (.aload 0, 376) := am_kq0 239 _ _ _ rfl
set_option maxRecDepth 20000 in
theorem k0_376 : am_at 0 376 = some (.iload 3, 377) := am_kq0 240 _ _ _ rfl
set_option maxRecDepth 20000 in
theorem k0_377 : am_at 0 377 = some (.bipush 1, 378) := am_kq0 241 _ _ _ rfl
set_option maxRecDepth 20000 in
theorem k0_378 : am_at 0 378 = some (.iadd, 379) := am_kq0 242 _ _ _ rfl
set_option maxRecDepth 20000 in
theorem k0_379 : am_at 0 379 = some (.caload, 380) := am_kq0 243 _ _ _ rfl
set_option maxRecDepth 20000 in
theorem k0_380 : am_at 0 380 = some (.aload 0, 381) := am_kq0 244 _ _ _ rfl
set_option maxRecDepth 20000 in
theorem k0_381 : am_at 0 381 = some (.iload 3, 382) := am_kq0 245 _ _ _ rfl
set_option maxRecDepth 20000 in
theorem k0_382 : am_at 0 382 = some (.bipush 2, 383) := am_kq0 246 _ _ _ rfl
set_option maxRecDepth 20000 in
theorem k0_383 : am_at 0 383 = some (.iadd, 384) := am_kq0 247 _ _ _ rfl
set_option maxRecDepth 20000 in
theorem k0_384 : am_at 0 384 = some (.caload, 385) := am_kq0 248 _ _ _ rfl
set_option maxRecDepth 20000 in
theorem k0_385 : am_at 0 385 = some (.invokestatic 49, 388) := am_kq0 249 _ _ _ rfl
set_option maxRecDepth 20000 in
theorem k0_388 : am_at 0 388 = some (.lcmp, 389) := am_kq0 250 _ _ _ rfl
set_option maxRecDepth 20000 in
theorem k0_389 : am_at 0 389 = some (.ifCond .eq 768, 392) := am_kq0 251 _ _ _ rfl
set_option maxRecDepth 20000 in
theorem k0_392 : am_at 0 392 = some (.bipush 0, 393) := am_kq0 252 _ _ _ rfl
set_option maxRecDepth 20000 in
theorem k0_393 : am_at 0 393 = some (.ireturn, 394) := am_kq0 253 _ _ _ rfl
set_option maxRecDepth 20000 in
theorem k0_394 : am_at 0 394 = some (.aload 1, 395) := am_kq0 254 _ _ _ rfl
set_option maxRecDepth 20000 in
theorem k0_395 : am_at 0 395 = some (.aload 0, 396) := am_kq0 255 _ _ _ rfl
set_option maxRecDepth 20000 in
theorem k0_396 : am_at 0 396 = some (.iload 3, 397) := am_kq0 256 _ _ _ rfl
set_option maxRecDepth 20000 in
theorem k0_397 : am_at 0 397 = some (.bipush 1, 398) := am_kq0 257 _ _ _ rfl
set_option maxRecDepth 20000 in
theorem k0_398 : am_at 0 398 = some (.iadd, 399) := am_kq0 258 _ _ _ rfl
set_option maxRecDepth 20000 in
theorem k0_399 : am_at 0 399 = some (.caload, 400) := am_kq0 259 _ _ _ rfl
set_option maxRecDepth 20000 in
theorem k0_400 : am_at 0 400 = some (.aload 0, 401) := am_kq0 260 _ _ _ rfl
set_option maxRecDepth 20000 in
theorem k0_401 : am_at 0 401 = some (.iload 3, 402) := am_kq0 261 _ _ _ rfl
set_option maxRecDepth 20000 in
theorem k0_402 : am_at 0 402 = some (.bipush 2, 403) := am_kq0 262 _ _ _ rfl
set_option maxRecDepth 20000 in
theorem k0_403 : am_at 0 403 = some (.iadd, 404) := am_kq0 263 _ _ _ rfl
set_option maxRecDepth 20000 in
theorem k0_404 : am_at 0 404 = some (.caload, 405) := am_kq0 264 _ _ _ rfl
set_option maxRecDepth 20000 in
theorem k0_405 : am_at 0 405 = some (.invokestatic 9, 408) := am_kq0 265 _ _ _ rfl
set_option maxRecDepth 20000 in
theorem k0_408 : am_at 0 408 = some (.aload 2, 409) := am_kq0 266 _ _ _ rfl
set_option maxRecDepth 20000 in
theorem k0_409 : am_at 0 409 = some (.aload 0, 410) := am_kq0 267 _ _ _ rfl
set_option maxRecDepth 20000 in
theorem k0_410 : am_at 0 410 = some (.iload 3, 411) := am_kq0 268 _ _ _ rfl
set_option maxRecDepth 20000 in
theorem k0_411 : am_at 0 411 = some (.bipush 1, 412) := am_kq0 269 _ _ _ rfl
set_option maxRecDepth 20000 in
theorem k0_412 : am_at 0 412 = some (.iadd, 413) := am_kq0 270 _ _ _ rfl
set_option maxRecDepth 20000 in
theorem k0_413 : am_at 0 413 = some (.caload, 414) := am_kq0 271 _ _ _ rfl
set_option maxRecDepth 20000 in
theorem k0_414 : am_at 0 414 = some (.aload 0, 415) := am_kq0 272 _ _ _ rfl
set_option maxRecDepth 20000 in
theorem k0_415 : am_at 0 415 = some (.iload 3, 416) := am_kq0 273 _ _ _ rfl
set_option maxRecDepth 20000 in
theorem k0_416 : am_at 0 416 = some (.bipush 2, 417) := am_kq0 274 _ _ _ rfl
set_option maxRecDepth 20000 in
theorem k0_417 : am_at 0 417 = some (.iadd, 418) := am_kq0 275 _ _ _ rfl
set_option maxRecDepth 20000 in
theorem k0_418 : am_at 0 418 = some (.caload, 419) := am_kq0 276 _ _ _ rfl
set_option maxRecDepth 20000 in
theorem k0_419 : am_at 0 419 = some (.invokestatic 51, 422) := am_kq0 277 _ _ _ rfl
set_option maxRecDepth 20000 in
theorem k0_422 : am_at 0 422 = some (.if_icmp .eq 768, 425) := am_kq0 278 _ _ _ rfl
set_option maxRecDepth 20000 in
theorem k0_425 : am_at 0 425 = some (.bipush 0, 426) := am_kq0 279 _ _ _ rfl
set_option maxRecDepth 20000 in
theorem k0_426 : am_at 0 426 = some (.ireturn, 427) := am_kq0 280 _ _ _ rfl
set_option maxRecDepth 20000 in
theorem k0_427 : am_at 0 427 = some (.aload 1, 428) := am_kq0 281 _ _ _ rfl
set_option maxRecDepth 20000 in
theorem k0_428 : am_at 0 428 = some (.aload 0, 429) := am_kq0 282 _ _ _ rfl
set_option maxRecDepth 20000 in
theorem k0_429 : am_at 0 429 = some (.iload 3, 430) := am_kq0 283 _ _ _ rfl
set_option maxRecDepth 20000 in
theorem k0_430 : am_at 0 430 = some (.bipush 1, 431) := am_kq0 284 _ _ _ rfl
set_option maxRecDepth 20000 in
theorem k0_431 : am_at 0 431 = some (.iadd, 432) := am_kq0 285 _ _ _ rfl
set_option maxRecDepth 20000 in
theorem k0_432 : am_at 0 432 = some (.caload, 433) := am_kq0 286 _ _ _ rfl
set_option maxRecDepth 20000 in
theorem k0_433 : am_at 0 433 = some (.aload 0, 434) := am_kq0 287 _ _ _ rfl
set_option maxRecDepth 20000 in
theorem k0_434 : am_at 0 434 = some (.iload 3, 435) := am_kq0 288 _ _ _ rfl
set_option maxRecDepth 20000 in
theorem k0_435 : am_at 0 435 = some (.bipush 2, 436) := am_kq0 289 _ _ _ rfl
set_option maxRecDepth 20000 in
theorem k0_436 : am_at 0 436 = some (.iadd, 437) := am_kq0 290 _ _ _ rfl
set_option maxRecDepth 20000 in
theorem k0_437 : am_at 0 437 = some (.caload, 438) := am_kq0 291 _ _ _ rfl
set_option maxRecDepth 20000 in
theorem k0_438 : am_at 0 438 = some (.aload 0, 439) := am_kq0 292 _ _ _ rfl
set_option maxRecDepth 20000 in
theorem k0_439 : am_at 0 439 = some (.iload 3, 440) := am_kq0 293 _ _ _ rfl
set_option maxRecDepth 20000 in
theorem k0_440 : am_at 0 440 = some (.bipush 3, 441) := am_kq0 294 _ _ _ rfl
set_option maxRecDepth 20000 in
theorem k0_441 : am_at 0 441 = some (.iadd, 442) := am_kq0 295 _ _ _ rfl
set_option maxRecDepth 20000 in
theorem k0_442 : am_at 0 442 = some (.caload, 443) := am_kq0 296 _ _ _ rfl
set_option maxRecDepth 20000 in
theorem k0_443 : am_at 0 443 = some (.aload 0, 444) := am_kq0 297 _ _ _ rfl
set_option maxRecDepth 20000 in
theorem k0_444 : am_at 0 444 = some (.iload 3, 445) := am_kq0 298 _ _ _ rfl
set_option maxRecDepth 20000 in
theorem k0_445 : am_at 0 445 = some (.bipush 4, 446) := am_kq0 299 _ _ _ rfl
set_option maxRecDepth 20000 in
theorem k0_446 : am_at 0 446 = some (.iadd, 447) := am_kq0 300 _ _ _ rfl
set_option maxRecDepth 20000 in
theorem k0_447 : am_at 0 447 = some (.caload, 448) := am_kq0 301 _ _ _ rfl
set_option maxRecDepth 20000 in
theorem k0_448 : am_at 0 448 = some (.aload 0, 449) := am_kq0 302 _ _ _ rfl
set_option maxRecDepth 20000 in
theorem k0_449 : am_at 0 449 = some (.iload 3, 450) := am_kq0 303 _ _ _ rfl
set_option maxRecDepth 20000 in
theorem k0_450 : am_at 0 450 = some (.bipush 5, 451) := am_kq0 304 _ _ _ rfl
set_option maxRecDepth 20000 in
theorem k0_451 : am_at 0 451 = some (.iadd, 452) := am_kq0 305 _ _ _ rfl
set_option maxRecDepth 20000 in
theorem k0_452 : am_at 0 452 = some (.caload, 453) := am_kq0 306 _ _ _ rfl
set_option maxRecDepth 20000 in
theorem k0_453 : am_at 0 453 = some (.invokestatic 10, 456) := am_kq0 307 _ _ _ rfl
set_option maxRecDepth 20000 in
theorem k0_456 : am_at 0 456 = some (.aload 2, 457) := am_kq0 308 _ _ _ rfl
set_option maxRecDepth 20000 in
theorem k0_457 : am_at 0 457 = some (.aload 0, 458) := am_kq0 309 _ _ _ rfl
set_option maxRecDepth 20000 in
theorem k0_458 : am_at 0 458 = some (.iload 3, 459) := am_kq0 310 _ _ _ rfl
set_option maxRecDepth 20000 in
theorem k0_459 : am_at 0 459 = some (.bipush 1, 460) := am_kq0 311 _ _ _ rfl
set_option maxRecDepth 20000 in
theorem k0_460 : am_at 0 460 = some (.iadd, 461) := am_kq0 312 _ _ _ rfl
set_option maxRecDepth 20000 in
theorem k0_461 : am_at 0 461 = some (.caload, 462) := am_kq0 313 _ _ _ rfl
set_option maxRecDepth 20000 in
theorem k0_462 : am_at 0 462 = some (.aload 0, 463) := am_kq0 314 _ _ _ rfl
set_option maxRecDepth 20000 in
theorem k0_463 : am_at 0 463 = some (.iload 3, 464) := am_kq0 315 _ _ _ rfl
set_option maxRecDepth 20000 in
theorem k0_464 : am_at 0 464 = some (.bipush 2, 465) := am_kq0 316 _ _ _ rfl
set_option maxRecDepth 20000 in
theorem k0_465 : am_at 0 465 = some (.iadd, 466) := am_kq0 317 _ _ _ rfl
set_option maxRecDepth 20000 in
theorem k0_466 : am_at 0 466 = some (.caload, 467) := am_kq0 318 _ _ _ rfl
set_option maxRecDepth 20000 in
theorem k0_467 : am_at 0 467 = some (.aload 0, 468) := am_kq0 319 _ _ _ rfl
set_option maxRecDepth 20000 in
theorem k0_468 : am_at 0 468 = some (.iload 3, 469) := am_kq0 320 _ _ _ rfl
set_option maxRecDepth 20000 in
theorem k0_469 : am_at 0 469 = some (.bipush 3, 470) := am_kq0 321 _ _ _ rfl
set_option maxRecDepth 20000 in
theorem k0_470 : am_at 0 470 = some (.iadd, 471) := am_kq0 322 _ _ _ rfl
set_option maxRecDepth 20000 in
theorem k0_471 : am_at 0 471 = some (.caload, 472) := am_kq0 323 _ _ _ rfl
set_option maxRecDepth 20000 in
theorem k0_472 : am_at 0 472 = some (.aload 0, 473) := am_kq0 324 _ _ _ rfl
set_option maxRecDepth 20000 in
theorem k0_473 : am_at 0 473 = some (.iload 3, 474) := am_kq0 325 _ _ _ rfl
set_option maxRecDepth 20000 in
theorem k0_474 : am_at 0 474 = some (.bipush 4, 475) := am_kq0 326 _ _ _ rfl
set_option maxRecDepth 20000 in
theorem k0_475 : am_at 0 475 = some (.iadd, 476) := am_kq0 327 _ _ _ rfl
set_option maxRecDepth 20000 in
theorem k0_476 : am_at 0 476 = some (.caload, 477) := am_kq0 328 _ _ _ rfl
set_option maxRecDepth 20000 in
theorem k0_477 : am_at 0 477 = some (.aload 0, 478) := am_kq0 329 _ _ _ rfl
set_option maxRecDepth 20000 in
theorem k0_478 : am_at 0 478 = some (.iload 3, 479) := am_kq0 330 _ _ _ rfl
set_option maxRecDepth 20000 in
theorem k0_479 : am_at 0 479 = some (.bipush 5, 480) := am_kq0 331 _ _ _ rfl
set_option maxRecDepth 20000 in
theorem k0_480 : am_at 0 480 = some (.iadd, 481) := am_kq0 332 _ _ _ rfl
set_option maxRecDepth 20000 in
theorem k0_481 : am_at 0 481 = some (.caload, 482) := am_kq0 333 _ _ _ rfl
set_option maxRecDepth 20000 in
theorem k0_482 : am_at 0 482 = some (.invokestatic 54, 485) := am_kq0 334 _ _ _ rfl
set_option maxRecDepth 20000 in
theorem k0_485 : am_at 0 485 = some (.if_icmp .eq 768, 488) := am_kq0 335 _ _ _ rfl
set_option maxRecDepth 20000 in
theorem k0_488 : am_at 0 488 = some (.bipush 0, 489) := am_kq0 336 _ _ _ rfl
set_option maxRecDepth 20000 in
theorem k0_489 : am_at 0 489 = some (.ireturn, 490) := am_kq0 337 _ _ _ rfl
set_option maxRecDepth 20000 in
theorem k0_490 : am_at 0 490 = some (.aload 1, 491) := am_kq0 338 _ _ _ rfl
set_option maxRecDepth 20000 in
theorem k0_491 : am_at 0 491 = some (.aload 0, 492) := am_kq0 339 _ _ _ rfl
set_option maxRecDepth 20000 in
theorem k0_492 : am_at 0 492 = some (.iload 3, 493) := am_kq0 340 _ _ _ rfl
set_option maxRecDepth 20000 in
theorem k0_493 : am_at 0 493 = some (.bipush 1, 494) := am_kq0 341 _ _ _ rfl
set_option maxRecDepth 20000 in
theorem k0_494 : am_at 0 494 = some (.iadd, 495) := am_kq0 342 _ _ _ rfl
set_option maxRecDepth 20000 in
theorem k0_495 : am_at 0 495 = some (.caload, 496) := am_kq0 343 _ _ _ rfl
set_option maxRecDepth 20000 in
theorem k0_496 : am_at 0 496 = some (.invokestatic 11, 499) := am_kq0 344 _ _ _ rfl
set_option maxRecDepth 20000 in
theorem k0_499 : am_at 0 499 = some (.aload 2, 500) := am_kq0 345 _ _ _ rfl
set_option maxRecDepth 20000 in
theorem k0_500 : am_at 0 500 = some (.aload 0, 501) := am_kq0 346 _ _ _ rfl
set_option maxRecDepth 20000 in
theorem k0_501 : am_at 0 501 = some (.iload 3, 502) := am_kq0 347 _ _ _ rfl
set_option maxRecDepth 20000 in
theorem k0_502 : am_at 0 502 = some (.bipush 1, 503) := am_kq0 348 _ _ _ rfl
set_option maxRecDepth 20000 in
theorem k0_503 : am_at 0 503 = some (.iadd, 504) := am_kq0 349 _ _ _ rfl
set_option maxRecDepth 20000 in
theorem k0_504 : am_at 0 504 = some (.caload, 505) := am_kq0 350 _ _ _ rfl
set_option maxRecDepth 20000 in
theorem k0_505 : am_at 0 505 = some (.invokestatic 55, 508) := am_kq0 351 _ _ _ rfl
set_option maxRecDepth 20000 in
theorem k0_508 : am_at 0 508 = some (.if_icmp .eq 768, 511) := am_kq0 352 _ _ _ rfl
set_option maxRecDepth 20000 in
theorem k0_511 : am_at 0 511 = some (.bipush 0, 512) := am_kq0 353 _ _ _ rfl
set_option maxRecDepth 20000 in
theorem k0_512 : am_at 0 512 = some (.ireturn, 513) := am_kq0 354 _ _ _ rfl
set_option maxRecDepth 20000 in
theorem k0_513 : am_at 0 513 = some (.aload 1, 514) := am_kq0 355 _ _ _ rfl
set_option maxRecDepth 20000 in
theorem k0_514 : am_at 0 514 = some (.aload 0, 515) := am_kq0 356 _ _ _ rfl
set_option maxRecDepth 20000 in
theorem k0_515 : am_at 0 515 = some (.iload 3, 516) := am_kq0 357 _ _ _ rfl
set_option maxRecDepth 20000 in
theorem k0_516 : am_at 0 516 = some (.bipush 1, 517) := am_kq0 358 _ _ _ rfl
set_option maxRecDepth 20000 in
theorem k0_517 : am_at 0 517 = some (.iadd, 518) := am_kq0 359 _ _ _ rfl
set_option maxRecDepth 20000 in
theorem k0_518 : am_at 0 518 = some (.caload, 519) := am_kq0 360 _ _ _ rfl
set_option maxRecDepth 20000 in
theorem k0_519 : am_at 0 519 = some (.aload 0, 520) := am_kq0 361 _ _ _ rfl
set_option maxRecDepth 20000 in
theorem k0_520 : am_at 0 520 = some (.iload 3, 521) := am_kq0 362 _ _ _ rfl
set_option maxRecDepth 20000 in
theorem k0_521 : am_at 0 521 = some (.bipush 2, 522) := am_kq0 363 _ _ _ rfl
set_option maxRecDepth 20000 in
theorem k0_522 : am_at 0 522 = some (.iadd, 523) := am_kq0 364 _ _ _ rfl
set_option maxRecDepth 20000 in
theorem k0_523 : am_at 0 523 = some (.caload, 524) := am_kq0 365 _ _ _ rfl
set_option maxRecDepth 20000 in
theorem k0_524 : am_at 0 524 = some (.aload 0, 525) := am_kq0 366 _ _ _ rfl
set_option maxRecDepth 20000 in
theorem k0_525 : am_at 0 525 = some (.iload 3, 526) := am_kq0 367 _ _ _ rfl
set_option maxRecDepth 20000 in
theorem k0_526 : am_at 0 526 = some (.bipush 3, 527) := am_kq0 368 _ _ _ rfl
set_option maxRecDepth 20000 in
theorem k0_527 : am_at 0 527 = some (.iadd, 528) := am_kq0 369 _ _ _ rfl
set_option maxRecDepth 20000 in
theorem k0_528 : am_at 0 528 = some (.caload, 529) := am_kq0 370 _ _ _ rfl
set_option maxRecDepth 20000 in
theorem k0_529 : am_at 0 529 = some (.invokestatic 12, 532) := am_kq0 371 _ _ _ rfl
set_option maxRecDepth 20000 in
theorem k0_532 : am_at 0 532 = some (.aload 2, 533) := am_kq0 372 _ _ _ rfl
set_option maxRecDepth 20000 in
theorem k0_533 : am_at 0 533 = some (.aload 0, 534) := am_kq0 373 _ _ _ rfl
set_option maxRecDepth 20000 in
theorem k0_534 : am_at 0 534 = some (.iload 3, 535) := am_kq0 374 _ _ _ rfl
set_option maxRecDepth 20000 in
theorem k0_535 : am_at 0 535 = some (.bipush 1, 536) := am_kq0 375 _ _ _ rfl
set_option maxRecDepth 20000 in
theorem k0_536 : am_at 0 536 = some (.iadd, 537) := am_kq0 376 _ _ _ rfl
set_option maxRecDepth 20000 in
theorem k0_537 : am_at 0 537 = some (.caload, 538) := am_kq0 377 _ _ _ rfl
set_option maxRecDepth 20000 in
theorem k0_538 : am_at 0 538 = some (.aload 0, 539) := am_kq0 378 _ _ _ rfl
set_option maxRecDepth 20000 in
theorem k0_539 : am_at 0 539 = some (.iload 3, 540) := am_kq0 379 _ _ _ rfl
set_option maxRecDepth 20000 in
theorem k0_540 : am_at 0 540 = some (.bipush 2, 541) := am_kq0 380 _ _ _ rfl
set_option maxRecDepth 20000 in
theorem k0_541 : am_at 0 541 = some (.iadd, 542) := am_kq0 381 _ _ _ rfl
set_option maxRecDepth 20000 in
theorem k0_542 : am_at 0 542 = some (.caload, 543) := am_kq0 382 _ _ _ rfl
set_option maxRecDepth 20000 in
theorem k0_543 : am_at 0 543 = some (.aload 0, 544) := am_kq0 383 _ _ _ rfl
set_option maxRecDepth 20000 in
theorem k0_544 : am_at 0 544 = some (.iload 3, 545) := am_kq0 384 _ _ _ rfl
set_option maxRecDepth 20000 in
theorem k0_545 : am_at 0 545 = some (.bipush 3, 546) := am_kq0 385 _ _ _ rfl
set_option maxRecDepth 20000 in
theorem k0_546 : am_at 0 546 = some (.iadd, 547) := am_kq0 386 _ _ _ rfl
set_option maxRecDepth 20000 in
theorem k0_547 : am_at 0 547 = some (.caload, 548) := am_kq0 387 _ _ _ rfl
set_option maxRecDepth 20000 in
theorem k0_548 : am_at 0 548 = some (.invokestatic 56, 551) := am_kq0 388 _ _ _ rfl
set_option maxRecDepth 20000 in
theorem k0_551 : am_at 0 551 = some (.if_icmp .eq 768, 554) := am_kq0 389 _ _ _ rfl
set_option maxRecDepth 20000 in
theorem k0_554 : am_at 0 554 = some (.bipush 0, 555) := am_kq0 390 _ _ _ rfl
set_option maxRecDepth 20000 in
theorem k0_555 : am_at 0 555 = some (.ireturn, 556) := am_kq0 391 _ _ _ rfl
set_option maxRecDepth 20000 in
theorem k0_556 : am_at 0 556 = some (.aload 1, 557) := am_kq0 392 _ _ _ rfl
set_option maxRecDepth 20000 in
theorem k0_557 : am_at 0 557 = some (.aload 0, 558) := am_kq0 393 _ _ _ rfl
set_option maxRecDepth 20000 in
theorem k0_558 : am_at 0 558 = some (.iload 3, 559) := am_kq0 394 _ _ _ rfl
set_option maxRecDepth 20000 in
theorem k0_559 : am_at 0 559 = some (.bipush 1, 560) := am_kq0 395 _ _ _ rfl
set_option maxRecDepth 20000 in
theorem k0_560 : am_at 0 560 = some (.iadd, 561) := am_kq0 396 _ _ _ rfl
set_option maxRecDepth 20000 in
theorem k0_561 : am_at 0 561 = some (.caload, 562) := am_kq0 397 _ _ _ rfl
set_option maxRecDepth 20000 in
theorem k0_562 : am_at 0 562 = some (.invokestatic 13, 565) := am_kq0 398 _ _ _ rfl
set_option maxRecDepth 20000 in
theorem k0_565 : am_at 0 565 = some (.aload 2, 566) := am_kq0 399 _ _ _ rfl
set_option maxRecDepth 20000 in
theorem k0_566 : am_at 0 566 = some (.aload 0, 567) := am_kq0 400 _ _ _ rfl
set_option maxRecDepth 20000 in
theorem k0_567 : am_at 0 567 = some (.iload 3, 568) := am_kq0 401 _ _ _ rfl
set_option maxRecDepth 20000 in
theorem k0_568 : am_at 0 568 = some (.bipush 1, 569) := am_kq0 402 _ _ _ rfl
set_option maxRecDepth 20000 in
theorem k0_569 : am_at 0 569 = some (.iadd, 570) := am_kq0 403 _ _ _ rfl
set_option maxRecDepth 20000 in
theorem k0_570 : am_at 0 570 = some (.caload, 571) := am_kq0 404 _ _ _ rfl
set_option maxRecDepth 20000 in
theorem k0_571 : am_at 0 571 = some (.invokestatic 57, 574) := am_kq0 405 _ _ _ rfl
set_option maxRecDepth 20000 in
theorem k0_574 : am_at 0 574 = some (.if_icmp .eq 768, 577) := am_kq0 406 _ _ _ rfl
set_option maxRecDepth 20000 in
theorem k0_577 : am_at 0 577 = some (.bipush 0, 578) := am_kq0 407 _ _ _ rfl
set_option maxRecDepth 20000 in
theorem k0_578 : am_at 0 578 = some (.ireturn, 579) := am_kq0 408 _ _ _ rfl
set_option maxRecDepth 20000 in
theorem k0_579 : am_at 0 579 = some (.aload 1, 580) := am_kq0 409 _ _ _ rfl
set_option maxRecDepth 20000 in
theorem k0_580 : am_at 0 580 = some (.aload 0, 581) := am_kq0 410 _ _ _ rfl
set_option maxRecDepth 20000 in
theorem k0_581 : am_at 0 581 = some (.iload 3, 582) := am_kq0 411 _ _ _ rfl
set_option maxRecDepth 20000 in
theorem k0_582 : am_at 0 582 = some (.bipush 1, 583) := am_kq0 412 _ _ _ rfl
set_option maxRecDepth 20000 in
theorem k0_583 : am_at 0 583 = some (.iadd, 584) := am_kq0 413 _ _ _ rfl
set_option maxRecDepth 20000 in
theorem k0_584 : am_at 0 584 = some (.caload, 585) := am_kq0 414 _ _ _ rfl
set_option maxRecDepth 20000 in
theorem k0_585 : am_at 0 585 = some (.aload 0, 586) := am_kq0 415 _ _ _ rfl
set_option maxRecDepth 20000 in
theorem k0_586 : am_at 0 586 = some (.iload 3, 587) := am_kq0 416 _ _ _ rfl
set_option maxRecDepth 20000 in
theorem k0_587 : am_at 0 587 = some (.bipush 2, 588) := am_kq0 417 _ _ _ rfl
set_option maxRecDepth 20000 in
theorem k0_588 : am_at 0 588 = some (.iadd, 589) := am_kq0 418 _ _ _ rfl
set_option maxRecDepth 20000 in
theorem k0_589 : am_at 0 589 = some (.caload, 590) := am_kq0 419 _ _ _ rfl
set_option maxRecDepth 20000 in
theorem k0_590 : am_at 0 590 = some (.aload 0, 591) := am_kq0 420 _ _ _ rfl
set_option maxRecDepth 20000 in
theorem k0_591 : am_at 0 591 = some (.iload 3, 592) := am_kq0 421 _ _ _ rfl
set_option maxRecDepth 20000 in
theorem k0_592 : am_at 0 592 = some (.bipush 3, 593) := am_kq0 422 _ _ _ rfl
set_option maxRecDepth 20000 in
theorem k0_593 : am_at 0 593 = some (.iadd, 594) := am_kq0 423 _ _ _ rfl
set_option maxRecDepth 20000 in
theorem k0_594 : am_at 0 594 = some (.caload, 595) := am_kq0 424 _ _ _ rfl
set_option maxRecDepth 20000 in
theorem k0_595 : am_at 0 595 = some (.invokestatic 14, 598) := am_kq0 425 _ _ _ rfl
set_option maxRecDepth 20000 in
theorem k0_598 : am_at 0 598 = some (.aload 2, 599) := am_kq0 426 _ _ _ rfl
set_option maxRecDepth 20000 in
theorem k0_599 : am_at 0 599 = some (.aload 0, 600) := am_kq0 427 _ _ _ rfl
set_option maxRecDepth 20000 in
theorem k0_600 : am_at 0 600 = some (.iload 3, 601) := am_kq0 428 _ _ _ rfl
set_option maxRecDepth 20000 in
theorem k0_601 : am_at 0 601 = some (.bipush 1, 602) := am_kq0 429 _ _ _ rfl
set_option maxRecDepth 20000 in
theorem k0_602 : am_at 0 602 = some (.iadd, 603) := am_kq0 430 _ _ _ rfl
set_option maxRecDepth 20000 in
theorem k0_603 : am_at 0 603 = some (.caload, 604) := am_kq0 431 _ _ _ rfl
set_option maxRecDepth 20000 in
theorem k0_604 : am_at 0 604 = some (.aload 0, 605) := am_kq0 432 _ _ _ rfl
set_option maxRecDepth 20000 in
theorem k0_605 : am_at 0 605 = some (.iload 3, 606) := am_kq0 433 _ _ _ rfl
set_option maxRecDepth 20000 in
theorem k0_606 : am_at 0 606 = some (.bipush 2, 607) := am_kq0 434 _ _ _ rfl
set_option maxRecDepth 20000 in
theorem k0_607 : am_at 0 607 = some (.iadd, 608) := am_kq0 435 _ _ _ rfl
set_option maxRecDepth 20000 in
theorem k0_608 : am_at 0 608 = some (.caload, 609) := am_kq0 436 _ _ _ rfl
set_option maxRecDepth 20000 in
theorem k0_609 : am_at 0 609 = some (.aload 0, 610) := am_kq0 437 _ _ _ rfl
set_option maxRecDepth 20000 in
theorem k0_610 : am_at 0 610 = some (.iload 3, 611) := am_kq0 438 _ _ _ rfl
set_option maxRecDepth 20000 in
theorem k0_611 : am_at 0 611 = some (.bipush 3, 612) := am_kq0 439 _ _ _ rfl
set_option maxRecDepth 20000 in
theorem k0_612 : am_at 0 612 = some (.iadd, 613) := am_kq0 440 _ _ _ rfl
set_option maxRecDepth 20000 in
theorem k0_613 : am_at 0 613 = some (.caload, 614) := am_kq0 441 _ _ _ rfl
set_option maxRecDepth 20000 in
theorem k0_614 : am_at 0 614 = some (.invokestatic 70, 617) := am_kq0 442 _ _ _ rfl
set_option maxRecDepth 20000 in
theorem k0_617 : am_at 0 617 = some (.lcmp, 618) := am_kq0 443 _ _ _ rfl
set_option maxRecDepth 20000 in
theorem k0_618 : am_at 0 618 = some (.ifCond .eq 768, 621) := am_kq0 444 _ _ _ rfl
set_option maxRecDepth 20000 in
theorem k0_621 : am_at 0 621 = some (.bipush 0, 622) := am_kq0 445 _ _ _ rfl
set_option maxRecDepth 20000 in
theorem k0_622 : am_at 0 622 = some (.ireturn, 623) := am_kq0 446 _ _ _ rfl
set_option maxRecDepth 20000 in
theorem k0_623 : am_at 0 623 = some (.aload 1, 624) := am_kq0 447 _ _ _ rfl
set_option maxRecDepth 20000 in
theorem k0_624 : am_at 0 624 = some (.aload 0, 625) := am_kq0 448 _ _ _ rfl
set_option maxRecDepth 20000 in
theorem k0_625 : am_at 0 625 = some (.iload 3, 626) := am_kq0 449 _ _ _ rfl
set_option maxRecDepth 20000 in
theorem k0_626 : am_at 0 626 = some (.bipush 1, 627) := am_kq0 450 _ _ _ rfl
set_option maxRecDepth 20000 in
theorem k0_627 : am_at 0 627 = some (.iadd, 628) := am_kq0 451 _ _ _ rfl
set_option maxRecDepth 20000 in
theorem k0_628 : am_at 0 628 = some (.caload, 629) := am_kq0 452 _ _ _ rfl
set_option maxRecDepth 20000 in
theorem k0_629 : am_at 0 629 = some (.aload 0, 630) := am_kq0 453 _ _ _ rfl
set_option maxRecDepth 20000 in
theorem k0_630 : am_at 0 630 = some (.iload 3, 631) := am_kq0 454 _ _ _ rfl
set_option maxRecDepth 20000 in
theorem k0_631 : am_at 0 631 = some (.bipush 2, 632) := am_kq0 455 _ _ _ rfl
set_option maxRecDepth 20000 in
theorem k0_632 : am_at 0 632 = some (.iadd, 633) := am_kq0 456 _ _ _ rfl
set_option maxRecDepth 20000 in
theorem k0_633 : am_at 0 633 = some (.caload, 634) := am_kq0 457 _ _ _ rfl
set_option maxRecDepth 20000 in
theorem k0_634 : am_at 0 634 = some (.invokestatic 15, 637) := am_kq0 458 _ _ _ rfl
set_option maxRecDepth 20000 in
theorem k0_637 : am_at 0 637 = some (.aload 2, 638) := am_kq0 459 _ _ _ rfl
set_option maxRecDepth 20000 in
theorem k0_638 : am_at 0 638 = some (.aload 0, 639) := am_kq0 460 _ _ _ rfl
set_option maxRecDepth 20000 in
theorem k0_639 : am_at 0 639 = some (.iload 3, 640) := am_kq0 461 _ _ _ rfl
set_option maxRecDepth 20000 in
theorem k0_640 : am_at 0 640 = some (.bipush 1, 641) := am_kq0 462 _ _ _ rfl
set_option maxRecDepth 20000 in
theorem k0_641 : am_at 0 641 = some (.iadd, 642) := am_kq0 463 _ _ _ rfl
set_option maxRecDepth 20000 in
theorem k0_642 : am_at 0 642 = some (.caload, 643) := am_kq0 464 _ _ _ rfl
set_option maxRecDepth 20000 in
theorem k0_643 : am_at 0 643 = some (.aload 0, 644) := am_kq0 465 _ _ _ rfl
set_option maxRecDepth 20000 in
theorem k0_644 : am_at 0 644 = some (.iload 3, 645) := am_kq0 466 _ _ _ rfl
set_option maxRecDepth 20000 in
theorem k0_645 : am_at 0 645 = some (.bipush 2, 646) := am_kq0 467 _ _ _ rfl
set_option maxRecDepth 20000 in
theorem k0_646 : am_at 0 646 = some (.iadd, 647) := am_kq0 468 _ _ _ rfl
set_option maxRecDepth 20000 in
theorem k0_647 : am_at 0 647 = some (.caload, 648) := am_kq0 469 _ _ _ rfl
set_option maxRecDepth 20000 in
theorem k0_648 : am_at 0 648 = some (.invokestatic 71, 651) := am_kq0 470 _ _ _ rfl
set_option maxRecDepth 20000 in
theorem k0_651 : am_at 0 651 = some (.if_icmp .eq 768, 654) := am_kq0 471 _ _ _ rfl
set_option maxRecDepth 20000 in
theorem k0_654 : am_at 0 654 = some (.bipush 0, 655) := am_kq0 472 _ _ _ rfl
set_option maxRecDepth 20000 in
theorem k0_655 : am_at 0 655 = some (.ireturn, 656) := am_kq0 473 _ _ _ rfl
set_option maxRecDepth 20000 in
theorem k0_656 : am_at 0 656 = some (.aload 1, 657) := am_kq0 474 _ _ _ rfl
set_option maxRecDepth 20000 in
theorem k0_657 : am_at 0 657 = some (.aload 0, 658) := am_kq0 475 _ _ _ rfl
set_option maxRecDepth 20000 in
theorem k0_658 : am_at 0 658 = some (.iload 3, 659) := am_kq0 476 _ _ _ rfl
set_option maxRecDepth 20000 in
theorem k0_659 : am_at 0 659 = some (.bipush 1, 660) := am_kq0 477 _ _ _ rfl
set_option maxRecDepth 20000 in
theorem k0_660 : am_at 0 660 = some (.iadd, 661) := am_kq0 478 _ _ _ rfl
set_option maxRecDepth 20000 in
theorem k0_661 : am_at 0 661 = some (.caload, 662) := am_kq0 479 _ _ _ rfl
set_option maxRecDepth 20000 in
theorem k0_662 : am_at 0 662 = some (.aload 0, 663) := am_kq0 480 _ _ _ rfl
set_option maxRecDepth 20000 in
theorem k0_663 : am_at 0 663 = some (.iload 3, 664) := am_kq0 481 _ _ _ rfl
set_option maxRecDepth 20000 in
theorem k0_664 : am_at 0 664 = some (.bipush 2, 665) := am_kq0 482 _ _ _ rfl
set_option maxRecDepth 20000 in
theorem k0_665 : am_at 0 665 = some (.iadd, 666) := am_kq0 483 _ _ _ rfl
set_option maxRecDepth 20000 in
theorem k0_666 : am_at 0 666 = some (.caload, 667) := am_kq0 484 _ _ _ rfl
set_option maxRecDepth 20000 in
theorem k0_667 : am_at 0 667 = some (.invokestatic 16, 670) := am_kq0 485 _ _ _ rfl
set_option maxRecDepth 20000 in
theorem k0_670 : am_at 0 670 = some (.aload 2, 671) := am_kq0 486 _ _ _ rfl
set_option maxRecDepth 20000 in
theorem k0_671 : am_at 0 671 = some (.aload 0, 672) := am_kq0 487 _ _ _ rfl
set_option maxRecDepth 20000 in
theorem k0_672 : am_at 0 672 = some (.iload 3, 673) := am_kq0 488 _ _ _ rfl
set_option maxRecDepth 20000 in
theorem k0_673 : am_at 0 673 = some (.bipush 1, 674) := am_kq0 489 _ _ _ rfl
set_option maxRecDepth 20000 in
theorem k0_674 : am_at 0 674 = some (.iadd, 675) := am_kq0 490 _ _ _ rfl
set_option maxRecDepth 20000 in
theorem k0_675 : am_at 0 675 = some (.caload, 676) := am_kq0 491 _ _ _ rfl
set_option maxRecDepth 20000 in
theorem k0_676 : am_at 0 676 = some (.aload 0, 677) := am_kq0 492 _ _ _ rfl
set_option maxRecDepth 20000 in
theorem k0_677 : am_at 0 677 = some (.iload 3, 678) := am_kq0 493 _ _ _ rfl
set_option maxRecDepth 20000 in
theorem k0_678 : am_at 0 678 = some (.bipush 2, 679) := am_kq0 494 _ _ _ rfl
set_option maxRecDepth 20000 in
theorem k0_679 : am_at 0 679 = some (.iadd, 680) := am_kq0 495 _ _ _ rfl
set_option maxRecDepth 20000 in
theorem k0_680 : am_at 0 680 = some (.caload, 681) := am_kq0 496 _ _ _ rfl
set_option maxRecDepth 20000 in
theorem k0_681 : am_at 0 681 = some (.invokestatic 72, 684) := am_kq0 497 _ _ _ rfl
set_option maxRecDepth 20000 in
theorem k0_684 : am_at 0 684 = some (.if_icmp .eq 768, 687) := am_kq0 498 _ _ _ rfl
set_option maxRecDepth 20000 in
theorem k0_687 : am_at 0 687 = some (.bipush 0, 688) := am_kq0 499 _ _ _ rfl
set_option maxRecDepth 20000 in
theorem k0_688 : am_at 0 688 = some (.ireturn, 689) := am_kq0 500 _ _ _ rfl
set_option maxRecDepth 20000 in
theorem k0_689 : am_at 0 689 = some (.aload 1, 690) := am_kq0 501 _ _ _ rfl
set_option maxRecDepth 20000 in
theorem k0_690 : am_at 0 690 = some (.aload 0, 691) := am_kq0 502 _ _ _ rfl
set_option maxRecDepth 20000 in
theorem k0_691 : am_at 0 691 = some (.iload 3, 692) := am_kq0 503 _ _ _ rfl
set_option maxRecDepth 20000 in
theorem k0_692 : am_at 0 692 = some (.bipush 1, 693) := am_kq0 504 _ _ _ rfl
set_option maxRecDepth 20000 in
theorem k0_693 : am_at 0 693 = some (.iadd, 694) := am_kq0 505 _ _ _ rfl
set_option maxRecDepth 20000 in
theorem k0_694 : am_at 0 694 = some (.caload, 695) := am_kq0 506 _ _ _ rfl
set_option maxRecDepth 20000 in
theorem k0_695 : am_at 0 695 = some (.aload 0, 696) := am_kq0 507 _ _ _ rfl
set_option maxRecDepth 20000 in
theorem k0_696 : am_at 0 696 = some (.iload 3, 697) := am_kq0 508 _ _ _ rfl
set_option maxRecDepth 20000 in
theorem k0_697 : am_at 0 697 = some (.bipush 2, 698) := am_kq0 509 _ _ _ rfl
set_option maxRecDepth 20000 in
theorem k0_698 : am_at 0 698 = some (.iadd, 699) := am_kq0 510 _ _ _ rfl
set_option maxRecDepth 20000 in
theorem k0_699 : am_at 0 699 = some (.caload, 700) := am_kq0 511 _ _ _ rfl
set_option maxRecDepth 20000 in
theorem k0_700 : am_at 0 700 = some (.invokestatic 17, 703) := am_kq0 512 _ _ _ rfl
set_option maxRecDepth 20000 in
theorem k0_703 : am_at 0 703 = some (.aload 2, 704) := am_kq0 513 _ _ _ rfl
set_option maxRecDepth 20000 in
theorem k0_704 : am_at 0 704 = some (.aload 0, 705) := am_kq0 514 _ _ _ rfl
set_option maxRecDepth 20000 in
theorem k0_705 : am_at 0 705 = some (.iload 3, 706) := am_kq0 515 _ _ _ rfl
set_option maxRecDepth 20000 in
theorem k0_706 : am_at 0 706 = some (.bipush 1, 707) := am_kq0 516 _ _ _ rfl
set_option maxRecDepth 20000 in
theorem k0_707 : am_at 0 707 = some (.iadd, 708) := am_kq0 517 _ _ _ rfl
set_option maxRecDepth 20000 in
theorem k0_708 : am_at 0 708 = some (.caload, 709) := am_kq0 518 _ _ _ rfl
set_option maxRecDepth 20000 in
theorem k0_709 : am_at 0 709 = some (.aload 0, 710) := am_kq0 519 _ _ _ rfl
set_option maxRecDepth 20000 in
theorem k0_710 : am_at 0 710 = some (.iload 3, 711) := am_kq0 520 _ _ _ rfl
set_option maxRecDepth 20000 in
theorem k0_711 : am_at 0 711 = some (.bipush 2, 712) := am_kq0 521 _ _ _ rfl
set_option maxRecDepth 20000 in
theorem k0_712 : am_at 0 712 = some (.iadd, 713) := am_kq0 522 _ _ _ rfl
set_option maxRecDepth 20000 in
theorem k0_713 : am_at 0 713 = some (.caload, 714) := am_kq0 523 _ _ _ rfl
set_option maxRecDepth 20000 in
theorem k0_714 : am_at 0 714 = some (.invokestatic 73, 717) := am_kq0 524 _ _ _ rfl
set_option maxRecDepth 20000 in
theorem k0_717 : am_at 0 717 = some (.if_icmp .eq 768, 720) := am_kq0 525 _ _ _ rfl
set_option maxRecDepth 20000 in
theorem k0_720 : am_at 0 720 = some (.bipush 0, 721) := am_kq0 526 _ _ _ rfl
set_option maxRecDepth 20000 in
theorem k0_721 : am_at 0 721 = some (.ireturn, 722) := am_kq0 527 _ _ _ rfl
set_option maxRecDepth 20000 in
theorem k0_722 : am_at 0 722 = some (.aload 1, 723) := am_kq0 528 _ _ _ rfl
set_option maxRecDepth 20000 in
theorem k0_723 : am_at 0 723 = some (.aload 0, 724) := am_kq0 529 _ _ _ rfl
set_option maxRecDepth 20000 in
theorem k0_724 : am_at 0 724 = some (.iload 3, 725) := am_kq0 530 _ _ _ rfl
set_option maxRecDepth 20000 in
theorem k0_725 : am_at 0 725 = some (.bipush 1, 726) := am_kq0 531 _ _ _ rfl
set_option maxRecDepth 20000 in
theorem k0_726 : am_at 0 726 = some (.iadd, 727) := am_kq0 532 _ _ _ rfl
set_option maxRecDepth 20000 in
theorem k0_727 : am_at 0 727 = some (.caload, 728) := am_kq0 533 _ _ _ rfl
set_option maxRecDepth 20000 in
theorem k0_728 : am_at 0 728 = some (.invokestatic 18, 731) := am_kq0 534 _ _ _ rfl
set_option maxRecDepth 20000 in
theorem k0_731 : am_at 0 731 = some (.aload 2, 732) := am_kq0 535 _ _ _ rfl
set_option maxRecDepth 20000 in
theorem k0_732 : am_at 0 732 = some (.aload 0, 733) := am_kq0 536 _ _ _ rfl
set_option maxRecDepth 20000 in
theorem k0_733 : am_at 0 733 = some (.iload 3, 734) := am_kq0 537 _ _ _ rfl
set_option maxRecDepth 20000 in
theorem k0_734 : am_at 0 734 = some (.bipush 1, 735) := am_kq0 538 _ _ _ rfl
set_option maxRecDepth 20000 in
theorem k0_735 : am_at 0 735 = some (.iadd, 736) := am_kq0 539 _ _ _ rfl
set_option maxRecDepth 20000 in
theorem k0_736 : am_at 0 736 = some (.caload, 737) := am_kq0 540 _ _ _ rfl
set_option maxRecDepth 20000 in
theorem k0_737 : am_at 0 737 = some (.invokestatic 74, 740) := am_kq0 541 _ _ _ rfl
set_option maxRecDepth 20000 in
theorem k0_740 : am_at 0 740 = some (.if_icmp .eq 768, 743) := am_kq0 542 _ _ _ rfl
set_option maxRecDepth 20000 in
theorem k0_743 : am_at 0 743 = some (.bipush 0, 744) := am_kq0 543 _ _ _ rfl
set_option maxRecDepth 20000 in
theorem k0_744 : am_at 0 744 = some (.ireturn, 745) := am_kq0 544 _ _ _ rfl
set_option maxRecDepth 20000 in
theorem k0_745 : am_at 0 745 = some (.aload 1, 746) := am_kq0 545 _ _ _ rfl
set_option maxRecDepth 20000 in
theorem k0_746 : am_at 0 746 = some (.aload 0, 747) := am_kq0 546 _ _ _ rfl
set_option maxRecDepth 20000 in
theorem k0_747 : am_at 0 747 = some (.iload 3, 748) := am_kq0 547 _ _ _ rfl
set_option maxRecDepth 20000 in
theorem k0_748 : am_at 0 748 = some (.bipush 1, 749) := am_kq0 548 _ _ _ rfl
set_option maxRecDepth 20000 in
theorem k0_749 : am_at 0 749 = some (.iadd, 750) := am_kq0 549 _ _ _ rfl
set_option maxRecDepth 20000 in
theorem k0_750 : am_at 0 750 = some (.caload, 751) := am_kq0 550 _ _ _ rfl
set_option maxRecDepth 20000 in
theorem k0_751 : am_at 0 751 = some (.invokestatic 19, 754) := am_kq0 551 _ _ _ rfl
set_option maxRecDepth 20000 in
theorem k0_754 : am_at 0 754 = some (.aload 2, 755) := am_kq0 552 _ _ _ rfl
set_option maxRecDepth 20000 in
theorem k0_755 : am_at 0 755 = some (.aload 0, 756) := am_kq0 553 _ _ _ rfl
set_option maxRecDepth 20000 in
theorem k0_756 : am_at 0 756 = some (.iload 3, 757) := am_kq0 554 _ _ _ rfl
set_option maxRecDepth 20000 in
theorem k0_757 : am_at 0 757 = some (.bipush 1, 758) := am_kq0 555 _ _ _ rfl
set_option maxRecDepth 20000 in
theorem k0_758 : am_at 0 758 = some (.iadd, 759) := am_kq0 556 _ _ _ rfl
set_option maxRecDepth 20000 in
theorem k0_759 : am_at 0 759 = some (.caload, 760) := am_kq0 557 _ _ _ rfl
set_option maxRecDepth 20000 in
theorem k0_760 : am_at 0 760 = some (.invokestatic 75, 763) := am_kq0 558 _ _ _ rfl
set_option maxRecDepth 20000 in
theorem k0_763 : am_at 0 763 = some (.if_icmp .eq 768, 766) := am_kq0 559 _ _ _ rfl
set_option maxRecDepth 20000 in
theorem k0_766 : am_at 0 766 = some (.bipush 0, 767) := am_kq0 560 _ _ _ rfl
set_option maxRecDepth 20000 in
theorem k0_767 : am_at 0 767 = some (.ireturn, 768) := am_kq0 561 _ _ _ rfl
set_option maxRecDepth 20000 in
theorem k0_768 : am_at 0 768 = some (.iinc 3 6, 771) := am_kq0 562 _ _ _ rfl
set_option maxRecDepth 20000 in
theorem k0_771 : am_at 0 771 = some (.goto 18, 774) := am_kq0 563 _ _ _ rfl
set_option maxRecDepth 20000 in
theorem k0_774 : am_at 0 774 = some (.bipush 1, 775) := am_kq0 564 _ _ _ rfl
set_option maxRecDepth 20000 in
theorem k0_775 : am_at 0 775 = some (.ireturn, 776) := am_kq0 565 _ _ _ rfl
set_option maxRecDepth 20000 in
theorem am_kq1 (i pc : Nat) (x : Instr) (nx : Nat) (hi : am_t1[i]? = some (pc, x, nx)) : am_at 1 pc = some (x, nx) := am_kB 1 am_t1 rfl (by decide +kernel) i pc x nx hi
theorem k1_0 : am_at 1 0 = some (.aload 0, 1) := am_kq1 0 _ _ _ rfl
theorem k1_1 : am_at 1 1 = some (.monitorenter, 4) := am_kq1 1 _ _ _ rfl
theorem k1_4 : am_at 1 4 = some (.aload 0, 5) := am_kq1 2 _ _ _ rfl
theorem k1_5 : am_at 1 5 = some (.new 1, 8) := am_kq1 3 _ _ _ rfl
theorem k1_8 : am_at 1 8 = some (.dup, 9) := am_kq1 4 _ _ _ rfl
theorem k1_9 : am_at 1 9 = some (.invokestatic 82, 12) := am_kq1 5 _ _ _ rfl
theorem k1_12 : am_at 1 12 = some (.putfield 0, 15) := am_kq1 6 _ _ _ rfl
theorem k1_15 : am_at 1 15 = some (.aload 0, 16) := am_kq1 7 _ _ _ rfl
theorem k1_16 : am_at 1 16 = some (.new 2, 19) := am_kq1 8 _ _ _ rfl
theorem k1_19 : am_at 1 19 = some (.dup, 20) := am_kq1 9 _ _ _ rfl
theorem k1_20 : am_at 1 20 = some (.aload 0, 21) := am_kq1 10 _ _ _ rfl
theorem k1_21 : am_at 1 21 = some (.getfield 0, 24) := am_kq1 11 _ _ _ rfl
theorem k1_24 : am_at 1 24 = some (.invokestatic 115, 27) := am_kq1 12 _ _ _ rfl
theorem k1_27 : am_at 1 27 = some (.putfield 1, 30) := am_kq1 13 _ _ _ rfl
theorem k1_30 : am_at 1 30 = some (.aload 0, 31) := am_kq1 14 _ _ _ rfl
theorem k1_31 : am_at 1 31 = some (.new 3, 34) := am_kq1 15 _ _ _ rfl
theorem k1_34 : am_at 1 34 = some (.dup, 35) := am_kq1 16 _ _ _ rfl
theorem k1_35 : am_at 1 35 = some (.invokestatic 157, 38) := am_kq1 17 _ _ _ rfl
theorem k1_38 : am_at 1 38 = some (.putfield 2, 41) := am_kq1 18 _ _ _ rfl
theorem k1_41 : am_at 1 41 = some (.aload 0, 42) := am_kq1 19 _ _ _ rfl
theorem k1_42 : am_at 1 42 = some (.new 4, 45) := am_kq1 20 _ _ _ rfl
theorem k1_45 : am_at 1 45 = some (.dup, 46) := am_kq1 21 _ _ _ rfl
theorem k1_46 : am_at 1 46 = some (.aload 0, 47) := am_kq1 22 _ _ _ rfl
theorem k1_47 : am_at 1 47 = some (.getfield 0, 50) := am_kq1 23 _ _ _ rfl
theorem k1_50 : am_at 1 50 = some (.aload 0, 51) := am_kq1 24 _ _ _ rfl
theorem k1_51 : am_at 1 51 = some (.getfield 1, 54) := am_kq1 25 _ _ _ rfl
theorem k1_54 : am_at 1 54 = some (.aload 0, 55) := am_kq1 26 _ _ _ rfl
theorem k1_55 : am_at 1 55 = some (.getfield 2, 58) := am_kq1 27 _ _ _ rfl
theorem k1_58 : am_at 1 58 = some (.invokestatic 129, 61) := am_kq1 28 _ _ _ rfl
theorem k1_61 : am_at 1 61 = some (.putfield 3, 64) := am_kq1 29 _ _ _ rfl
theorem k1_64 : am_at 1 64 = some (.aload 0, 65) := am_kq1 30 _ _ _ rfl
theorem k1_65 : am_at 1 65 = some (.new 5, 68) := am_kq1 31 _ _ _ rfl
theorem k1_68 : am_at 1 68 = some (.dup, 69) := am_kq1 32 _ _ _ rfl
theorem k1_69 : am_at 1 69 = some (.invokestatic 76, 72) := am_kq1 33 _ _ _ rfl
theorem k1_72 : am_at 1 72 = some (.putfield 4, 75) := am_kq1 34 _ _ _ rfl
theorem k1_75 : am_at 1 75 = some (.aload 0, 76) := am_kq1 35 _ _ _ rfl
theorem k1_76 : am_at 1 76 = some (.new 6, 79) := am_kq1 36 _ _ _ rfl
theorem k1_79 : am_at 1 79 = some (.dup, 80) := am_kq1 37 _ _ _ rfl
theorem k1_80 : am_at 1 80 = some (.invokestatic 172, 83) := am_kq1 38 _ _ _ rfl
theorem k1_83 : am_at 1 83 = some (.putfield 5, 86) := am_kq1 39 _ _ _ rfl
theorem k1_86 : am_at 1 86 = some (.aload 0, 87) := am_kq1 40 _ _ _ rfl
theorem k1_87 : am_at 1 87 = some (.new 7, 90) := am_kq1 41 _ _ _ rfl
theorem k1_90 : am_at 1 90 = some (.dup, 91) := am_kq1 42 _ _ _ rfl
theorem k1_91 : am_at 1 91 = some (.aload 0, 92) := am_kq1 43 _ _ _ rfl
theorem k1_92 : am_at 1 92 = some (.getfield 0, 95) := am_kq1 44 _ _ _ rfl
theorem k1_95 : am_at 1 95 = some (.aload 0, 96) := am_kq1 45 _ _ _ rfl
theorem k1_96 : am_at 1 96 = some (.getfield 1, 99) := am_kq1 46 _ _ _ rfl
theorem k1_99 : am_at 1 99 = some (.aload 0, 100) := am_kq1 47 _ _ _ rfl
theorem k1_100 : am_at 1 100 = some (.getfield 2, 103) := am_kq1 48 _ _ _ rfl
theorem k1_103 : am_at 1 103 = some (.aload 0, 104) := am_kq1 49 _ _ _ rfl
theorem k1_104 : am_at 1 104 = some (.getfield 3, 107) := am_kq1 50 _ _ _ rfl
theorem k1_107 : am_at 1 107 = some (.aload 0, 108) := am_kq1 51 _ _ _ rfl
theorem k1_108 : am_at 1 108 = some (.getfield 4, 111) := am_kq1 52 _ _ _ rfl
theorem k1_111 : am_at 1 111 = some (.aload 0, 112) := am_kq1 53 _ _ _ rfl
theorem k1_112 : am_at 1 112 = some (.getfield 5, 115) := am_kq1 54 _ _ _ rfl
theorem k1_115 : am_at 1 115 = some (.invokestatic 141, 118) := am_kq1 55 _ _ _ rfl
theorem k1_118 : am_at 1 118 = some (.putfield 6, 121) := am_kq1 56 _ _ _ rfl
theorem k1_121 : am_at 1 121 = some (.aload 0, 122) := am_kq1 57 _ _ _ rfl
theorem k1_122 : am_at 1 122 = some (.bipush 0, 123) := am_kq1 58 _ _ _ rfl
theorem k1_123 : am_at 1 123 = some (.putfield 7, 126) := am_kq1 59 _ _ _ rfl
theorem k1_126 : am_at 1 126 = some (.return_, 127) := am_kq1 60 _ _ _ rfl
set_option maxRecDepth 20000 in
theorem am_kq2 (i pc : Nat) (x : Instr) (nx : Nat) (hi : am_t2[i]? = some (pc, x, nx)) : am_at 2 pc = some (x, nx) := am_kB 2 am_t2 rfl (by decide +kernel) i pc x nx hi
theorem k2_0 : am_at 2 0 = some (.iload 1, 1) := am_kq2 0 _ _ _ rfl
theorem k2_1 : am_at 2 1 = some (.bipush 1, 2) := am_kq2 1 _ _ _ rfl
theorem k2_2 : am_at 2 2 = some (.bipush 11, 4) := am_kq2 2 _ _ _ rfl
theorem k2_4 : am_at 2 4 = some (.invokestatic 27, 7) := am_kq2 3 _ _ _ rfl
theorem k2_7 : am_at 2 7 = some (.ifCond .eq 20, 10) := am_kq2 4 _ _ _ rfl
theorem k2_10 : am_at 2 10 = some (.iload 2, 11) := am_kq2 5 _ _ _ rfl
theorem k2_11 : am_at 2 11 = some (.iload 3, 12) := am_kq2 6 _ _ _ rfl
theorem k2_12 : am_at 2 12 = some (.iload 4, 14) := am_kq2 7 _ _ _ rfl
theorem k2_14 : am_at 2 14 = some (.invokestatic 83, 17) := am_kq2 8 _ _ _ rfl
theorem k2_17 : am_at 2 17 = some (.ifCond .ne 22, 20) := am_kq2 9 _ _ _ rfl
theorem k2_20 : am_at 2 20 = some (.bipush (-1), 21) := am_kq2 10 _ _ _ rfl
theorem k2_21 : am_at 2 21 = some (.ireturn, 22) := am_kq2 11 _ _ _ rfl
theorem k2_22 : am_at 2 22 = some (.aload 0, 23) := am_kq2 12 _ _ _ rfl
theorem k2_23 : am_at 2 23 = some (.getfield 0, 26) := am_kq2 13 _ _ _ rfl
theorem k2_26 : am_at 2 26 = some (.iload 1, 27) := am_kq2 14 _ _ _ rfl
theorem k2_27 : am_at 2 27 = some (.iload 2, 28) := am_kq2 15 _ _ _ rfl
theorem k2_28 : am_at 2 28 = some (.iload 3, 29) := am_kq2 16 _ _ _ rfl
theorem k2_29 : am_at 2 29 = some (.iload 3, 30) := am_kq2 17 _ _ _ rfl
theorem k2_30 : am_at 2 30 = some (.bipush (-1), 31) := am_kq2 18 _ _ _ rfl
theorem k2_31 : am_at 2 31 = some (.if_icmp .ne 38, 34) := am_kq2 19 _ _ _ rfl
theorem k2_34 : am_at 2 34 = some (.bipush (-1), 35) := am_kq2 20 _ _ _ rfl
theorem k2_35 : am_at 2 35 = some (.goto 40, 38) := am_kq2 21 _ _ _ rfl
theorem k2_38 : am_at 2 38 = some (.iload 4, 40) := am_kq2 22 _ _ _ rfl
theorem k2_40 : am_at 2 40 = some (.invokestatic 86, 43) := am_kq2 23 _ _ _ rfl
theorem k2_43 : am_at 2 43 = some (.istore 5, 45) := am_kq2 24 _ _ _ rfl
theorem k2_45 : am_at 2 45 = some (.iload 5, 47) := am_kq2 25 _ _ _ rfl
theorem k2_47 : am_at 2 47 = some (.ifCond .le 57, 50) := am_kq2 26 _ _ _ rfl
theorem k2_50 : am_at 2 50 = some (.aload 0, 51) := am_kq2 27 _ _ _ rfl
theorem k2_51 : am_at 2 51 = some (.getfield 3, 54) := am_kq2 28 _ _ _ rfl
theorem k2_54 : am_at 2 54 = some (.invokestatic 133, 57) := am_kq2 29 _ _ _ rfl
theorem k2_57 : am_at 2 57 = some (.iload 5, 59) := am_kq2 30 _ _ _ rfl
theorem k2_59 : am_at 2 59 = some (.ireturn, 60) := am_kq2 31 _ _ _ rfl
set_option maxRecDepth 20000 in
theorem am_kq3 (i pc : Nat) (x : Instr) (nx : Nat) (hi : am_t3[i]? = some (pc, x, nx)) : am_at 3 pc = some (x, nx) := am_kB 3 am_t3 rfl (by decide +kernel) i pc x nx hi
theorem k3_0 : am_at 3 0 = some (.iload 2, 1) := am_kq3 0 _ _ _ rfl
theorem k3_1 : am_at 3 1 = some (.invokestatic 24, 4) := am_kq3 1 _ _ _ rfl
theorem k3_4 : am_at 3 4 = some (.ifCond .eq 16, 7) := am_kq3 2 _ _ _ rfl
theorem k3_7 : am_at 3 7 = some (.iload 3, 8) := am_kq3 3 _ _ _ rfl
theorem k3_8 : am_at 3 8 = some (.bipush 0, 9) := am_kq3 4 _ _ _ rfl
theorem k3_9 : am_at 3 9 = some (.bipush 3, 10) := am_kq3 5 _ _ _ rfl
theorem k3_10 : am_at 3 10 = some (.invokestatic 27, 13) := am_kq3 6 _ _ _ rfl
theorem k3_13 : am_at 3 13 = some (.ifCond .ne 18, 16) := am_kq3 7 _ _ _ rfl
theorem k3_16 : am_at 3 16 = some (.bipush (-1), 17) := am_kq3 8 _ _ _ rfl
theorem k3_17 : am_at 3 17 = some (.ireturn, 18) := am_kq3 9 _ _ _ rfl
theorem k3_18 : am_at 3 18 = some (.aload 0, 19) := am_kq3 10 _ _ _ rfl
theorem k3_19 : am_at 3 19 = some (.getfield 0, 22) := am_kq3 11 _ _ _ rfl
theorem k3_22 : am_at 3 22 = some (.iload 1, 23) := am_kq3 12 _ _ _ rfl
theorem k3_23 : am_at 3 23 = some (.invokestatic 85, 26) := am_kq3 13 _ _ _ rfl
theorem k3_26 : am_at 3 26 = some (.ifCond .ne 32, 29) := am_kq3 14 _ _ _ rfl
theorem k3_29 : am_at 3 29 = some (.bipush (-2), 31) := am_kq3 15 _ _ _ rfl
theorem k3_31 : am_at 3 31 = some (.ireturn, 32) := am_kq3 16 _ _ _ rfl
theorem k3_32 : am_at 3 32 = some (.aload 0, 33) := am_kq3 17 _ _ _ rfl
theorem k3_33 : am_at 3 33 = some (.getfield 0, 36) := am_kq3 18 _ _ _ rfl
theorem k3_36 : am_at 3 36 = some (.iload 1, 37) := am_kq3 19 _ _ _ rfl
theorem k3_37 : am_at 3 37 = some (.iload 2, 38) := am_kq3 20 _ _ _ rfl
theorem k3_38 : am_at 3 38 = some (.iload 3, 39) := am_kq3 21 _ _ _ rfl
theorem k3_39 : am_at 3 39 = some (.iload 4, 41) := am_kq3 22 _ _ _ rfl
theorem k3_41 : am_at 3 41 = some (.invokestatic 100, 44) := am_kq3 23 _ _ _ rfl
theorem k3_44 : am_at 3 44 = some (.bipush 1, 45) := am_kq3 24 _ _ _ rfl
theorem k3_45 : am_at 3 45 = some (.ireturn, 46) := am_kq3 25 _ _ _ rfl
set_option maxRecDepth 20000 in
theorem am_kq4 (i pc : Nat) (x : Instr) (nx : Nat) (hi : am_t4[i]? = some (pc, x, nx)) : am_at 4 pc = some (x, nx) := am_kB 4 am_t4 rfl (by decide +kernel) i pc x nx hi
theorem k4_0 : am_at 4 0 = some (.aload 0, 1) := am_kq4 0 _ _ _ rfl
theorem k4_1 : am_at 4 1 = some (.getfield 0, 4) := am_kq4 1 _ _ _ rfl
theorem k4_4 : am_at 4 4 = some (.iload 1, 5) := am_kq4 2 _ _ _ rfl
theorem k4_5 : am_at 4 5 = some (.invokestatic 85, 8) := am_kq4 3 _ _ _ rfl
theorem k4_8 : am_at 4 8 = some (.ifCond .ne 14, 11) := am_kq4 4 _ _ _ rfl
theorem k4_11 : am_at 4 11 = some (.bipush (-2), 13) := am_kq4 5 _ _ _ rfl
theorem k4_13 : am_at 4 13 = some (.ireturn, 14) := am_kq4 6 _ _ _ rfl
theorem k4_14 : am_at 4 14 = some (.aload 0, 15) := am_kq4 7 _ _ _ rfl
theorem k4_15 : am_at 4 15 = some (.getfield 1, 18) := am_kq4 8 _ _ _ rfl
theorem k4_18 : am_at 4 18 = some (.iload 1, 19) := am_kq4 9 _ _ _ rfl
theorem k4_19 : am_at 4 19 = some (.invokestatic 122, 22) := am_kq4 10 _ _ _ rfl
theorem k4_22 : am_at 4 22 = some (.ireturn, 23) := am_kq4 11 _ _ _ rfl
set_option maxRecDepth 20000 in
theorem am_kq5 (i pc : Nat) (x : Instr) (nx : Nat) (hi : am_t5[i]? = some (pc, x, nx)) : am_at 5 pc = some (x, nx) := am_kB 5 am_t5 rfl (by decide +kernel) i pc x nx hi
theorem k5_0 : am_at 5 0 = some (.aload 0, 1) := am_kq5 0 _ _ _ rfl
theorem k5_1 : am_at 5 1 = some (.getfield 1, 4) := am_kq5 1 _ _ _ rfl
theorem k5_4 : am_at 5 4 = some (.iload 1, 5) := am_kq5 2 _ _ _ rfl
theorem k5_5 : am_at 5 5 = some (.invokestatic 118, 8) := am_kq5 3 _ _ _ rfl
theorem k5_8 : am_at 5 8 = some (.ifCond .eq 22, 11) := am_kq5 4 _ _ _ rfl
theorem k5_11 : am_at 5 11 = some (.aload 0, 12) := am_kq5 5 _ _ _ rfl
theorem k5_12 : am_at 5 12 = some (.getfield 0, 15) := am_kq5 6 _ _ _ rfl
theorem k5_15 : am_at 5 15 = some (.iload 2, 16) := am_kq5 7 _ _ _ rfl
theorem k5_16 : am_at 5 16 = some (.invokestatic 85, 19) := am_kq5 8 _ _ _ rfl
theorem k5_19 : am_at 5 19 = some (.ifCond .ne 25, 22) := am_kq5 9 _ _ _ rfl
theorem k5_22 : am_at 5 22 = some (.bipush (-2), 24) := am_kq5 10 _ _ _ rfl
theorem k5_24 : am_at 5 24 = some (.ireturn, 25) := am_kq5 11 _ _ _ rfl
theorem k5_25 : am_at 5 25 = some (.aload 0, 26) := am_kq5 12 _ _ _ rfl
theorem k5_26 : am_at 5 26 = some (.getfield 1, 29) := am_kq5 13 _ _ _ rfl
theorem k5_29 : am_at 5 29 = some (.iload 1, 30) := am_kq5 14 _ _ _ rfl
theorem k5_30 : am_at 5 30 = some (.iload 2, 31) := am_kq5 15 _ _ _ rfl
theorem k5_31 : am_at 5 31 = some (.invokestatic 123, 34) := am_kq5 16 _ _ _ rfl
theorem k5_34 : am_at 5 34 = some (.bipush 1, 35) := am_kq5 17 _ _ _ rfl
theorem k5_35 : am_at 5 35 = some (.ireturn, 36) := am_kq5 18 _ _ _ rfl
set_option maxRecDepth 20000 in
theorem am_kq6 (i pc : Nat) (x : Instr) (nx : Nat) (hi : am_t6[i]? = some (pc, x, nx)) : am_at 6 pc = some (x, nx) := am_kB 6 am_t6 rfl (by decide +kernel) i pc x nx hi
theorem k6_0 : am_at 6 0 = some (.aload 0, 1) := am_kq6 0 _ _ _ rfl
theorem k6_1 : am_at 6 1 = some (.iload 1, 2) := am_kq6 1 _ _ _ rfl
theorem k6_2 : am_at 6 2 = some (.iload 2, 3) := am_kq6 2 _ _ _ rfl
theorem k6_3 : am_at 6 3 = some (.invokestatic 20, 6) := am_kq6 3 _ _ _ rfl
theorem k6_6 : am_at 6 6 = some (.istore 3, 7) := am_kq6 4 _ _ _ rfl
theorem k6_7 : am_at 6 7 = some (.iload 3, 8) := am_kq6 5 _ _ _ rfl
theorem k6_8 : am_at 6 8 = some (.ifCond .eq 20, 11) := am_kq6 6 _ _ _ rfl
theorem k6_11 : am_at 6 11 = some (.sipush 1099511627776, 14) := am_kq6 7 _ _ _ rfl
theorem k6_14 : am_at 6 14 = some (.iload 3, 15) := am_kq6 8 _ _ _ rfl
theorem k6_15 : am_at 6 15 = some (.i2l, 16) := am_kq6 9 _ _ _ rfl
theorem k6_16 : am_at 6 16 = some (.ladd, 17) := am_kq6 10 _ _ _ rfl
theorem k6_17 : am_at 6 17 = some (.goto 29, 20) := am_kq6 11 _ _ _ rfl
theorem k6_20 : am_at 6 20 = some (.aload 0, 21) := am_kq6 12 _ _ _ rfl
theorem k6_21 : am_at 6 21 = some (.getfield 1, 24) := am_kq6 13 _ _ _ rfl
theorem k6_24 : am_at 6 24 = some (.iload 1, 25) := am_kq6 14 _ _ _ rfl
theorem k6_25 : am_at 6 25 = some (.iload 2, 26) := am_kq6 15 _ _ _ rfl
theorem k6_26 : am_at 6 26 = some (.invokestatic 126, 29) := am_kq6 16 _ _ _ rfl
theorem k6_29 : am_at 6 29 = some (.lreturn, 30) := am_kq6 17 _ _ _ rfl
set_option maxRecDepth 20000 in
theorem am_kq7 (i pc : Nat) (x : Instr) (nx : Nat) (hi : am_t7[i]? = some (pc, x, nx)) : am_at 7 pc = some (x, nx) := am_kB 7 am_t7 rfl (by decide +kernel) i pc x nx hi
theorem k7_0 : am_at 7 0 = some (.aload 0, 1) := am_kq7 0 _ _ _ rfl
theorem k7_1 : am_at 7 1 = some (.iload 1, 2) := am_kq7 1 _ _ _ rfl
theorem k7_2 : am_at 7 2 = some (.iload 2, 3) := am_kq7 2 _ _ _ rfl
theorem k7_3 : am_at 7 3 = some (.invokestatic 20, 6) := am_kq7 3 _ _ _ rfl
theorem k7_6 : am_at 7 6 = some (.istore 4, 8) := am_kq7 4 _ _ _ rfl
theorem k7_8 : am_at 7 8 = some (.iload 4, 10) := am_kq7 5 _ _ _ rfl
theorem k7_10 : am_at 7 10 = some (.ifCond .eq 23, 13) := am_kq7 6 _ _ _ rfl
theorem k7_13 : am_at 7 13 = some (.sipush 1099511627776, 16) := am_kq7 7 _ _ _ rfl
theorem k7_16 : am_at 7 16 = some (.iload 4, 18) := am_kq7 8 _ _ _ rfl
theorem k7_18 : am_at 7 18 = some (.i2l, 19) := am_kq7 9 _ _ _ rfl
theorem k7_19 : am_at 7 19 = some (.ladd, 20) := am_kq7 10 _ _ _ rfl
theorem k7_20 : am_at 7 20 = some (.goto 33, 23) := am_kq7 11 _ _ _ rfl
theorem k7_23 : am_at 7 23 = some (.aload 0, 24) := am_kq7 12 _ _ _ rfl
theorem k7_24 : am_at 7 24 = some (.getfield 1, 27) := am_kq7 13 _ _ _ rfl
theorem k7_27 : am_at 7 27 = some (.iload 1, 28) := am_kq7 14 _ _ _ rfl
theorem k7_28 : am_at 7 28 = some (.iload 2, 29) := am_kq7 15 _ _ _ rfl
theorem k7_29 : am_at 7 29 = some (.iload 3, 30) := am_kq7 16 _ _ _ rfl
theorem k7_30 : am_at 7 30 = some (.invokestatic 127, 33) := am_kq7 17 _ _ _ rfl
theorem k7_33 : am_at 7 33 = some (.lreturn, 34) := am_kq7 18 _ _ _ rfl
set_option maxRecDepth 20000 in
theorem am_kq8 (i pc : Nat) (x : Instr) (nx : Nat) (hi : am_t8[i]? = some (pc, x, nx)) : am_at 8 pc = some (x, nx) := am_kB 8 am_t8 rfl (by decide +kernel) i pc x nx hi
theorem k8_0 : am_at 8 0 = some (.aload 0, 1) := am_kq8 0 _ _ _ rfl
theorem k8_1 : am_at 8 1 = some (.iload 1, 2) := am_kq8 1 _ _ _ rfl
theorem k8_2 : am_at 8 2 = some (.iload 2, 3) := am_kq8 2 _ _ _ rfl
theorem k8_3 : am_at 8 3 = some (.invokestatic 20, 6) := am_kq8 3 _ _ _ rfl
theorem k8_6 : am_at 8 6 = some (.istore 3, 7) := am_kq8 4 _ _ _ rfl
theorem k8_7 : am_at 8 7 = some (.iload 3, 8) := am_kq8 5 _ _ _ rfl
theorem k8_8 : am_at 8 8 = some (.ifCond .eq 20, 11) := am_kq8 6 _ _ _ rfl
theorem k8_11 : am_at 8 11 = some (.sipush 1099511627776, 14) := am_kq8 7 _ _ _ rfl
theorem k8_14 : am_at 8 14 = some (.iload 3, 15) := am_kq8 8 _ _ _ rfl
theorem k8_15 : am_at 8 15 = some (.i2l, 16) := am_kq8 9 _ _ _ rfl
theorem k8_16 : am_at 8 16 = some (.ladd, 17) := am_kq8 10 _ _ _ rfl
theorem k8_17 : am_at 8 17 = some (.goto 29, 20) := am_kq8 11 _ _ _ rfl
theorem k8_20 : am_at 8 20 = some (.aload 0, 21) := am_kq8 12 _ _ _ rfl
theorem k8_21 : am_at 8 21 = some (.getfield 1, 24) := am_kq8 13 _ _ _ rfl
theorem k8_24 : am_at 8 24 = some (.iload 1, 25) := am_kq8 14 _ _ _ rfl
theorem k8_25 : am_at 8 25 = some (.iload 2, 26) := am_kq8 15 _ _ _ rfl
theorem k8_26 : am_at 8 26 = some (.invokestatic 128, 29) := am_kq8 16 _ _ _ rfl
theorem k8_29 : am_at 8 29 = some (.lreturn, 30) := am_kq8 17 _ _ _ rfl
set_option maxRecDepth 20000 in
theorem am_kq9 (i pc : Nat) (x : Instr) (nx : Nat) (hi : am_t9[i]? = some (pc, x, nx)) : am_at 9 pc = some (x, nx) := am_kB 9 am_t9 rfl (by decide +kernel) i pc x nx hi
theorem k9_0 : am_at 9 0 = some (.iload 1, 1) := am_kq9 0 _ _ _ rfl
theorem k9_1 : am_at 9 1 = some (.invokestatic 25, 4) := am_kq9 1 _ _ _ rfl
theorem k9_4 : am_at 9 4 = some (.ifCond .eq 16, 7) := am_kq9 2 _ _ _ rfl
theorem k9_7 : am_at 9 7 = some (.iload 2, 8) := am_kq9 3 _ _ _ rfl
theorem k9_8 : am_at 9 8 = some (.bipush 1, 9) := am_kq9 4 _ _ _ rfl
theorem k9_9 : am_at 9 9 = some (.bipush 2, 10) := am_kq9 5 _ _ _ rfl
theorem k9_10 : am_at 9 10 = some (.invokestatic 27, 13) := am_kq9 6 _ _ _ rfl
theorem k9_13 : am_at 9 13 = some (.ifCond .ne 18, 16) := am_kq9 7 _ _ _ rfl
theorem k9_16 : am_at 9 16 = some (.bipush (-1), 17) := am_kq9 8 _ _ _ rfl
theorem k9_17 : am_at 9 17 = some (.ireturn, 18) := am_kq9 9 _ _ _ rfl
theorem k9_18 : am_at 9 18 = some (.aload 0, 19) := am_kq9 10 _ _ _ rfl
theorem k9_19 : am_at 9 19 = some (.getfield 3, 22) := am_kq9 11 _ _ _ rfl
theorem k9_22 : am_at 9 22 = some (.iload 1, 23) := am_kq9 12 _ _ _ rfl
theorem k9_23 : am_at 9 23 = some (.invokestatic 132, 26) := am_kq9 13 _ _ _ rfl
theorem k9_26 : am_at 9 26 = some (.aload 0, 27) := am_kq9 14 _ _ _ rfl
theorem k9_27 : am_at 9 27 = some (.getfield 2, 30) := am_kq9 15 _ _ _ rfl
theorem k9_30 : am_at 9 30 = some (.iload 1, 31) := am_kq9 16 _ _ _ rfl
theorem k9_31 : am_at 9 31 = some (.iload 2, 32) := am_kq9 17 _ _ _ rfl
theorem k9_32 : am_at 9 32 = some (.invokestatic 167, 35) := am_kq9 18 _ _ _ rfl
theorem k9_35 : am_at 9 35 = some (.ireturn, 36) := am_kq9 19 _ _ _ rfl
set_option maxRecDepth 20000 in
theorem am_kq10 (i pc : Nat) (x : Instr) (nx : Nat) (hi : am_t10[i]? = some (pc, x, nx)) : am_at 10 pc = some (x, nx) := am_kB 10 am_t10 rfl (by decide +kernel) i pc x nx hi
theorem k10_0 : am_at 10 0 = some (.iload 1, 1) := am_kq10 0 _ _ _ rfl
theorem k10_1 : am_at 10 1 = some (.invokestatic 25, 4) := am_kq10 1 _ _ _ rfl
theorem k10_4 : am_at 10 4 = some (.ifCond .eq 24, 7) := am_kq10 2 _ _ _ rfl
theorem k10_7 : am_at 10 7 = some (.iload 2, 8) := am_kq10 3 _ _ _ rfl
theorem k10_8 : am_at 10 8 = some (.bipush 0, 9) := am_kq10 4 _ _ _ rfl
theorem k10_9 : am_at 10 9 = some (.bipush 3, 10) := am_kq10 5 _ _ _ rfl
theorem k10_10 : am_at 10 10 = some (.invokestatic 27, 13) := am_kq10 6 _ _ _ rfl
theorem k10_13 : am_at 10 13 = some (.ifCond .eq 24, 16) := am_kq10 7 _ _ _ rfl
theorem k10_16 : am_at 10 16 = some (.iload 5, 18) := am_kq10 8 _ _ _ rfl
theorem k10_18 : am_at 10 18 = some (.invokestatic 26, 21) := am_kq10 9 _ _ _ rfl
theorem k10_21 : am_at 10 21 = some (.ifCond .ne 26, 24) := am_kq10 10 _ _ _ rfl
theorem k10_24 : am_at 10 24 = some (.bipush (-1), 25) := am_kq10 11 _ _ _ rfl
theorem k10_25 : am_at 10 25 = some (.ireturn, 26) := am_kq10 12 _ _ _ rfl
theorem k10_26 : am_at 10 26 = some (.aload 0, 27) := am_kq10 13 _ _ _ rfl
theorem k10_27 : am_at 10 27 = some (.getfield 2, 30) := am_kq10 14 _ _ _ rfl
theorem k10_30 : am_at 10 30 = some (.iload 1, 31) := am_kq10 15 _ _ _ rfl
theorem k10_31 : am_at 10 31 = some (.invokestatic 159, 34) := am_kq10 16 _ _ _ rfl
theorem k10_34 : am_at 10 34 = some (.istore 6, 36) := am_kq10 17 _ _ _ rfl
theorem k10_36 : am_at 10 36 = some (.iload 6, 38) := am_kq10 18 _ _ _ rfl
theorem k10_38 : am_at 10 38 = some (.bipush 2, 39) := am_kq10 19 _ _ _ rfl
theorem k10_39 : am_at 10 39 = some (.if_icmp .ne 46, 42) := am_kq10 20 _ _ _ rfl
theorem k10_42 : am_at 10 42 = some (.bipush 1, 43) := am_kq10 21 _ _ _ rfl
theorem k10_43 : am_at 10 43 = some (.goto 47, 46) := am_kq10 22 _ _ _ rfl
theorem k10_46 : am_at 10 46 = some (.bipush 0, 47) := am_kq10 23 _ _ _ rfl
theorem k10_47 : am_at 10 47 = some (.istore 7, 49) := am_kq10 24 _ _ _ rfl
theorem k10_49 : am_at 10 49 = some (.iload 3, 50) := am_kq10 25 _ _ _ rfl
theorem k10_50 : am_at 10 50 = some (.invokestatic 22, 53) := am_kq10 26 _ _ _ rfl
theorem k10_53 : am_at 10 53 = some (.ifCond .eq 69, 56) := am_kq10 27 _ _ _ rfl
theorem k10_56 : am_at 10 56 = some (.iload 7, 58) := am_kq10 28 _ _ _ rfl
theorem k10_58 : am_at 10 58 = some (.ifCond .eq 71, 61) := am_kq10 29 _ _ _ rfl
theorem k10_61 : am_at 10 61 = some (.iload 4, 63) := am_kq10 30 _ _ _ rfl
theorem k10_63 : am_at 10 63 = some (.invokestatic 22, 66) := am_kq10 31 _ _ _ rfl
theorem k10_66 : am_at 10 66 = some (.ifCond .ne 71, 69) := am_kq10 32 _ _ _ rfl
theorem k10_69 : am_at 10 69 = some (.bipush (-1), 70) := am_kq10 33 _ _ _ rfl
theorem k10_70 : am_at 10 70 = some (.ireturn, 71) := am_kq10 34 _ _ _ rfl
theorem k10_71 : am_at 10 71 = some (.iload 6, 73) := am_kq10 35 _ _ _ rfl
theorem k10_73 : am_at 10 73 = some (.ifCond .eq 98, 76) := am_kq10 36 _ _ _ rfl
theorem k10_76 : am_at 10 76 = some (.aload 0, 77) := am_kq10 37 _ _ _ rfl
theorem k10_77 : am_at 10 77 = some (.iload 3, 78) := am_kq10 38 _ _ _ rfl
theorem k10_78 : am_at 10 78 = some (.invokestatic 21, 81) := am_kq10 39 _ _ _ rfl
theorem k10_81 : am_at 10 81 = some (.ifCond .eq 98, 84) := am_kq10 40 _ _ _ rfl
theorem k10_84 : am_at 10 84 = some (.iload 7, 86) := am_kq10 41 _ _ _ rfl
theorem k10_86 : am_at 10 86 = some (.ifCond .eq 101, 89) := am_kq10 42 _ _ _ rfl
theorem k10_89 : am_at 10 89 = some (.aload 0, 90) := am_kq10 43 _ _ _ rfl
theorem k10_90 : am_at 10 90 = some (.iload 4, 92) := am_kq10 44 _ _ _ rfl
theorem k10_92 : am_at 10 92 = some (.invokestatic 21, 95) := am_kq10 45 _ _ _ rfl
theorem k10_95 : am_at 10 95 = some (.ifCond .ne 101, 98) := am_kq10 46 _ _ _ rfl
theorem k10_98 : am_at 10 98 = some (.bipush (-2), 100) := am_kq10 47 _ _ _ rfl
theorem k10_100 : am_at 10 100 = some (.ireturn, 101) := am_kq10 48 _ _ _ rfl
theorem k10_101 : am_at 10 101 = some (.aload 0, 102) := am_kq10 49 _ _ _ rfl
theorem k10_102 : am_at 10 102 = some (.getfield 2, 105) := am_kq10 50 _ _ _ rfl
theorem k10_105 : am_at 10 105 = some (.iload 1, 106) := am_kq10 51 _ _ _ rfl
theorem k10_106 : am_at 10 106 = some (.iload 2, 107) := am_kq10 52 _ _ _ rfl
theorem k10_107 : am_at 10 107 = some (.iload 3, 108) := am_kq10 53 _ _ _ rfl
theorem k10_108 : am_at 10 108 = some (.iload 7, 110) := am_kq10 54 _ _ _ rfl
theorem k10_110 : am_at 10 110 = some (.ifCond .eq 118, 113) := am_kq10 55 _ _ _ rfl
theorem k10_113 : am_at 10 113 = some (.iload 4, 115) := am_kq10 56 _ _ _ rfl
theorem k10_115 : am_at 10 115 = some (.goto 119, 118) := am_kq10 57 _ _ _ rfl
theorem k10_118 : am_at 10 118 = some (.bipush (-1), 119) := am_kq10 58 _ _ _ rfl
theorem k10_119 : am_at 10 119 = some (.iload 5, 121) := am_kq10 59 _ _ _ rfl
theorem k10_121 : am_at 10 121 = some (.invokestatic 168, 124) := am_kq10 60 _ _ _ rfl
theorem k10_124 : am_at 10 124 = some (.istore 8, 126) := am_kq10 61 _ _ _ rfl
theorem k10_126 : am_at 10 126 = some (.iload 8, 128) := am_kq10 62 _ _ _ rfl
theorem k10_128 : am_at 10 128 = some (.ifCond .lt 139, 131) := am_kq10 63 _ _ _ rfl
theorem k10_131 : am_at 10 131 = some (.aload 0, 132) := am_kq10 64 _ _ _ rfl
theorem k10_132 : am_at 10 132 = some (.getfield 3, 135) := am_kq10 65 _ _ _ rfl
theorem k10_135 : am_at 10 135 = some (.iload 1, 136) := am_kq10 66 _ _ _ rfl
theorem k10_136 : am_at 10 136 = some (.invokestatic 132, 139) := am_kq10 67 _ _ _ rfl
theorem k10_139 : am_at 10 139 = some (.iload 8, 141) := am_kq10 68 _ _ _ rfl
theorem k10_141 : am_at 10 141 = some (.ireturn, 142) := am_kq10 69 _ _ _ rfl
set_option maxRecDepth 20000 in
theorem am_kq11 (i pc : Nat) (x : Instr) (nx : Nat) (hi : am_t11[i]? = some (pc, x, nx)) : am_at 11 pc = some (x, nx) := am_kB 11 am_t11 rfl (by decide +kernel) i pc x nx hi
theorem k11_0 : am_at 11 0 = some (.aload 0, 1) := am_kq11 0 _ _ _ rfl
theorem k11_1 : am_at 11 1 = some (.getfield 2, 4) := am_kq11 1 _ _ _ rfl
theorem k11_4 : am_at 11 4 = some (.iload 1, 5) := am_kq11 2 _ _ _ rfl
theorem k11_5 : am_at 11 5 = some (.invokestatic 160, 8) := am_kq11 3 _ _ _ rfl
theorem k11_8 : am_at 11 8 = some (.ifCond .ne 14, 11) := am_kq11 4 _ _ _ rfl
theorem k11_11 : am_at 11 11 = some (.bipush (-2), 13) := am_kq11 5 _ _ _ rfl
theorem k11_13 : am_at 11 13 = some (.ireturn, 14) := am_kq11 6 _ _ _ rfl
theorem k11_14 : am_at 11 14 = some (.aload 0, 15) := am_kq11 7 _ _ _ rfl
theorem k11_15 : am_at 11 15 = some (.getfield 2, 18) := am_kq11 8 _ _ _ rfl
theorem k11_18 : am_at 11 18 = some (.iload 1, 19) := am_kq11 9 _ _ _ rfl
theorem k11_19 : am_at 11 19 = some (.invokestatic 171, 22) := am_kq11 10 _ _ _ rfl
theorem k11_22 : am_at 11 22 = some (.istore 2, 23) := am_kq11 11 _ _ _ rfl
theorem k11_23 : am_at 11 23 = some (.aload 0, 24) := am_kq11 12 _ _ _ rfl
theorem k11_24 : am_at 11 24 = some (.getfield 3, 27) := am_kq11 13 _ _ _ rfl
theorem k11_27 : am_at 11 27 = some (.iload 2, 28) := am_kq11 14 _ _ _ rfl
theorem k11_28 : am_at 11 28 = some (.invokestatic 132, 31) := am_kq11 15 _ _ _ rfl
theorem k11_31 : am_at 11 31 = some (.iload 2, 32) := am_kq11 16 _ _ _ rfl
theorem k11_32 : am_at 11 32 = some (.ireturn, 33) := am_kq11 17 _ _ _ rfl
set_option maxRecDepth 20000 in
theorem am_kq12 (i pc : Nat) (x : Instr) (nx : Nat) (hi : am_t12[i]? = some (pc, x, nx)) : am_at 12 pc = some (x, nx) := am_kB 12 am_t12 rfl (by decide +kernel) i pc x nx hi
theorem k12_0 : am_at 12 0 = some (.iload 1, 1) := am_kq12 0 _ _ _ rfl
theorem k12_1 : am_at 12 1 = some (.invokestatic 26, 4) := am_kq12 1 _ _ _ rfl
theorem k12_4 : am_at 12 4 = some (.ifCond .eq 25, 7) := am_kq12 2 _ _ _ rfl
theorem k12_7 : am_at 12 7 = some (.iload 2, 8) := am_kq12 3 _ _ _ rfl
theorem k12_8 : am_at 12 8 = some (.bipush 0, 9) := am_kq12 4 _ _ _ rfl
theorem k12_9 : am_at 12 9 = some (.bipush 9, 11) := am_kq12 5 _ _ _ rfl
theorem k12_11 : am_at 12 11 = some (.invokestatic 27, 14) := am_kq12 6 _ _ _ rfl
theorem k12_14 : am_at 12 14 = some (.ifCond .eq 25, 17) := am_kq12 7 _ _ _ rfl
theorem k12_17 : am_at 12 17 = some (.iload 2, 18) := am_kq12 8 _ _ _ rfl
theorem k12_18 : am_at 12 18 = some (.iload 3, 19) := am_kq12 9 _ _ _ rfl
theorem k12_19 : am_at 12 19 = some (.invokestatic 23, 22) := am_kq12 10 _ _ _ rfl
theorem k12_22 : am_at 12 22 = some (.ifCond .ne 27, 25) := am_kq12 11 _ _ _ rfl
theorem k12_25 : am_at 12 25 = some (.bipush (-1), 26) := am_kq12 12 _ _ _ rfl
theorem k12_26 : am_at 12 26 = some (.ireturn, 27) := am_kq12 13 _ _ _ rfl
theorem k12_27 : am_at 12 27 = some (.aload 0, 28) := am_kq12 14 _ _ _ rfl
theorem k12_28 : am_at 12 28 = some (.getfield 4, 31) := am_kq12 15 _ _ _ rfl
theorem k12_31 : am_at 12 31 = some (.iload 1, 32) := am_kq12 16 _ _ _ rfl
theorem k12_32 : am_at 12 32 = some (.iload 2, 33) := am_kq12 17 _ _ _ rfl
theorem k12_33 : am_at 12 33 = some (.iload 3, 34) := am_kq12 18 _ _ _ rfl
theorem k12_34 : am_at 12 34 = some (.invokestatic 77, 37) := am_kq12 19 _ _ _ rfl
theorem k12_37 : am_at 12 37 = some (.ireturn, 38) := am_kq12 20 _ _ _ rfl
set_option maxRecDepth 20000 in
theorem am_kq13 (i pc : Nat) (x : Instr) (nx : Nat) (hi : am_t13[i]? = some (pc, x, nx)) : am_at 13 pc = some (x, nx) := am_kB 13 am_t13 rfl (by decide +kernel) i pc x nx hi
theorem k13_0 : am_at 13 0 = some (.iload 1, 1) := am_kq13 0 _ _ _ rfl
theorem k13_1 : am_at 13 1 = some (.invokestatic 26, 4) := am_kq13 1 _ _ _ rfl
theorem k13_4 : am_at 13 4 = some (.ifCond .eq 18, 7) := am_kq13 2 _ _ _ rfl
theorem k13_7 : am_at 13 7 = some (.aload 0, 8) := am_kq13 3 _ _ _ rfl
theorem k13_8 : am_at 13 8 = some (.getfield 4, 11) := am_kq13 4 _ _ _ rfl
theorem k13_11 : am_at 13 11 = some (.iload 1, 12) := am_kq13 5 _ _ _ rfl
theorem k13_12 : am_at 13 12 = some (.invokestatic 78, 15) := am_kq13 6 _ _ _ rfl
theorem k13_15 : am_at 13 15 = some (.goto 19, 18) := am_kq13 7 _ _ _ rfl
theorem k13_18 : am_at 13 18 = some (.bipush (-1), 19) := am_kq13 8 _ _ _ rfl
theorem k13_19 : am_at 13 19 = some (.ireturn, 20) := am_kq13 9 _ _ _ rfl
set_option maxRecDepth 20000 in
theorem am_kq14 (i pc : Nat) (x : Instr) (nx : Nat) (hi : am_t14[i]? = some (pc, x, nx)) : am_at 14 pc = some (x, nx) := am_kB 14 am_t14 rfl (by decide +kernel) i pc x nx hi
theorem k14_0 : am_at 14 0 = some (.iload 1, 1) := am_kq14 0 _ _ _ rfl
theorem k14_1 : am_at 14 1 = some (.invokestatic 25, 4) := am_kq14 1 _ _ _ rfl
theorem k14_4 : am_at 14 4 = some (.ifCond .ne 11, 7) := am_kq14 2 _ _ _ rfl
theorem k14_7 : am_at 14 7 = some (.sipush 1099511627774, 10) := am_kq14 3 _ _ _ rfl
theorem k14_10 : am_at 14 10 = some (.lreturn, 11) := am_kq14 4 _ _ _ rfl
theorem k14_11 : am_at 14 11 = some (.aload 0, 12) := am_kq14 5 _ _ _ rfl
theorem k14_12 : am_at 14 12 = some (.getfield 2, 15) := am_kq14 6 _ _ _ rfl
theorem k14_15 : am_at 14 15 = some (.iload 1, 16) := am_kq14 7 _ _ _ rfl
theorem k14_16 : am_at 14 16 = some (.invokestatic 159, 19) := am_kq14 8 _ _ _ rfl
theorem k14_19 : am_at 14 19 = some (.istore 4, 21) := am_kq14 9 _ _ _ rfl
theorem k14_21 : am_at 14 21 = some (.iload 4, 23) := am_kq14 10 _ _ _ rfl
theorem k14_23 : am_at 14 23 = some (.ifCond .eq 54, 26) := am_kq14 11 _ _ _ rfl
theorem k14_26 : am_at 14 26 = some (.aload 0, 27) := am_kq14 12 _ _ _ rfl
theorem k14_27 : am_at 14 27 = some (.getfield 1, 30) := am_kq14 13 _ _ _ rfl
theorem k14_30 : am_at 14 30 = some (.iload 2, 31) := am_kq14 14 _ _ _ rfl
theorem k14_31 : am_at 14 31 = some (.invokestatic 118, 34) := am_kq14 15 _ _ _ rfl
theorem k14_34 : am_at 14 34 = some (.ifCond .eq 54, 37) := am_kq14 16 _ _ _ rfl
theorem k14_37 : am_at 14 37 = some (.iload 4, 39) := am_kq14 17 _ _ _ rfl
theorem k14_39 : am_at 14 39 = some (.bipush 2, 40) := am_kq14 18 _ _ _ rfl
theorem k14_40 : am_at 14 40 = some (.if_icmp .ne 58, 43) := am_kq14 19 _ _ _ rfl
theorem k14_43 : am_at 14 43 = some (.aload 0, 44) := am_kq14 20 _ _ _ rfl
theorem k14_44 : am_at 14 44 = some (.getfield 1, 47) := am_kq14 21 _ _ _ rfl
theorem k14_47 : am_at 14 47 = some (.iload 3, 48) := am_kq14 22 _ _ _ rfl
theorem k14_48 : am_at 14 48 = some (.invokestatic 118, 51) := am_kq14 23 _ _ _ rfl
theorem k14_51 : am_at 14 51 = some (.ifCond .ne 58, 54) := am_kq14 24 _ _ _ rfl
theorem k14_54 : am_at 14 54 = some (.sipush 1099511627774, 57) := am_kq14 25 _ _ _ rfl
theorem k14_57 : am_at 14 57 = some (.lreturn, 58) := am_kq14 26 _ _ _ rfl
theorem k14_58 : am_at 14 58 = some (.aload 0, 59) := am_kq14 27 _ _ _ rfl
theorem k14_59 : am_at 14 59 = some (.getfield 6, 62) := am_kq14 28 _ _ _ rfl
theorem k14_62 : am_at 14 62 = some (.iload 1, 63) := am_kq14 29 _ _ _ rfl
theorem k14_63 : am_at 14 63 = some (.iload 2, 64) := am_kq14 30 _ _ _ rfl
theorem k14_64 : am_at 14 64 = some (.iload 3, 65) := am_kq14 31 _ _ _ rfl
theorem k14_65 : am_at 14 65 = some (.invokestatic 144, 68) := am_kq14 32 _ _ _ rfl
theorem k14_68 : am_at 14 68 = some (.lstore 5, 70) := am_kq14 33 _ _ _ rfl
theorem k14_70 : am_at 14 70 = some (.lload 5, 72) := am_kq14 34 _ _ _ rfl
theorem k14_72 : am_at 14 72 = some (.invokestatic 28, 75) := am_kq14 35 _ _ _ rfl
theorem k14_75 : am_at 14 75 = some (.ifCond .ne 88, 78) := am_kq14 36 _ _ _ rfl
theorem k14_78 : am_at 14 78 = some (.aload 0, 79) := am_kq14 37 _ _ _ rfl
theorem k14_79 : am_at 14 79 = some (.dup, 80) := am_kq14 38 _ _ _ rfl
theorem k14_80 : am_at 14 80 = some (.getfield 7, 83) := am_kq14 39 _ _ _ rfl
theorem k14_83 : am_at 14 83 = some (.bipush 1, 84) := am_kq14 40 _ _ _ rfl
theorem k14_84 : am_at 14 84 = some (.iadd, 85) := am_kq14 41 _ _ _ rfl
theorem k14_85 : am_at 14 85 = some (.putfield 7, 88) := am_kq14 42 _ _ _ rfl
theorem k14_88 : am_at 14 88 = some (.lload 5, 90) := am_kq14 43 _ _ _ rfl
theorem k14_90 : am_at 14 90 = some (.lreturn, 91) := am_kq14 44 _ _ _ rfl
set_option maxRecDepth 20000 in
theorem am_kq15 (i pc : Nat) (x : Instr) (nx : Nat) (hi : am_t15[i]? = some (pc, x, nx)) : am_at 15 pc = some (x, nx) := am_kB 15 am_t15 rfl (by decide +kernel) i pc x nx hi
theorem k15_0 : am_at 15 0 = some (.aload 0, 1) := am_kq15 0 _ _ _ rfl
theorem k15_1 : am_at 15 1 = some (.getfield 0, 4) := am_kq15 1 _ _ _ rfl
theorem k15_4 : am_at 15 4 = some (.iload 1, 5) := am_kq15 2 _ _ _ rfl
theorem k15_5 : am_at 15 5 = some (.invokestatic 85, 8) := am_kq15 3 _ _ _ rfl
theorem k15_8 : am_at 15 8 = some (.ifCond .eq 23, 11) := am_kq15 4 _ _ _ rfl
theorem k15_11 : am_at 15 11 = some (.aload 0, 12) := am_kq15 5 _ _ _ rfl
theorem k15_12 : am_at 15 12 = some (.getfield 0, 15) := am_kq15 6 _ _ _ rfl
theorem k15_15 : am_at 15 15 = some (.iload 1, 16) := am_kq15 7 _ _ _ rfl
theorem k15_16 : am_at 15 16 = some (.iload 2, 17) := am_kq15 8 _ _ _ rfl
theorem k15_17 : am_at 15 17 = some (.invokestatic 98, 20) := am_kq15 9 _ _ _ rfl
theorem k15_20 : am_at 15 20 = some (.goto 25, 23) := am_kq15 10 _ _ _ rfl
theorem k15_23 : am_at 15 23 = some (.bipush (-2), 25) := am_kq15 11 _ _ _ rfl
theorem k15_25 : am_at 15 25 = some (.ireturn, 26) := am_kq15 12 _ _ _ rfl
set_option maxRecDepth 20000 in
theorem am_kq16 (i pc : Nat) (x : Instr) (nx : Nat) (hi : am_t16[i]? = some (pc, x, nx)) : am_at 16 pc = some (x, nx) := am_kB 16 am_t16 rfl (by decide +kernel) i pc x nx hi
theorem k16_0 : am_at 16 0 = some (.aload 0, 1) := am_kq16 0 _ _ _ rfl
theorem k16_1 : am_at 16 1 = some (.getfield 0, 4) := am_kq16 1 _ _ _ rfl
theorem k16_4 : am_at 16 4 = some (.iload 1, 5) := am_kq16 2 _ _ _ rfl
theorem k16_5 : am_at 16 5 = some (.invokestatic 85, 8) := am_kq16 3 _ _ _ rfl
theorem k16_8 : am_at 16 8 = some (.ifCond .ne 14, 11) := am_kq16 4 _ _ _ rfl
theorem k16_11 : am_at 16 11 = some (.bipush (-2), 13) := am_kq16 5 _ _ _ rfl
theorem k16_13 : am_at 16 13 = some (.ireturn, 14) := am_kq16 6 _ _ _ rfl
theorem k16_14 : am_at 16 14 = some (.iload 2, 15) := am_kq16 7 _ _ _ rfl
theorem k16_15 : am_at 16 15 = some (.invokestatic 24, 18) := am_kq16 8 _ _ _ rfl
theorem k16_18 : am_at 16 18 = some (.ifCond .eq 33, 21) := am_kq16 9 _ _ _ rfl
theorem k16_21 : am_at 16 21 = some (.aload 0, 22) := am_kq16 10 _ _ _ rfl
theorem k16_22 : am_at 16 22 = some (.getfield 0, 25) := am_kq16 11 _ _ _ rfl
theorem k16_25 : am_at 16 25 = some (.iload 1, 26) := am_kq16 12 _ _ _ rfl
theorem k16_26 : am_at 16 26 = some (.iload 2, 27) := am_kq16 13 _ _ _ rfl
theorem k16_27 : am_at 16 27 = some (.invokestatic 101, 30) := am_kq16 14 _ _ _ rfl
theorem k16_30 : am_at 16 30 = some (.goto 34, 33) := am_kq16 15 _ _ _ rfl
theorem k16_33 : am_at 16 33 = some (.bipush (-1), 34) := am_kq16 16 _ _ _ rfl
theorem k16_34 : am_at 16 34 = some (.ireturn, 35) := am_kq16 17 _ _ _ rfl
set_option maxRecDepth 20000 in
theorem am_kq17 (i pc : Nat) (x : Instr) (nx : Nat) (hi : am_t17[i]? = some (pc, x, nx)) : am_at 17 pc = some (x, nx) := am_kB 17 am_t17 rfl (by decide +kernel) i pc x nx hi
theorem k17_0 : am_at 17 0 = some (.aload 0, 1) := am_kq17 0 _ _ _ rfl
theorem k17_1 : am_at 17 1 = some (.getfield 1, 4) := am_kq17 1 _ _ _ rfl
theorem k17_4 : am_at 17 4 = some (.iload 1, 5) := am_kq17 2 _ _ _ rfl
theorem k17_5 : am_at 17 5 = some (.invokestatic 118, 8) := am_kq17 3 _ _ _ rfl
theorem k17_8 : am_at 17 8 = some (.ifCond .ne 14, 11) := am_kq17 4 _ _ _ rfl
theorem k17_11 : am_at 17 11 = some (.bipush (-2), 13) := am_kq17 5 _ _ _ rfl
theorem k17_13 : am_at 17 13 = some (.ireturn, 14) := am_kq17 6 _ _ _ rfl
theorem k17_14 : am_at 17 14 = some (.iload 2, 15) := am_kq17 7 _ _ _ rfl
theorem k17_15 : am_at 17 15 = some (.tableswitch 67 0 2 #[40, 49, 58], 40) := am_kq17 8 _ _ _ rfl
theorem k17_40 : am_at 17 40 = some (.aload 0, 41) := am_kq17 9 _ _ _ rfl
theorem k17_41 : am_at 17 41 = some (.getfield 1, 44) := am_kq17 10 _ _ _ rfl
theorem k17_44 : am_at 17 44 = some (.iload 1, 45) := am_kq17 11 _ _ _ rfl
theorem k17_45 : am_at 17 45 = some (.invokestatic 119, 48) := am_kq17 12 _ _ _ rfl
theorem k17_48 : am_at 17 48 = some (.ireturn, 49) := am_kq17 13 _ _ _ rfl
theorem k17_49 : am_at 17 49 = some (.aload 0, 50) := am_kq17 14 _ _ _ rfl
theorem k17_50 : am_at 17 50 = some (.getfield 1, 53) := am_kq17 15 _ _ _ rfl
theorem k17_53 : am_at 17 53 = some (.iload 1, 54) := am_kq17 16 _ _ _ rfl
theorem k17_54 : am_at 17 54 = some (.invokestatic 120, 57) := am_kq17 17 _ _ _ rfl
theorem k17_57 : am_at 17 57 = some (.ireturn, 58) := am_kq17 18 _ _ _ rfl
theorem k17_58 : am_at 17 58 = some (.aload 0, 59) := am_kq17 19 _ _ _ rfl
theorem k17_59 : am_at 17 59 = some (.getfield 1, 62) := am_kq17 20 _ _ _ rfl
theorem k17_62 : am_at 17 62 = some (.iload 1, 63) := am_kq17 21 _ _ _ rfl
theorem k17_63 : am_at 17 63 = some (.invokestatic 121, 66) := am_kq17 22 _ _ _ rfl
theorem k17_66 : am_at 17 66 = some (.ireturn, 67) := am_kq17 23 _ _ _ rfl
theorem k17_67 : am_at 17 67 = some (.bipush (-2), 69) := am_kq17 24 _ _ _ rfl
theorem k17_69 : am_at 17 69 = some (.ireturn, 70) := am_kq17 25 _ _ _ rfl
set_option maxRecDepth 20000 in
theorem am_kq18 (i pc : Nat) (x : Instr) (nx : Nat) (hi : am_t18[i]? = some (pc, x, nx)) : am_at 18 pc = some (x, nx) := am_kB 18 am_t18 rfl (by decide +kernel) i pc x nx hi
theorem k18_0 : am_at 18 0 = some (.aload 0, 1) := am_kq18 0 _ _ _ rfl
theorem k18_1 : am_at 18 1 = some (.getfield 5, 4) := am_kq18 1 _ _ _ rfl
theorem k18_4 : am_at 18 4 = some (.iload 1, 5) := am_kq18 2 _ _ _ rfl
theorem k18_5 : am_at 18 5 = some (.invokestatic 175, 8) := am_kq18 3 _ _ _ rfl
theorem k18_8 : am_at 18 8 = some (.ireturn, 9) := am_kq18 4 _ _ _ rfl
set_option maxRecDepth 20000 in
theorem am_kq19 (i pc : Nat) (x : Instr) (nx : Nat) (hi : am_t19[i]? = some (pc, x, nx)) : am_at 19 pc = some (x, nx) := am_kB 19 am_t19 rfl (by decide +kernel) i pc x nx hi
theorem k19_0 : am_at 19 0 = some (.iload 1, 1) := am_kq19 0 _ _ _ rfl
theorem k19_1 : am_at 19 1 = some (.tableswitch 133 0 9 #[56, 64, 72, 80, 88, 96, 104, 112, 120, 125], 56) := am_kq19 1 _ _ _ rfl
theorem k19_56 : am_at 19 56 = some (.aload 0, 57) := am_kq19 2 _ _ _ rfl
theorem k19_57 : am_at 19 57 = some (.getfield 0, 60) := am_kq19 3 _ _ _ rfl
theorem k19_60 : am_at 19 60 = some (.invokestatic 84, 63) := am_kq19 4 _ _ _ rfl
theorem k19_63 : am_at 19 63 = some (.ireturn, 64) := am_kq19 5 _ _ _ rfl
theorem k19_64 : am_at 19 64 = some (.aload 0, 65) := am_kq19 6 _ _ _ rfl
theorem k19_65 : am_at 19 65 = some (.getfield 1, 68) := am_kq19 7 _ _ _ rfl
theorem k19_68 : am_at 19 68 = some (.invokestatic 116, 71) := am_kq19 8 _ _ _ rfl
theorem k19_71 : am_at 19 71 = some (.ireturn, 72) := am_kq19 9 _ _ _ rfl
theorem k19_72 : am_at 19 72 = some (.aload 0, 73) := am_kq19 10 _ _ _ rfl
theorem k19_73 : am_at 19 73 = some (.getfield 2, 76) := am_kq19 11 _ _ _ rfl
theorem k19_76 : am_at 19 76 = some (.invokestatic 158, 79) := am_kq19 12 _ _ _ rfl
theorem k19_79 : am_at 19 79 = some (.ireturn, 80) := am_kq19 13 _ _ _ rfl
theorem k19_80 : am_at 19 80 = some (.aload 0, 81) := am_kq19 14 _ _ _ rfl
theorem k19_81 : am_at 19 81 = some (.getfield 5, 84) := am_kq19 15 _ _ _ rfl
theorem k19_84 : am_at 19 84 = some (.invokestatic 173, 87) := am_kq19 16 _ _ _ rfl
theorem k19_87 : am_at 19 87 = some (.ireturn, 88) := am_kq19 17 _ _ _ rfl
theorem k19_88 : am_at 19 88 = some (.aload 0, 89) := am_kq19 18 _ _ _ rfl
theorem k19_89 : am_at 19 89 = some (.getfield 6, 92) := am_kq19 19 _ _ _ rfl
theorem k19_92 : am_at 19 92 = some (.invokestatic 142, 95) := am_kq19 20 _ _ _ rfl
theorem k19_95 : am_at 19 95 = some (.ireturn, 96) := am_kq19 21 _ _ _ rfl
theorem k19_96 : am_at 19 96 = some (.aload 0, 97) := am_kq19 22 _ _ _ rfl
theorem k19_97 : am_at 19 97 = some (.getfield 3, 100) := am_kq19 23 _ _ _ rfl
theorem k19_100 : am_at 19 100 = some (.invokestatic 130, 103) := am_kq19 24 _ _ _ rfl
theorem k19_103 : am_at 19 103 = some (.ireturn, 104) := am_kq19 25 _ _ _ rfl
theorem k19_104 : am_at 19 104 = some (.aload 0, 105) := am_kq19 26 _ _ _ rfl
theorem k19_105 : am_at 19 105 = some (.getfield 3, 108) := am_kq19 27 _ _ _ rfl
theorem k19_108 : am_at 19 108 = some (.invokestatic 131, 111) := am_kq19 28 _ _ _ rfl
theorem k19_111 : am_at 19 111 = some (.ireturn, 112) := am_kq19 29 _ _ _ rfl
theorem k19_112 : am_at 19 112 = some (.aload 0, 113) := am_kq19 30 _ _ _ rfl
theorem k19_113 : am_at 19 113 = some (.getfield 1, 116) := am_kq19 31 _ _ _ rfl
theorem k19_116 : am_at 19 116 = some (.invokestatic 117, 119) := am_kq19 32 _ _ _ rfl
theorem k19_119 : am_at 19 119 = some (.ireturn, 120) := am_kq19 33 _ _ _ rfl
theorem k19_120 : am_at 19 120 = some (.aload 0, 121) := am_kq19 34 _ _ _ rfl
theorem k19_121 : am_at 19 121 = some (.getfield 7, 124) := am_kq19 35 _ _ _ rfl
theorem k19_124 : am_at 19 124 = some (.ireturn, 125) := am_kq19 36 _ _ _ rfl
theorem k19_125 : am_at 19 125 = some (.aload 0, 126) := am_kq19 37 _ _ _ rfl
theorem k19_126 : am_at 19 126 = some (.getfield 6, 129) := am_kq19 38 _ _ _ rfl
theorem k19_129 : am_at 19 129 = some (.invokestatic 143, 132) := am_kq19 39 _ _ _ rfl
theorem k19_132 : am_at 19 132 = some (.ireturn, 133) := am_kq19 40 _ _ _ rfl
theorem k19_133 : am_at 19 133 = some (.bipush (-1), 134) := am_kq19 41 _ _ _ rfl
theorem k19_134 : am_at 19 134 = some (.ireturn, 135) := am_kq19 42 _ _ _ rfl
set_option maxRecDepth 20000 in
theorem am_kq20 (i pc : Nat) (x : Instr) (nx : Nat) (hi : am_t20[i]? = some (pc, x, nx)) : am_at 20 pc = some (x, nx) := am_kB 20 am_t20 rfl (by decide +kernel) i pc x nx hi
theorem k20_0 : am_at 20 0 = some (.aload 0, 1) := am_kq20 0 _ _ _ rfl
theorem k20_1 : am_at 20 1 = some (.getfield 1, 4) := am_kq20 1 _ _ _ rfl
theorem k20_4 : am_at 20 4 = some (.iload 1, 5) := am_kq20 2 _ _ _ rfl
theorem k20_5 : am_at 20 5 = some (.invokestatic 118, 8) := am_kq20 3 _ _ _ rfl
theorem k20_8 : am_at 20 8 = some (.ifCond .ne 14, 11) := am_kq20 4 _ _ _ rfl
theorem k20_11 : am_at 20 11 = some (.bipush (-2), 13) := am_kq20 5 _ _ _ rfl
theorem k20_13 : am_at 20 13 = some (.ireturn, 14) := am_kq20 6 _ _ _ rfl
theorem k20_14 : am_at 20 14 = some (.iload 2, 15) := am_kq20 7 _ _ _ rfl
theorem k20_15 : am_at 20 15 = some (.invokestatic 24, 18) := am_kq20 8 _ _ _ rfl
theorem k20_18 : am_at 20 18 = some (.ifCond .eq 25, 21) := am_kq20 9 _ _ _ rfl
theorem k20_21 : am_at 20 21 = some (.bipush 0, 22) := am_kq20 10 _ _ _ rfl
theorem k20_22 : am_at 20 22 = some (.goto 26, 25) := am_kq20 11 _ _ _ rfl
theorem k20_25 : am_at 20 25 = some (.bipush (-1), 26) := am_kq20 12 _ _ _ rfl
theorem k20_26 : am_at 20 26 = some (.ireturn, 27) := am_kq20 13 _ _ _ rfl
set_option maxRecDepth 20000 in
theorem am_kq21 (i pc : Nat) (x : Instr) (nx : Nat) (hi : am_t21[i]? = some (pc, x, nx)) : am_at 21 pc = some (x, nx) := am_kB 21 am_t21 rfl (by decide +kernel) i pc x nx hi
theorem k21_0 : am_at 21 0 = some (.iload 1, 1) := am_kq21 0 _ _ _ rfl
theorem k21_1 : am_at 21 1 = some (.bipush 16, 3) := am_kq21 1 _ _ _ rfl
theorem k21_3 : am_at 21 3 = some (.if_icmp .lt 20, 6) := am_kq21 2 _ _ _ rfl
theorem k21_6 : am_at 21 6 = some (.aload 0, 7) := am_kq21 3 _ _ _ rfl
theorem k21_7 : am_at 21 7 = some (.getfield 1, 10) := am_kq21 4 _ _ _ rfl
theorem k21_10 : am_at 21 10 = some (.iload 1, 11) := am_kq21 5 _ _ _ rfl
theorem k21_11 : am_at 21 11 = some (.bipush 16, 13) := am_kq21 6 _ _ _ rfl
theorem k21_13 : am_at 21 13 = some (.isub, 14) := am_kq21 7 _ _ _ rfl
theorem k21_14 : am_at 21 14 = some (.invokestatic 118, 17) := am_kq21 8 _ _ _ rfl
theorem k21_17 : am_at 21 17 = some (.goto 28, 20) := am_kq21 9 _ _ _ rfl
theorem k21_20 : am_at 21 20 = some (.aload 0, 21) := am_kq21 10 _ _ _ rfl
theorem k21_21 : am_at 21 21 = some (.getfield 0, 24) := am_kq21 11 _ _ _ rfl
theorem k21_24 : am_at 21 24 = some (.iload 1, 25) := am_kq21 12 _ _ _ rfl
theorem k21_25 : am_at 21 25 = some (.invokestatic 85, 28) := am_kq21 13 _ _ _ rfl
theorem k21_28 : am_at 21 28 = some (.ireturn, 29) := am_kq21 14 _ _ _ rfl
set_option maxRecDepth 20000 in
theorem am_kq22 (i pc : Nat) (x : Instr) (nx : Nat) (hi : am_t22[i]? = some (pc, x, nx)) : am_at 22 pc = some (x, nx) := am_kB 22 am_t22 rfl (by decide +kernel) i pc x nx hi
theorem k22_0 : am_at 22 0 = some (.iload 0, 1) := am_kq22 0 _ _ _ rfl
theorem k22_1 : am_at 22 1 = some (.bipush 0, 2) := am_kq22 1 _ _ _ rfl
theorem k22_2 : am_at 22 2 = some (.bipush 11, 4) := am_kq22 2 _ _ _ rfl
theorem k22_4 : am_at 22 4 = some (.invokestatic 27, 7) := am_kq22 3 _ _ _ rfl
theorem k22_7 : am_at 22 7 = some (.ifCond .ne 21, 10) := am_kq22 4 _ _ _ rfl
theorem k22_10 : am_at 22 10 = some (.iload 0, 11) := am_kq22 5 _ _ _ rfl
theorem k22_11 : am_at 22 11 = some (.bipush 16, 13) := am_kq22 6 _ _ _ rfl
theorem k22_13 : am_at 22 13 = some (.bipush 27, 15) := am_kq22 7 _ _ _ rfl
theorem k22_15 : am_at 22 15 = some (.invokestatic 27, 18) := am_kq22 8 _ _ _ rfl
theorem k22_18 : am_at 22 18 = some (.ifCond .eq 25, 21) := am_kq22 9 _ _ _ rfl
theorem k22_21 : am_at 22 21 = some (.bipush 1, 22) := am_kq22 10 _ _ _ rfl
theorem k22_22 : am_at 22 22 = some (.goto 26, 25) := am_kq22 11 _ _ _ rfl
theorem k22_25 : am_at 22 25 = some (.bipush 0, 26) := am_kq22 12 _ _ _ rfl
theorem k22_26 : am_at 22 26 = some (.ireturn, 27) := am_kq22 13 _ _ _ rfl
set_option maxRecDepth 20000 in
theorem am_kq23 (i pc : Nat) (x : Instr) (nx : Nat) (hi : am_t23[i]? = some (pc, x, nx)) : am_at 23 pc = some (x, nx) := am_kB 23 am_t23 rfl (by decide +kernel) i pc x nx hi
theorem k23_0 : am_at 23 0 = some (.iload 0, 1) := am_kq23 0 _ _ _ rfl
theorem k23_1 : am_at 23 1 = some (.tableswitch 62 2 8 #[44, 44, 62, 62, 62, 49, 54], 44) := am_kq23 1 _ _ _ rfl
theorem k23_44 : am_at 23 44 = some (.iload 1, 45) := am_kq23 2 _ _ _ rfl
theorem k23_45 : am_at 23 45 = some (.invokestatic 24, 48) := am_kq23 3 _ _ _ rfl
theorem k23_48 : am_at 23 48 = some (.ireturn, 49) := am_kq23 4 _ _ _ rfl
theorem k23_49 : am_at 23 49 = some (.iload 1, 50) := am_kq23 5 _ _ _ rfl
theorem k23_50 : am_at 23 50 = some (.invokestatic 25, 53) := am_kq23 6 _ _ _ rfl
theorem k23_53 : am_at 23 53 = some (.ireturn, 54) := am_kq23 7 _ _ _ rfl
theorem k23_54 : am_at 23 54 = some (.iload 1, 55) := am_kq23 8 _ _ _ rfl
theorem k23_55 : am_at 23 55 = some (.bipush 0, 56) := am_kq23 9 _ _ _ rfl
theorem k23_56 : am_at 23 56 = some (.bipush 11, 58) := am_kq23 10 _ _ _ rfl
theorem k23_58 : am_at 23 58 = some (.invokestatic 27, 61) := am_kq23 11 _ _ _ rfl
theorem k23_61 : am_at 23 61 = some (.ireturn, 62) := am_kq23 12 _ _ _ rfl
theorem k23_62 : am_at 23 62 = some (.bipush 1, 63) := am_kq23 13 _ _ _ rfl
theorem k23_63 : am_at 23 63 = some (.ireturn, 64) := am_kq23 14 _ _ _ rfl
set_option maxRecDepth 20000 in
theorem am_kq24 (i pc : Nat) (x : Instr) (nx : Nat) (hi : am_t24[i]? = some (pc, x, nx)) : am_at 24 pc = some (x, nx) := am_kB 24 am_t24 rfl (by decide +kernel) i pc x nx hi
theorem k24_0 : am_at 24 0 = some (.iload 0, 1) := am_kq24 0 _ _ _ rfl
theorem k24_1 : am_at 24 1 = some (.bipush 0, 2) := am_kq24 1 _ _ _ rfl
theorem k24_2 : am_at 24 2 = some (.bipush 5, 3) := am_kq24 2 _ _ _ rfl
theorem k24_3 : am_at 24 3 = some (.invokestatic 27, 6) := am_kq24 3 _ _ _ rfl
theorem k24_6 : am_at 24 6 = some (.ireturn, 7) := am_kq24 4 _ _ _ rfl
set_option maxRecDepth 20000 in
theorem am_kq25 (i pc : Nat) (x : Instr) (nx : Nat) (hi : am_t25[i]? = some (pc, x, nx)) : am_at 25 pc = some (x, nx) := am_kB 25 am_t25 rfl (by decide +kernel) i pc x nx hi
theorem k25_0 : am_at 25 0 = some (.iload 0, 1) := am_kq25 0 _ _ _ rfl
theorem k25_1 : am_at 25 1 = some (.bipush 0, 2) := am_kq25 1 _ _ _ rfl
theorem k25_2 : am_at 25 2 = some (.bipush 4, 3) := am_kq25 2 _ _ _ rfl
theorem k25_3 : am_at 25 3 = some (.invokestatic 27, 6) := am_kq25 3 _ _ _ rfl
theorem k25_6 : am_at 25 6 = some (.ireturn, 7) := am_kq25 4 _ _ _ rfl
set_option maxRecDepth 20000 in
theorem am_kq26 (i pc : Nat) (x : Instr) (nx : Nat) (hi : am_t26[i]? = some (pc, x, nx)) : am_at 26 pc = some (x, nx) := am_kB 26 am_t26 rfl (by decide +kernel) i pc x nx hi
theorem k26_0 : am_at 26 0 = some (.iload 0, 1) := am_kq26 0 _ _ _ rfl
theorem k26_1 : am_at 26 1 = some (.bipush 0, 2) := am_kq26 1 _ _ _ rfl
theorem k26_2 : am_at 26 2 = some (.bipush 7, 4) := am_kq26 2 _ _ _ rfl
theorem k26_4 : am_at 26 4 = some (.invokestatic 27, 7) := am_kq26 3 _ _ _ rfl
theorem k26_7 : am_at 26 7 = some (.ireturn, 8) := am_kq26 4 _ _ _ rfl
set_option maxRecDepth 20000 in
theorem am_kq27 (i pc : Nat) (x : Instr) (nx : Nat) (hi : am_t27[i]? = some (pc, x, nx)) : am_at 27 pc = some (x, nx) := am_kB 27 am_t27 rfl (by decide +kernel) i pc x nx hi
theorem k27_0 : am_at 27 0 = some (.iload 0, 1) := am_kq27 0 _ _ _ rfl
theorem k27_1 : am_at 27 1 = some (.iload 1, 2) := am_kq27 1 _ _ _ rfl
theorem k27_2 : am_at 27 2 = some (.if_icmp .lt 14, 5) := am_kq27 2 _ _ _ rfl
theorem k27_5 : am_at 27 5 = some (.iload 0, 6) := am_kq27 3 _ _ _ rfl
theorem k27_6 : am_at 27 6 = some (.iload 2, 7) := am_kq27 4 _ _ _ rfl
theorem k27_7 : am_at 27 7 = some (.if_icmp .gt 14, 10) := am_kq27 5 _ _ _ rfl
theorem k27_10 : am_at 27 10 = some (.bipush 1, 11) := am_kq27 6 _ _ _ rfl
theorem k27_11 : am_at 27 11 = some (.goto 15, 14) := am_kq27 7 _ _ _ rfl
theorem k27_14 : am_at 27 14 = some (.bipush 0, 15) := am_kq27 8 _ _ _ rfl
theorem k27_15 : am_at 27 15 = some (.ireturn, 16) := am_kq27 9 _ _ _ rfl
set_option maxRecDepth 20000 in
theorem am_kq28 (i pc : Nat) (x : Instr) (nx : Nat) (hi : am_t28[i]? = some (pc, x, nx)) : am_at 28 pc = some (x, nx) := am_kB 28 am_t28 rfl (by decide +kernel) i pc x nx hi
theorem k28_0 : am_at 28 0 = some (.lload 0, 1) := am_kq28 0 _ _ _ rfl
theorem k28_1 : am_at 28 1 = some (.sipush 2147483647, 4) := am_kq28 1 _ _ _ rfl
theorem k28_4 : am_at 28 4 = some (.lcmp, 5) := am_kq28 2 _ _ _ rfl
theorem k28_5 : am_at 28 5 = some (.ifCond .le 12, 8) := am_kq28 3 _ _ _ rfl
theorem k28_8 : am_at 28 8 = some (.bipush 1, 9) := am_kq28 4 _ _ _ rfl
theorem k28_9 : am_at 28 9 = some (.goto 13, 12) := am_kq28 5 _ _ _ rfl
theorem k28_12 : am_at 28 12 = some (.bipush 0, 13) := am_kq28 6 _ _ _ rfl
theorem k28_13 : am_at 28 13 = some (.ireturn, 14) := am_kq28 7 _ _ _ rfl
set_option maxRecDepth 20000 in
theorem am_kq29 (i pc : Nat) (x : Instr) (nx : Nat) (hi : am_t29[i]? = some (pc, x, nx)) : am_at 29 pc = some (x, nx) := am_kB 29 am_t29 rfl (by decide +kernel) i pc x nx hi
theorem k29_0 : am_at 29 0 = some (.iload 0, 1) := am_kq29 0 _ _ _ rfl
theorem k29_1 : am_at 29 1 = some (.iload 1, 2) := am_kq29 1 _ _ _ rfl
theorem k29_2 : am_at 29 2 = some (.ishr, 3) := am_kq29 2 _ _ _ rfl
theorem k29_3 : am_at 29 3 = some (.bipush 1, 4) := am_kq29 3 _ _ _ rfl
theorem k29_4 : am_at 29 4 = some (.iand, 5) := am_kq29 4 _ _ _ rfl
theorem k29_5 : am_at 29 5 = some (.ifCond .eq 12, 8) := am_kq29 5 _ _ _ rfl
theorem k29_8 : am_at 29 8 = some (.bipush 1, 9) := am_kq29 6 _ _ _ rfl
theorem k29_9 : am_at 29 9 = some (.goto 13, 12) := am_kq29 7 _ _ _ rfl
theorem k29_12 : am_at 29 12 = some (.bipush 0, 13) := am_kq29 8 _ _ _ rfl
theorem k29_13 : am_at 29 13 = some (.ireturn, 14) := am_kq29 9 _ _ _ rfl
set_option maxRecDepth 20000 in
theorem am_kq30 (i pc : Nat) (x : Instr) (nx : Nat) (hi : am_t30[i]? = some (pc, x, nx)) : am_at 30 pc = some (x, nx) := am_kB 30 am_t30 rfl (by decide +kernel) i pc x nx hi
theorem k30_0 : am_at 30 0 = some (.aload 0, 1) := am_kq30 0 _ _ _ rfl
theorem k30_1 : am_at 30 1 = some (.monitorenter, 4) := am_kq30 1 _ _ _ rfl
theorem k30_4 : am_at 30 4 = some (.aload 0, 5) := am_kq30 2 _ _ _ rfl
theorem k30_5 : am_at 30 5 = some (.bipush 12, 7) := am_kq30 3 _ _ _ rfl
theorem k30_7 : am_at 30 7 = some (.newarray .boolean, 9) := am_kq30 4 _ _ _ rfl
theorem k30_9 : am_at 30 9 = some (.putfield 704, 12) := am_kq30 5 _ _ _ rfl
theorem k30_12 : am_at 30 12 = some (.aload 0, 13) := am_kq30 6 _ _ _ rfl
theorem k30_13 : am_at 30 13 = some (.bipush 36, 15) := am_kq30 7 _ _ _ rfl
theorem k30_15 : am_at 30 15 = some (.newarray .int, 17) := am_kq30 8 _ _ _ rfl
theorem k30_17 : am_at 30 17 = some (.putfield 705, 20) := am_kq30 9 _ _ _ rfl
theorem k30_20 : am_at 30 20 = some (.aload 0, 21) := am_kq30 10 _ _ _ rfl
theorem k30_21 : am_at 30 21 = some (.bipush 144, 24) := am_kq30 11 _ _ _ rfl
theorem k30_24 : am_at 30 24 = some (.newarray .int, 26) := am_kq30 12 _ _ _ rfl
theorem k30_26 : am_at 30 26 = some (.putfield 706, 29) := am_kq30 13 _ _ _ rfl
theorem k30_29 : am_at 30 29 = some (.aload 0, 30) := am_kq30 14 _ _ _ rfl
theorem k30_30 : am_at 30 30 = some (.bipush 12, 32) := am_kq30 15 _ _ _ rfl
theorem k30_32 : am_at 30 32 = some (.newarray .int, 34) := am_kq30 16 _ _ _ rfl
theorem k30_34 : am_at 30 34 = some (.putfield 707, 37) := am_kq30 17 _ _ _ rfl
theorem k30_37 : am_at 30 37 = some (.aload 0, 38) := am_kq30 18 _ _ _ rfl
theorem k30_38 : am_at 30 38 = some (.bipush 36, 40) := am_kq30 19 _ _ _ rfl
theorem k30_40 : am_at 30 40 = some (.newarray .int, 42) := am_kq30 20 _ _ _ rfl
theorem k30_42 : am_at 30 42 = some (.putfield 708, 45) := am_kq30 21 _ _ _ rfl
theorem k30_45 : am_at 30 45 = some (.aload 0, 46) := am_kq30 22 _ _ _ rfl
theorem k30_46 : am_at 30 46 = some (.bipush 12, 48) := am_kq30 23 _ _ _ rfl
theorem k30_48 : am_at 30 48 = some (.newarray .int, 50) := am_kq30 24 _ _ _ rfl
theorem k30_50 : am_at 30 50 = some (.putfield 709, 53) := am_kq30 25 _ _ _ rfl
theorem k30_53 : am_at 30 53 = some (.aload 0, 54) := am_kq30 26 _ _ _ rfl
theorem k30_54 : am_at 30 54 = some (.bipush 72, 56) := am_kq30 27 _ _ _ rfl
theorem k30_56 : am_at 30 56 = some (.newarray .int, 58) := am_kq30 28 _ _ _ rfl
theorem k30_58 : am_at 30 58 = some (.putfield 710, 61) := am_kq30 29 _ _ _ rfl
theorem k30_61 : am_at 30 61 = some (.aload 0, 62) := am_kq30 30 _ _ _ rfl
theorem k30_62 : am_at 30 62 = some (.bipush 72, 64) := am_kq30 31 _ _ _ rfl
theorem k30_64 : am_at 30 64 = some (.newarray .int, 66) := am_kq30 32 _ _ _ rfl
theorem k30_66 : am_at 30 66 = some (.putfield 711, 69) := am_kq30 33 _ _ _ rfl
theorem k30_69 : am_at 30 69 = some (.aload 0, 70) := am_kq30 34 _ _ _ rfl
theorem k30_70 : am_at 30 70 = some (.bipush 12, 72) := am_kq30 35 _ _ _ rfl
theorem k30_72 : am_at 30 72 = some (.newarray .int, 74) := am_kq30 36 _ _ _ rfl
theorem k30_74 : am_at 30 74 = some (.putfield 712, 77) := am_kq30 37 _ _ _ rfl
theorem k30_77 : am_at 30 77 = some (.aload 0, 78) := am_kq30 38 _ _ _ rfl
theorem k30_78 : am_at 30 78 = some (.bipush 12, 80) := am_kq30 39 _ _ _ rfl
theorem k30_80 : am_at 30 80 = some (.newarray .int, 82) := am_kq30 40 _ _ _ rfl
theorem k30_82 : am_at 30 82 = some (.putfield 713, 85) := am_kq30 41 _ _ _ rfl
theorem k30_85 : am_at 30 85 = some (.aload 0, 86) := am_kq30 42 _ _ _ rfl
theorem k30_86 : am_at 30 86 = some (.bipush 12, 88) := am_kq30 43 _ _ _ rfl
theorem k30_88 : am_at 30 88 = some (.newarray .int, 90) := am_kq30 44 _ _ _ rfl
theorem k30_90 : am_at 30 90 = some (.putfield 714, 93) := am_kq30 45 _ _ _ rfl
theorem k30_93 : am_at 30 93 = some (.aload 0, 94) := am_kq30 46 _ _ _ rfl
theorem k30_94 : am_at 30 94 = some (.bipush 72, 96) := am_kq30 47 _ _ _ rfl
theorem k30_96 : am_at 30 96 = some (.newarray .int, 98) := am_kq30 48 _ _ _ rfl
theorem k30_98 : am_at 30 98 = some (.putfield 715, 101) := am_kq30 49 _ _ _ rfl
theorem k30_101 : am_at 30 101 = some (.aload 0, 102) := am_kq30 50 _ _ _ rfl
theorem k30_102 : am_at 30 102 = some (.bipush 5, 103) := am_kq30 51 _ _ _ rfl
theorem k30_103 : am_at 30 103 = some (.newarray .int, 105) := am_kq30 52 _ _ _ rfl
theorem k30_105 : am_at 30 105 = some (.putfield 716, 108) := am_kq30 53 _ _ _ rfl
theorem k30_108 : am_at 30 108 = some (.aload 0, 109) := am_kq30 54 _ _ _ rfl
theorem k30_109 : am_at 30 109 = some (.bipush 16, 111) := am_kq30 55 _ _ _ rfl
theorem k30_111 : am_at 30 111 = some (.newarray .int, 113) := am_kq30 56 _ _ _ rfl
theorem k30_113 : am_at 30 113 = some (.putfield 717, 116) := am_kq30 57 _ _ _ rfl
theorem k30_116 : am_at 30 116 = some (.aload 0, 117) := am_kq30 58 _ _ _ rfl
theorem k30_117 : am_at 30 117 = some (.bipush 16, 119) := am_kq30 59 _ _ _ rfl
theorem k30_119 : am_at 30 119 = some (.newarray .int, 121) := am_kq30 60 _ _ _ rfl
theorem k30_121 : am_at 30 121 = some (.putfield 718, 124) := am_kq30 61 _ _ _ rfl
theorem k30_124 : am_at 30 124 = some (.aload 0, 125) := am_kq30 62 _ _ _ rfl
theorem k30_125 : am_at 30 125 = some (.bipush 16, 127) := am_kq30 63 _ _ _ rfl
theorem k30_127 : am_at 30 127 = some (.newarray .int, 129) := am_kq30 64 _ _ _ rfl
theorem k30_129 : am_at 30 129 = some (.putfield 719, 132) := am_kq30 65 _ _ _ rfl
theorem k30_132 : am_at 30 132 = some (.aload 0, 133) := am_kq30 66 _ _ _ rfl
theorem k30_133 : am_at 30 133 = some (.bipush 16, 135) := am_kq30 67 _ _ _ rfl
theorem k30_135 : am_at 30 135 = some (.newarray .int, 137) := am_kq30 68 _ _ _ rfl
theorem k30_137 : am_at 30 137 = some (.putfield 720, 140) := am_kq30 69 _ _ _ rfl
theorem k30_140 : am_at 30 140 = some (.aload 0, 141) := am_kq30 70 _ _ _ rfl
theorem k30_141 : am_at 30 141 = some (.bipush 16, 143) := am_kq30 71 _ _ _ rfl
theorem k30_143 : am_at 30 143 = some (.newarray .int, 145) := am_kq30 72 _ _ _ rfl
theorem k30_145 : am_at 30 145 = some (.putfield 721, 148) := am_kq30 73 _ _ _ rfl
theorem k30_148 : am_at 30 148 = some (.aload 0, 149) := am_kq30 74 _ _ _ rfl
theorem k30_149 : am_at 30 149 = some (.bipush 64, 151) := am_kq30 75 _ _ _ rfl
theorem k30_151 : am_at 30 151 = some (.newarray .int, 153) := am_kq30 76 _ _ _ rfl
theorem k30_153 : am_at 30 153 = some (.putfield 722, 156) := am_kq30 77 _ _ _ rfl
theorem k30_156 : am_at 30 156 = some (.aload 0, 157) := am_kq30 78 _ _ _ rfl
theorem k30_157 : am_at 30 157 = some (.bipush 64, 159) := am_kq30 79 _ _ _ rfl
theorem k30_159 : am_at 30 159 = some (.newarray .int, 161) := am_kq30 80 _ _ _ rfl
theorem k30_161 : am_at 30 161 = some (.putfield 723, 164) := am_kq30 81 _ _ _ rfl
theorem k30_164 : am_at 30 164 = some (.aload 0, 165) := am_kq30 82 _ _ _ rfl
theorem k30_165 : am_at 30 165 = some (.bipush 8, 167) := am_kq30 83 _ _ _ rfl
theorem k30_167 : am_at 30 167 = some (.newarray .int, 169) := am_kq30 84 _ _ _ rfl
theorem k30_169 : am_at 30 169 = some (.putfield 724, 172) := am_kq30 85 _ _ _ rfl
theorem k30_172 : am_at 30 172 = some (.aload 0, 173) := am_kq30 86 _ _ _ rfl
theorem k30_173 : am_at 30 173 = some (.bipush 720, 176) := am_kq30 87 _ _ _ rfl
theorem k30_176 : am_at 30 176 = some (.newarray .boolean, 178) := am_kq30 88 _ _ _ rfl
theorem k30_178 : am_at 30 178 = some (.putfield 725, 181) := am_kq30 89 _ _ _ rfl
theorem k30_181 : am_at 30 181 = some (.aload 0, 182) := am_kq30 90 _ _ _ rfl
theorem k30_182 : am_at 30 182 = some (.bipush 832, 185) := am_kq30 91 _ _ _ rfl
theorem k30_185 : am_at 30 185 = some (.newarray .int, 187) := am_kq30 92 _ _ _ rfl
theorem k30_187 : am_at 30 187 = some (.putfield 726, 190) := am_kq30 93 _ _ _ rfl
theorem k30_190 : am_at 30 190 = some (.aload 0, 191) := am_kq30 94 _ _ _ rfl
theorem k30_191 : am_at 30 191 = some (.bipush 52, 193) := am_kq30 95 _ _ _ rfl
theorem k30_193 : am_at 30 193 = some (.newarray .int, 195) := am_kq30 96 _ _ _ rfl
theorem k30_195 : am_at 30 195 = some (.putfield 727, 198) := am_kq30 97 _ _ _ rfl
theorem k30_198 : am_at 30 198 = some (.aload 0, 199) := am_kq30 98 _ _ _ rfl
theorem k30_199 : am_at 30 199 = some (.bipush 13, 201) := am_kq30 99 _ _ _ rfl
theorem k30_201 : am_at 30 201 = some (.newarray .int, 203) := am_kq30 100 _ _ _ rfl
theorem k30_203 : am_at 30 203 = some (.putfield 728, 206) := am_kq30 101 _ _ _ rfl
theorem k30_206 : am_at 30 206 = some (.aload 0, 207) := am_kq30 102 _ _ _ rfl
theorem k30_207 : am_at 30 207 = some (.bipush 13, 209) := am_kq30 103 _ _ _ rfl
theorem k30_209 : am_at 30 209 = some (.newarray .int, 211) := am_kq30 104 _ _ _ rfl
theorem k30_211 : am_at 30 211 = some (.putfield 729, 214) := am_kq30 105 _ _ _ rfl
theorem k30_214 : am_at 30 214 = some (.aload 0, 215) := am_kq30 106 _ _ _ rfl
theorem k30_215 : am_at 30 215 = some (.bipush 13, 217) := am_kq30 107 _ _ _ rfl
theorem k30_217 : am_at 30 217 = some (.newarray .int, 219) := am_kq30 108 _ _ _ rfl
theorem k30_219 : am_at 30 219 = some (.putfield 730, 222) := am_kq30 109 _ _ _ rfl
theorem k30_222 : am_at 30 222 = some (.aload 0, 223) := am_kq30 110 _ _ _ rfl
theorem k30_223 : am_at 30 223 = some (.bipush 320, 226) := am_kq30 111 _ _ _ rfl
theorem k30_226 : am_at 30 226 = some (.newarray .int, 228) := am_kq30 112 _ _ _ rfl
theorem k30_228 : am_at 30 228 = some (.putfield 731, 231) := am_kq30 113 _ _ _ rfl
theorem k30_231 : am_at 30 231 = some (.aload 0, 232) := am_kq30 114 _ _ _ rfl
theorem k30_232 : am_at 30 232 = some (.bipush 320, 235) := am_kq30 115 _ _ _ rfl
theorem k30_235 : am_at 30 235 = some (.newarray .int, 237) := am_kq30 116 _ _ _ rfl
theorem k30_237 : am_at 30 237 = some (.putfield 732, 240) := am_kq30 117 _ _ _ rfl
theorem k30_240 : am_at 30 240 = some (.aload 0, 241) := am_kq30 118 _ _ _ rfl
theorem k30_241 : am_at 30 241 = some (.bipush 320, 244) := am_kq30 119 _ _ _ rfl
theorem k30_244 : am_at 30 244 = some (.newarray .int, 246) := am_kq30 120 _ _ _ rfl
theorem k30_246 : am_at 30 246 = some (.putfield 733, 249) := am_kq30 121 _ _ _ rfl
theorem k30_249 : am_at 30 249 = some (.aload 0, 250) := am_kq30 122 _ _ _ rfl
theorem k30_250 : am_at 30 250 = some (.bipush 320, 253) := am_kq30 123 _ _ _ rfl
theorem k30_253 : am_at 30 253 = some (.newarray .int, 255) := am_kq30 124 _ _ _ rfl
theorem k30_255 : am_at 30 255 = some (.putfield 734, 258) := am_kq30 125 _ _ _ rfl
theorem k30_258 : am_at 30 258 = some (.aload 0, 259) := am_kq30 126 _ _ _ rfl
theorem k30_259 : am_at 30 259 = some (.bipush 320, 262) := am_kq30 127 _ _ _ rfl
theorem k30_262 : am_at 30 262 = some (.newarray .int, 264) := am_kq30 128 _ _ _ rfl
theorem k30_264 : am_at 30 264 = some (.putfield 735, 267) := am_kq30 129 _ _ _ rfl
theorem k30_267 : am_at 30 267 = some (.aload 0, 268) := am_kq30 130 _ _ _ rfl
theorem k30_268 : am_at 30 268 = some (.bipush 320, 271) := am_kq30 131 _ _ _ rfl
theorem k30_271 : am_at 30 271 = some (.newarray .int, 273) := am_kq30 132 _ _ _ rfl
theorem k30_273 : am_at 30 273 = some (.putfield 736, 276) := am_kq30 133 _ _ _ rfl
theorem k30_276 : am_at 30 276 = some (.aload 0, 277) := am_kq30 134 _ _ _ rfl
theorem k30_277 : am_at 30 277 = some (.bipush 320, 280) := am_kq30 135 _ _ _ rfl
theorem k30_280 : am_at 30 280 = some (.newarray .int, 282) := am_kq30 136 _ _ _ rfl
theorem k30_282 : am_at 30 282 = some (.putfield 737, 285) := am_kq30 137 _ _ _ rfl
theorem k30_285 : am_at 30 285 = some (.aload 0, 286) := am_kq30 138 _ _ _ rfl
theorem k30_286 : am_at 30 286 = some (.bipush 320, 289) := am_kq30 139 _ _ _ rfl
theorem k30_289 : am_at 30 289 = some (.newarray .int, 291) := am_kq30 140 _ _ _ rfl
theorem k30_291 : am_at 30 291 = some (.putfield 738, 294) := am_kq30 141 _ _ _ rfl
theorem k30_294 : am_at 30 294 = some (.aload 0, 295) := am_kq30 142 _ _ _ rfl
theorem k30_295 : am_at 30 295 = some (.bipush 20, 297) := am_kq30 143 _ _ _ rfl
theorem k30_297 : am_at 30 297 = some (.newarray .int, 299) := am_kq30 144 _ _ _ rfl
theorem k30_299 : am_at 30 299 = some (.putfield 739, 302) := am_kq30 145 _ _ _ rfl
theorem k30_302 : am_at 30 302 = some (.aload 0, 303) := am_kq30 146 _ _ _ rfl
theorem k30_303 : am_at 30 303 = some (.bipush 10, 305) := am_kq30 147 _ _ _ rfl
theorem k30_305 : am_at 30 305 = some (.newarray .int, 307) := am_kq30 148 _ _ _ rfl
theorem k30_307 : am_at 30 307 = some (.putfield 740, 310) := am_kq30 149 _ _ _ rfl
theorem k30_310 : am_at 30 310 = some (.aload 0, 311) := am_kq30 150 _ _ _ rfl
theorem k30_311 : am_at 30 311 = some (.getfield 704, 314) := am_kq30 151 _ _ _ rfl
theorem k30_314 : am_at 30 314 = some (.bipush 0, 315) := am_kq30 152 _ _ _ rfl
theorem k30_315 : am_at 30 315 = some (.bipush 1, 316) := am_kq30 153 _ _ _ rfl
theorem k30_316 : am_at 30 316 = some (.bastore, 317) := am_kq30 154 _ _ _ rfl
theorem k30_317 : am_at 30 317 = some (.aload 0, 318) := am_kq30 155 _ _ _ rfl
theorem k30_318 : am_at 30 318 = some (.getfield 707, 321) := am_kq30 156 _ _ _ rfl
theorem k30_321 : am_at 30 321 = some (.bipush 0, 322) := am_kq30 157 _ _ _ rfl
theorem k30_322 : am_at 30 322 = some (.bipush 1, 323) := am_kq30 158 _ _ _ rfl
theorem k30_323 : am_at 30 323 = some (.iastore, 324) := am_kq30 159 _ _ _ rfl
theorem k30_324 : am_at 30 324 = some (.bipush 0, 325) := am_kq30 160 _ _ _ rfl
theorem k30_325 : am_at 30 325 = some (.istore 1, 326) := am_kq30 161 _ _ _ rfl
theorem k30_326 : am_at 30 326 = some (.iload 1, 327) := am_kq30 162 _ _ _ rfl
theorem k30_327 : am_at 30 327 = some (.bipush 16, 329) := am_kq30 163 _ _ _ rfl
theorem k30_329 : am_at 30 329 = some (.if_icmp .ge 345, 332) := am_kq30 164 _ _ _ rfl
theorem k30_332 : am_at 30 332 = some (.aload 0, 333) := am_kq30 165 _ _ _ rfl
theorem k30_333 : am_at 30 333 = some (.getfield 717, 336) := am_kq30 166 _ _ _ rfl
theorem k30_336 : am_at 30 336 = some (.iload 1, 337) := am_kq30 167 _ _ _ rfl
theorem k30_337 : am_at 30 337 = some (.bipush (-1), 338) := am_kq30 168 _ _ _ rfl
theorem k30_338 : am_at 30 338 = some (.iastore, 339) := am_kq30 169 _ _ _ rfl
theorem k30_339 : am_at 30 339 = some (.iinc 1 1, 342) := am_kq30 170 _ _ _ rfl
theorem k30_342 : am_at 30 342 = some (.goto 326, 345) := am_kq30 171 _ _ _ rfl
theorem k30_345 : am_at 30 345 = some (.bipush 0, 346) := am_kq30 172 _ _ _ rfl
theorem k30_346 : am_at 30 346 = some (.istore 1, 347) := am_kq30 173 _ _ _ rfl
theorem k30_347 : am_at 30 347 = some (.iload 1, 348) := am_kq30 174 _ _ _ rfl
theorem k30_348 : am_at 30 348 = some (.bipush 36, 350) := am_kq30 175 _ _ _ rfl
theorem k30_350 : am_at 30 350 = some (.if_icmp .ge 366, 353) := am_kq30 176 _ _ _ rfl
theorem k30_353 : am_at 30 353 = some (.aload 0, 354) := am_kq30 177 _ _ _ rfl
theorem k30_354 : am_at 30 354 = some (.getfield 705, 357) := am_kq30 178 _ _ _ rfl
theorem k30_357 : am_at 30 357 = some (.iload 1, 358) := am_kq30 179 _ _ _ rfl
theorem k30_358 : am_at 30 358 = some (.bipush (-1), 359) := am_kq30 180 _ _ _ rfl
theorem k30_359 : am_at 30 359 = some (.iastore, 360) := am_kq30 181 _ _ _ rfl
theorem k30_360 : am_at 30 360 = some (.iinc 1 1, 363) := am_kq30 182 _ _ _ rfl
theorem k30_363 : am_at 30 363 = some (.goto 347, 366) := am_kq30 183 _ _ _ rfl
theorem k30_366 : am_at 30 366 = some (.return_, 367) := am_kq30 184 _ _ _ rfl
set_option maxRecDepth 20000 in
theorem am_kq31 (i pc : Nat) (x : Instr) (nx : Nat) (hi : am_t31[i]? = some (pc, x, nx)) : am_at 31 pc = some (x, nx) := am_kB 31 am_t31 rfl (by decide +kernel) i pc x nx hi
theorem k31_0 : am_at 31 0 = some (.iload 0, 1) := am_kq31 0 _ _ _ rfl
theorem k31_1 : am_at 31 1 = some (.iload 1, 2) := am_kq31 1 _ _ _ rfl
theorem k31_2 : am_at 31 2 = some (.if_icmp .lt 14, 5) := am_kq31 2 _ _ _ rfl
theorem k31_5 : am_at 31 5 = some (.iload 0, 6) := am_kq31 3 _ _ _ rfl
theorem k31_6 : am_at 31 6 = some (.iload 2, 7) := am_kq31 4 _ _ _ rfl
theorem k31_7 : am_at 31 7 = some (.if_icmp .gt 14, 10) := am_kq31 5 _ _ _ rfl
theorem k31_10 : am_at 31 10 = some (.bipush 1, 11) := am_kq31 6 _ _ _ rfl
theorem k31_11 : am_at 31 11 = some (.goto 15, 14) := am_kq31 7 _ _ _ rfl
theorem k31_14 : am_at 31 14 = some (.bipush 0, 15) := am_kq31 8 _ _ _ rfl
theorem k31_15 : am_at 31 15 = some (.ireturn, 16) := am_kq31 9 _ _ _ rfl
set_option maxRecDepth 20000 in
theorem am_kq32 (i pc : Nat) (x : Instr) (nx : Nat) (hi : am_t32[i]? = some (pc, x, nx)) : am_at 32 pc = some (x, nx) := am_kB 32 am_t32 rfl (by decide +kernel) i pc x nx hi
theorem k32_0 : am_at 32 0 = some (.iload 1, 1) := am_kq32 0 _ _ _ rfl
theorem k32_1 : am_at 32 1 = some (.bipush 0, 2) := am_kq32 1 _ _ _ rfl
theorem k32_2 : am_at 32 2 = some (.bipush 11, 4) := am_kq32 2 _ _ _ rfl
theorem k32_4 : am_at 32 4 = some (.invokestatic 31, 7) := am_kq32 3 _ _ _ rfl
theorem k32_7 : am_at 32 7 = some (.ifCond .eq 23, 10) := am_kq32 4 _ _ _ rfl
theorem k32_10 : am_at 32 10 = some (.aload 0, 11) := am_kq32 5 _ _ _ rfl
theorem k32_11 : am_at 32 11 = some (.getfield 704, 14) := am_kq32 6 _ _ _ rfl
theorem k32_14 : am_at 32 14 = some (.iload 1, 15) := am_kq32 7 _ _ _ rfl
theorem k32_15 : am_at 32 15 = some (.baload, 16) := am_kq32 8 _ _ _ rfl
theorem k32_16 : am_at 32 16 = some (.ifCond .eq 23, 19) := am_kq32 9 _ _ _ rfl
theorem k32_19 : am_at 32 19 = some (.bipush 1, 20) := am_kq32 10 _ _ _ rfl
theorem k32_20 : am_at 32 20 = some (.goto 24, 23) := am_kq32 11 _ _ _ rfl
theorem k32_23 : am_at 32 23 = some (.bipush 0, 24) := am_kq32 12 _ _ _ rfl
theorem k32_24 : am_at 32 24 = some (.ireturn, 25) := am_kq32 13 _ _ _ rfl
set_option maxRecDepth 20000 in
theorem am_kq33 (i pc : Nat) (x : Instr) (nx : Nat) (hi : am_t33[i]? = some (pc, x, nx)) : am_at 33 pc = some (x, nx) := am_kB 33 am_t33 rfl (by decide +kernel) i pc x nx hi
theorem k33_0 : am_at 33 0 = some (.iload 1, 1) := am_kq33 0 _ _ _ rfl
theorem k33_1 : am_at 33 1 = some (.bipush 0, 2) := am_kq33 1 _ _ _ rfl
theorem k33_2 : am_at 33 2 = some (.aload 0, 3) := am_kq33 2 _ _ _ rfl
theorem k33_3 : am_at 33 3 = some (.getfield 741, 6) := am_kq33 3 _ _ _ rfl
theorem k33_6 : am_at 33 6 = some (.bipush 1, 7) := am_kq33 4 _ _ _ rfl
theorem k33_7 : am_at 33 7 = some (.isub, 8) := am_kq33 5 _ _ _ rfl
theorem k33_8 : am_at 33 8 = some (.invokestatic 31, 11) := am_kq33 6 _ _ _ rfl
theorem k33_11 : am_at 33 11 = some (.ireturn, 12) := am_kq33 7 _ _ _ rfl
set_option maxRecDepth 20000 in
theorem am_kq34 (i pc : Nat) (x : Instr) (nx : Nat) (hi : am_t34[i]? = some (pc, x, nx)) : am_at 34 pc = some (x, nx) := am_kB 34 am_t34 rfl (by decide +kernel) i pc x nx hi
theorem k34_0 : am_at 34 0 = some (.bipush 0, 1) := am_kq34 0 _ _ _ rfl
theorem k34_1 : am_at 34 1 = some (.istore 3, 2) := am_kq34 1 _ _ _ rfl
theorem k34_2 : am_at 34 2 = some (.iload 3, 3) := am_kq34 2 _ _ _ rfl
theorem k34_3 : am_at 34 3 = some (.aload 0, 4) := am_kq34 3 _ _ _ rfl
theorem k34_4 : am_at 34 4 = some (.getfield 707, 7) := am_kq34 4 _ _ _ rfl
theorem k34_7 : am_at 34 7 = some (.iload 1, 8) := am_kq34 5 _ _ _ rfl
theorem k34_8 : am_at 34 8 = some (.iaload, 9) := am_kq34 6 _ _ _ rfl
theorem k34_9 : am_at 34 9 = some (.if_icmp .ge 35, 12) := am_kq34 7 _ _ _ rfl
theorem k34_12 : am_at 34 12 = some (.aload 0, 13) := am_kq34 8 _ _ _ rfl
theorem k34_13 : am_at 34 13 = some (.getfield 706, 16) := am_kq34 9 _ _ _ rfl
theorem k34_16 : am_at 34 16 = some (.bipush 12, 18) := am_kq34 10 _ _ _ rfl
theorem k34_18 : am_at 34 18 = some (.iload 1, 19) := am_kq34 11 _ _ _ rfl
theorem k34_19 : am_at 34 19 = some (.imul, 20) := am_kq34 12 _ _ _ rfl
theorem k34_20 : am_at 34 20 = some (.iload 3, 21) := am_kq34 13 _ _ _ rfl
theorem k34_21 : am_at 34 21 = some (.iadd, 22) := am_kq34 14 _ _ _ rfl
theorem k34_22 : am_at 34 22 = some (.iaload, 23) := am_kq34 15 _ _ _ rfl
theorem k34_23 : am_at 34 23 = some (.iload 2, 24) := am_kq34 16 _ _ _ rfl
theorem k34_24 : am_at 34 24 = some (.if_icmp .ne 29, 27) := am_kq34 17 _ _ _ rfl
theorem k34_27 : am_at 34 27 = some (.iload 3, 28) := am_kq34 18 _ _ _ rfl
theorem k34_28 : am_at 34 28 = some (.ireturn, 29) := am_kq34 19 _ _ _ rfl
theorem k34_29 : am_at 34 29 = some (.iinc 3 1, 32) := am_kq34 20 _ _ _ rfl
theorem k34_32 : am_at 34 32 = some (.goto 2, 35) := am_kq34 21 _ _ _ rfl
theorem k34_35 : am_at 34 35 = some (.bipush (-1), 36) := am_kq34 22 _ _ _ rfl
theorem k34_36 : am_at 34 36 = some (.ireturn, 37) := am_kq34 23 _ _ _ rfl
set_option maxRecDepth 20000 in
theorem am_kq35 (i pc : Nat) (x : Instr) (nx : Nat) (hi : am_t35[i]? = some (pc, x, nx)) : am_at 35 pc = some (x, nx) := am_kB 35 am_t35 rfl (by decide +kernel) i pc x nx hi
theorem k35_0 : am_at 35 0 = some (.aload 0, 1) := am_kq35 0 _ _ _ rfl
theorem k35_1 : am_at 35 1 = some (.iload 1, 2) := am_kq35 1 _ _ _ rfl
theorem k35_2 : am_at 35 2 = some (.iload 2, 3) := am_kq35 2 _ _ _ rfl
theorem k35_3 : am_at 35 3 = some (.invokestatic 34, 6) := am_kq35 3 _ _ _ rfl
theorem k35_6 : am_at 35 6 = some (.ifCond .lt 13, 9) := am_kq35 4 _ _ _ rfl
theorem k35_9 : am_at 35 9 = some (.bipush 1, 10) := am_kq35 5 _ _ _ rfl
theorem k35_10 : am_at 35 10 = some (.goto 14, 13) := am_kq35 6 _ _ _ rfl
theorem k35_13 : am_at 35 13 = some (.bipush 0, 14) := am_kq35 7 _ _ _ rfl
theorem k35_14 : am_at 35 14 = some (.ireturn, 15) := am_kq35 8 _ _ _ rfl
set_option maxRecDepth 20000 in
theorem am_kq36 (i pc : Nat) (x : Instr) (nx : Nat) (hi : am_t36[i]? = some (pc, x, nx)) : am_at 36 pc = some (x, nx) := am_kB 36 am_t36 rfl (by decide +kernel) i pc x nx hi
theorem k36_0 : am_at 36 0 = some (.bipush 1, 1) := am_kq36 0 _ _ _ rfl
theorem k36_1 : am_at 36 1 = some (.iload 1, 2) := am_kq36 1 _ _ _ rfl
theorem k36_2 : am_at 36 2 = some (.ishl, 3) := am_kq36 2 _ _ _ rfl
theorem k36_3 : am_at 36 3 = some (.istore 2, 4) := am_kq36 3 _ _ _ rfl
theorem k36_4 : am_at 36 4 = some (.bipush 0, 5) := am_kq36 4 _ _ _ rfl
theorem k36_5 : am_at 36 5 = some (.istore 3, 6) := am_kq36 5 _ _ _ rfl
theorem k36_6 : am_at 36 6 = some (.iload 3, 7) := am_kq36 6 _ _ _ rfl
theorem k36_7 : am_at 36 7 = some (.bipush 12, 9) := am_kq36 7 _ _ _ rfl
theorem k36_9 : am_at 36 9 = some (.if_icmp .ge 91, 12) := am_kq36 8 _ _ _ rfl
theorem k36_12 : am_at 36 12 = some (.bipush 0, 13) := am_kq36 9 _ _ _ rfl
theorem k36_13 : am_at 36 13 = some (.istore 4, 15) := am_kq36 10 _ _ _ rfl
theorem k36_15 : am_at 36 15 = some (.iload 4, 17) := am_kq36 11 _ _ _ rfl
theorem k36_17 : am_at 36 17 = some (.bipush 12, 19) := am_kq36 12 _ _ _ rfl
theorem k36_19 : am_at 36 19 = some (.if_icmp .ge 85, 22) := am_kq36 13 _ _ _ rfl
theorem k36_22 : am_at 36 22 = some (.bipush 0, 23) := am_kq36 14 _ _ _ rfl
theorem k36_23 : am_at 36 23 = some (.istore 5, 25) := am_kq36 15 _ _ _ rfl
theorem k36_25 : am_at 36 25 = some (.iload 5, 27) := am_kq36 16 _ _ _ rfl
theorem k36_27 : am_at 36 27 = some (.bipush 3, 28) := am_kq36 17 _ _ _ rfl
theorem k36_28 : am_at 36 28 = some (.if_icmp .ge 79, 31) := am_kq36 18 _ _ _ rfl
theorem k36_31 : am_at 36 31 = some (.iload 2, 32) := am_kq36 19 _ _ _ rfl
theorem k36_32 : am_at 36 32 = some (.iload 4, 34) := am_kq36 20 _ _ _ rfl
theorem k36_34 : am_at 36 34 = some (.ishr, 35) := am_kq36 21 _ _ _ rfl
theorem k36_35 : am_at 36 35 = some (.bipush 1, 36) := am_kq36 22 _ _ _ rfl
theorem k36_36 : am_at 36 36 = some (.iand, 37) := am_kq36 23 _ _ _ rfl
theorem k36_37 : am_at 36 37 = some (.bipush 1, 38) := am_kq36 24 _ _ _ rfl
theorem k36_38 : am_at 36 38 = some (.if_icmp .ne 79, 41) := am_kq36 25 _ _ _ rfl
theorem k36_41 : am_at 36 41 = some (.aload 0, 42) := am_kq36 26 _ _ _ rfl
theorem k36_42 : am_at 36 42 = some (.getfield 708, 45) := am_kq36 27 _ _ _ rfl
theorem k36_45 : am_at 36 45 = some (.bipush 3, 46) := am_kq36 28 _ _ _ rfl
theorem k36_46 : am_at 36 46 = some (.iload 4, 48) := am_kq36 29 _ _ _ rfl
theorem k36_48 : am_at 36 48 = some (.imul, 49) := am_kq36 30 _ _ _ rfl
theorem k36_49 : am_at 36 49 = some (.iload 5, 51) := am_kq36 31 _ _ _ rfl
theorem k36_51 : am_at 36 51 = some (.iadd, 52) := am_kq36 32 _ _ _ rfl
theorem k36_52 : am_at 36 52 = some (.iaload, 53) := am_kq36 33 _ _ _ rfl
theorem k36_53 : am_at 36 53 = some (.ifCond .lt 73, 56) := am_kq36 34 _ _ _ rfl
theorem k36_56 : am_at 36 56 = some (.iload 2, 57) := am_kq36 35 _ _ _ rfl
theorem k36_57 : am_at 36 57 = some (.bipush 1, 58) := am_kq36 36 _ _ _ rfl
theorem k36_58 : am_at 36 58 = some (.aload 0, 59) := am_kq36 37 _ _ _ rfl
theorem k36_59 : am_at 36 59 = some (.getfield 708, 62) := am_kq36 38 _ _ _ rfl
theorem k36_62 : am_at 36 62 = some (.bipush 3, 63) := am_kq36 39 _ _ _ rfl
theorem k36_63 : am_at 36 63 = some (.iload 4, 65) := am_kq36 40 _ _ _ rfl
theorem k36_65 : am_at 36 65 = some (.imul, 66) := am_kq36 41 _ _ _ rfl
theorem k36_66 : am_at 36 66 = some (.iload 5, 68) := am_kq36 42 _ _ _ rfl
theorem k36_68 : am_at 36 68 = some (.iadd, 69) := am_kq36 43 _ _ _ rfl
theorem k36_69 : am_at 36 69 = some (.iaload, 70) := am_kq36 44 _ _ _ rfl
theorem k36_70 : am_at 36 70 = some (.ishl, 71) := am_kq36 45 _ _ _ rfl
theorem k36_71 : am_at 36 71 = some (.ior, 72) := am_kq36 46 _ _ _ rfl
theorem k36_72 : am_at 36 72 = some (.istore 2, 73) := am_kq36 47 _ _ _ rfl
theorem k36_73 : am_at 36 73 = some (.iinc 5 1, 76) := am_kq36 48 _ _ _ rfl
theorem k36_76 : am_at 36 76 = some (.goto 25, 79) := am_kq36 49 _ _ _ rfl
theorem k36_79 : am_at 36 79 = some (.iinc 4 1, 82) := am_kq36 50 _ _ _ rfl
theorem k36_82 : am_at 36 82 = some (.goto 15, 85) := am_kq36 51 _ _ _ rfl
theorem k36_85 : am_at 36 85 = some (.iinc 3 1, 88) := am_kq36 52 _ _ _ rfl
theorem k36_88 : am_at 36 88 = some (.goto 6, 91) := am_kq36 53 _ _ _ rfl
theorem k36_91 : am_at 36 91 = some (.bipush 0, 92) := am_kq36 54 _ _ _ rfl
theorem k36_92 : am_at 36 92 = some (.istore 3, 93) := am_kq36 55 _ _ _ rfl
theorem k36_93 : am_at 36 93 = some (.iload 2, 94) := am_kq36 56 _ _ _ rfl
theorem k36_94 : am_at 36 94 = some (.istore 4, 96) := am_kq36 57 _ _ _ rfl
theorem k36_96 : am_at 36 96 = some (.iload 4, 98) := am_kq36 58 _ _ _ rfl
theorem k36_98 : am_at 36 98 = some (.ifCond .eq 318, 101) := am_kq36 59 _ _ _ rfl
theorem k36_101 : am_at 36 101 = some (.iload 4, 103) := am_kq36 60 _ _ _ rfl
theorem k36_103 : am_at 36 103 = some (.istore 5, 105) := am_kq36 61 _ _ _ rfl
theorem k36_105 : am_at 36 105 = some (.bipush 0, 106) := am_kq36 62 _ _ _ rfl
theorem k36_106 : am_at 36 106 = some (.istore 6, 108) := am_kq36 63 _ _ _ rfl
theorem k36_108 : am_at 36 108 = some (.iload 6, 110) := am_kq36 64 _ _ _ rfl
theorem k36_110 : am_at 36 110 = some (.bipush 12, 112) := am_kq36 65 _ _ _ rfl
theorem k36_112 : am_at 36 112 = some (.if_icmp .ge 200, 115) := am_kq36 66 _ _ _ rfl
theorem k36_115 : am_at 36 115 = some (.iload 2, 116) := am_kq36 67 _ _ _ rfl
theorem k36_116 : am_at 36 116 = some (.iload 6, 118) := am_kq36 68 _ _ _ rfl
theorem k36_118 : am_at 36 118 = some (.ishr, 119) := am_kq36 69 _ _ _ rfl
theorem k36_119 : am_at 36 119 = some (.bipush 1, 120) := am_kq36 70 _ _ _ rfl
theorem k36_120 : am_at 36 120 = some (.iand, 121) := am_kq36 71 _ _ _ rfl
theorem k36_121 : am_at 36 121 = some (.ifCond .ne 127, 124) := am_kq36 72 _ _ _ rfl
theorem k36_124 : am_at 36 124 = some (.goto 194, 127) := am_kq36 73 _ _ _ rfl
theorem k36_127 : am_at 36 127 = some (.iload 6, 129) := am_kq36 74 _ _ _ rfl
theorem k36_129 : am_at 36 129 = some (.istore 7, 131) := am_kq36 75 _ _ _ rfl
theorem k36_131 : am_at 36 131 = some (.bipush 0, 132) := am_kq36 76 _ _ _ rfl
theorem k36_132 : am_at 36 132 = some (.istore 8, 134) := am_kq36 77 _ _ _ rfl
theorem k36_134 : am_at 36 134 = some (.iload 8, 136) := am_kq36 78 _ _ _ rfl
theorem k36_136 : am_at 36 136 = some (.bipush 3, 137) := am_kq36 79 _ _ _ rfl
theorem k36_137 : am_at 36 137 = some (.if_icmp .ge 194, 140) := am_kq36 80 _ _ _ rfl
theorem k36_140 : am_at 36 140 = some (.aload 0, 141) := am_kq36 81 _ _ _ rfl
theorem k36_141 : am_at 36 141 = some (.getfield 708, 144) := am_kq36 82 _ _ _ rfl
theorem k36_144 : am_at 36 144 = some (.bipush 3, 145) := am_kq36 83 _ _ _ rfl
theorem k36_145 : am_at 36 145 = some (.iload 6, 147) := am_kq36 84 _ _ _ rfl
theorem k36_147 : am_at 36 147 = some (.imul, 148) := am_kq36 85 _ _ _ rfl
theorem k36_148 : am_at 36 148 = some (.iload 8, 150) := am_kq36 86 _ _ _ rfl
theorem k36_150 : am_at 36 150 = some (.iadd, 151) := am_kq36 87 _ _ _ rfl
theorem k36_151 : am_at 36 151 = some (.iaload, 152) := am_kq36 88 _ _ _ rfl
theorem k36_152 : am_at 36 152 = some (.istore 9, 154) := am_kq36 89 _ _ _ rfl
theorem k36_154 : am_at 36 154 = some (.iload 9, 156) := am_kq36 90 _ _ _ rfl
theorem k36_156 : am_at 36 156 = some (.ifCond .ge 162, 159) := am_kq36 91 _ _ _ rfl
theorem k36_159 : am_at 36 159 = some (.goto 188, 162) := am_kq36 92 _ _ _ rfl
theorem k36_162 : am_at 36 162 = some (.iload 4, 164) := am_kq36 93 _ _ _ rfl
theorem k36_164 : am_at 36 164 = some (.iload 7, 166) := am_kq36 94 _ _ _ rfl
theorem k36_166 : am_at 36 166 = some (.ishr, 167) := am_kq36 95 _ _ _ rfl
theorem k36_167 : am_at 36 167 = some (.bipush 1, 168) := am_kq36 96 _ _ _ rfl
theorem k36_168 : am_at 36 168 = some (.iand, 169) := am_kq36 97 _ _ _ rfl
theorem k36_169 : am_at 36 169 = some (.bipush 1, 170) := am_kq36 98 _ _ _ rfl
theorem k36_170 : am_at 36 170 = some (.if_icmp .ne 184, 173) := am_kq36 99 _ _ _ rfl
theorem k36_173 : am_at 36 173 = some (.iload 5, 175) := am_kq36 100 _ _ _ rfl
theorem k36_175 : am_at 36 175 = some (.bipush 1, 176) := am_kq36 101 _ _ _ rfl
theorem k36_176 : am_at 36 176 = some (.iload 9, 178) := am_kq36 102 _ _ _ rfl
theorem k36_178 : am_at 36 178 = some (.ishl, 179) := am_kq36 103 _ _ _ rfl
theorem k36_179 : am_at 36 179 = some (.bipush (-1), 180) := am_kq36 104 _ _ _ rfl
theorem k36_180 : am_at 36 180 = some (.ixor, 181) := am_kq36 105 _ _ _ rfl
theorem k36_181 : am_at 36 181 = some (.iand, 182) := am_kq36 106 _ _ _ rfl
theorem k36_182 : am_at 36 182 = some (.istore 5, 184) := am_kq36 107 _ _ _ rfl
theorem k36_184 : am_at 36 184 = some (.iload 9, 186) := am_kq36 108 _ _ _ rfl
theorem k36_186 : am_at 36 186 = some (.istore 7, 188) := am_kq36 109 _ _ _ rfl
theorem k36_188 : am_at 36 188 = some (.iinc 8 1, 191) := am_kq36 110 _ _ _ rfl
theorem k36_191 : am_at 36 191 = some (.goto 134, 194) := am_kq36 111 _ _ _ rfl
theorem k36_194 : am_at 36 194 = some (.iinc 6 1, 197) := am_kq36 112 _ _ _ rfl
theorem k36_197 : am_at 36 197 = some (.goto 108, 200) := am_kq36 113 _ _ _ rfl
theorem k36_200 : am_at 36 200 = some (.iload 5, 202) := am_kq36 114 _ _ _ rfl
theorem k36_202 : am_at 36 202 = some (.ifCond .ne 207, 205) := am_kq36 115 _ _ _ rfl
theorem k36_205 : am_at 36 205 = some (.bipush (-1), 206) := am_kq36 116 _ _ _ rfl
theorem k36_206 : am_at 36 206 = some (.ireturn, 207) := am_kq36 117 _ _ _ rfl
theorem k36_207 : am_at 36 207 = some (.iload 3, 208) := am_kq36 118 _ _ _ rfl
theorem k36_208 : am_at 36 208 = some (.ifCond .ne 215, 211) := am_kq36 119 _ _ _ rfl
theorem k36_211 : am_at 36 211 = some (.iload 1, 212) := am_kq36 120 _ _ _ rfl
theorem k36_212 : am_at 36 212 = some (.goto 216, 215) := am_kq36 121 _ _ _ rfl
theorem k36_215 : am_at 36 215 = some (.bipush (-1), 216) := am_kq36 122 _ _ _ rfl
theorem k36_216 : am_at 36 216 = some (.istore 6, 218) := am_kq36 123 _ _ _ rfl
theorem k36_218 : am_at 36 218 = some (.iload 3, 219) := am_kq36 124 _ _ _ rfl
theorem k36_219 : am_at 36 219 = some (.bipush 1, 220) := am_kq36 125 _ _ _ rfl
theorem k36_220 : am_at 36 220 = some (.isub, 221) := am_kq36 126 _ _ _ rfl
theorem k36_221 : am_at 36 221 = some (.istore 7, 223) := am_kq36 127 _ _ _ rfl
theorem k36_223 : am_at 36 223 = some (.iload 7, 225) := am_kq36 128 _ _ _ rfl
theorem k36_225 : am_at 36 225 = some (.ifCond .lt 293, 228) := am_kq36 129 _ _ _ rfl
theorem k36_228 : am_at 36 228 = some (.iload 6, 230) := am_kq36 130 _ _ _ rfl
theorem k36_230 : am_at 36 230 = some (.ifCond .ge 293, 233) := am_kq36 131 _ _ _ rfl
theorem k36_233 : am_at 36 233 = some (.bipush 0, 234) := am_kq36 132 _ _ _ rfl
theorem k36_234 : am_at 36 234 = some (.istore 8, 236) := am_kq36 133 _ _ _ rfl
theorem k36_236 : am_at 36 236 = some (.iload 8, 238) := am_kq36 134 _ _ _ rfl
theorem k36_238 : am_at 36 238 = some (.bipush 3, 239) := am_kq36 135 _ _ _ rfl
theorem k36_239 : am_at 36 239 = some (.if_icmp .ge 287, 242) := am_kq36 136 _ _ _ rfl
theorem k36_242 : am_at 36 242 = some (.aload 0, 243) := am_kq36 137 _ _ _ rfl
theorem k36_243 : am_at 36 243 = some (.getfield 708, 246) := am_kq36 138 _ _ _ rfl
theorem k36_246 : am_at 36 246 = some (.bipush 3, 247) := am_kq36 139 _ _ _ rfl
theorem k36_247 : am_at 36 247 = some (.aload 0, 248) := am_kq36 140 _ _ _ rfl
theorem k36_248 : am_at 36 248 = some (.getfield 709, 251) := am_kq36 141 _ _ _ rfl
theorem k36_251 : am_at 36 251 = some (.iload 7, 253) := am_kq36 142 _ _ _ rfl
theorem k36_253 : am_at 36 253 = some (.iaload, 254) := am_kq36 143 _ _ _ rfl
theorem k36_254 : am_at 36 254 = some (.imul, 255) := am_kq36 144 _ _ _ rfl
theorem k36_255 : am_at 36 255 = some (.iload 8, 257) := am_kq36 145 _ _ _ rfl
theorem k36_257 : am_at 36 257 = some (.iadd, 258) := am_kq36 146 _ _ _ rfl
theorem k36_258 : am_at 36 258 = some (.iaload, 259) := am_kq36 147 _ _ _ rfl
theorem k36_259 : am_at 36 259 = some (.istore 9, 261) := am_kq36 148 _ _ _ rfl
theorem k36_261 : am_at 36 261 = some (.iload 9, 263) := am_kq36 149 _ _ _ rfl
theorem k36_263 : am_at 36 263 = some (.ifCond .lt 281, 266) := am_kq36 150 _ _ _ rfl
theorem k36_266 : am_at 36 266 = some (.iload 5, 268) := am_kq36 151 _ _ _ rfl
theorem k36_268 : am_at 36 268 = some (.iload 9, 270) := am_kq36 152 _ _ _ rfl
theorem k36_270 : am_at 36 270 = some (.ishr, 271) := am_kq36 153 _ _ _ rfl
theorem k36_271 : am_at 36 271 = some (.bipush 1, 272) := am_kq36 154 _ _ _ rfl
theorem k36_272 : am_at 36 272 = some (.iand, 273) := am_kq36 155 _ _ _ rfl
theorem k36_273 : am_at 36 273 = some (.bipush 1, 274) := am_kq36 156 _ _ _ rfl
theorem k36_274 : am_at 36 274 = some (.if_icmp .ne 281, 277) := am_kq36 157 _ _ _ rfl
theorem k36_277 : am_at 36 277 = some (.iload 9, 279) := am_kq36 158 _ _ _ rfl
theorem k36_279 : am_at 36 279 = some (.istore 6, 281) := am_kq36 159 _ _ _ rfl
theorem k36_281 : am_at 36 281 = some (.iinc 8 1, 284) := am_kq36 160 _ _ _ rfl
theorem k36_284 : am_at 36 284 = some (.goto 236, 287) := am_kq36 161 _ _ _ rfl
theorem k36_287 : am_at 36 287 = some (.iinc 7 (-1), 290) := am_kq36 162 _ _ _ rfl
theorem k36_290 : am_at 36 290 = some (.goto 223, 293) := am_kq36 163 _ _ _ rfl
theorem k36_293 : am_at 36 293 = some (.aload 0, 294) := am_kq36 164 _ _ _ rfl
theorem k36_294 : am_at 36 294 = some (.getfield 709, 297) := am_kq36 165 _ _ _ rfl
theorem k36_297 : am_at 36 297 = some (.iload 3, 298) := am_kq36 166 _ _ _ rfl
theorem k36_298 : am_at 36 298 = some (.iinc 3 1, 301) := am_kq36 167 _ _ _ rfl
theorem k36_301 : am_at 36 301 = some (.iload 6, 303) := am_kq36 168 _ _ _ rfl
theorem k36_303 : am_at 36 303 = some (.iastore, 304) := am_kq36 169 _ _ _ rfl
theorem k36_304 : am_at 36 304 = some (.iload 4, 306) := am_kq36 170 _ _ _ rfl
theorem k36_306 : am_at 36 306 = some (.bipush 1, 307) := am_kq36 171 _ _ _ rfl
theorem k36_307 : am_at 36 307 = some (.iload 6, 309) := am_kq36 172 _ _ _ rfl
theorem k36_309 : am_at 36 309 = some (.ishl, 310) := am_kq36 173 _ _ _ rfl
theorem k36_310 : am_at 36 310 = some (.bipush (-1), 311) := am_kq36 174 _ _ _ rfl
theorem k36_311 : am_at 36 311 = some (.ixor, 312) := am_kq36 175 _ _ _ rfl
theorem k36_312 : am_at 36 312 = some (.iand, 313) := am_kq36 176 _ _ _ rfl
theorem k36_313 : am_at 36 313 = some (.istore 4, 315) := am_kq36 177 _ _ _ rfl
theorem k36_315 : am_at 36 315 = some (.goto 96, 318) := am_kq36 178 _ _ _ rfl
theorem k36_318 : am_at 36 318 = some (.iload 3, 319) := am_kq36 179 _ _ _ rfl
theorem k36_319 : am_at 36 319 = some (.ireturn, 320) := am_kq36 180 _ _ _ rfl
set_option maxRecDepth 20000 in
theorem am_kq37 (i pc : Nat) (x : Instr) (nx : Nat) (hi : am_t37[i]? = some (pc, x, nx)) : am_at 37 pc = some (x, nx) := am_kB 37 am_t37 rfl (by decide +kernel) i pc x nx hi
theorem k37_0 : am_at 37 0 = some (.iload 1, 1) := am_kq37 0 _ _ _ rfl
theorem k37_1 : am_at 37 1 = some (.bipush 1, 2) := am_kq37 1 _ _ _ rfl
theorem k37_2 : am_at 37 2 = some (.bipush 11, 4) := am_kq37 2 _ _ _ rfl
theorem k37_4 : am_at 37 4 = some (.invokestatic 31, 7) := am_kq37 3 _ _ _ rfl
theorem k37_7 : am_at 37 7 = some (.ifCond .eq 41, 10) := am_kq37 4 _ _ _ rfl
theorem k37_10 : am_at 37 10 = some (.iload 2, 11) := am_kq37 5 _ _ _ rfl
theorem k37_11 : am_at 37 11 = some (.bipush 0, 12) := am_kq37 6 _ _ _ rfl
theorem k37_12 : am_at 37 12 = some (.bipush 11, 14) := am_kq37 7 _ _ _ rfl
theorem k37_14 : am_at 37 14 = some (.invokestatic 31, 17) := am_kq37 8 _ _ _ rfl
theorem k37_17 : am_at 37 17 = some (.ifCond .eq 41, 20) := am_kq37 9 _ _ _ rfl
theorem k37_20 : am_at 37 20 = some (.iload 3, 21) := am_kq37 10 _ _ _ rfl
theorem k37_21 : am_at 37 21 = some (.bipush (-1), 22) := am_kq37 11 _ _ _ rfl
theorem k37_22 : am_at 37 22 = some (.bipush 11, 24) := am_kq37 12 _ _ _ rfl
theorem k37_24 : am_at 37 24 = some (.invokestatic 31, 27) := am_kq37 13 _ _ _ rfl
theorem k37_27 : am_at 37 27 = some (.ifCond .eq 41, 30) := am_kq37 14 _ _ _ rfl
theorem k37_30 : am_at 37 30 = some (.iload 4, 32) := am_kq37 15 _ _ _ rfl
theorem k37_32 : am_at 37 32 = some (.bipush (-1), 33) := am_kq37 16 _ _ _ rfl
theorem k37_33 : am_at 37 33 = some (.bipush 11, 35) := am_kq37 17 _ _ _ rfl
theorem k37_35 : am_at 37 35 = some (.invokestatic 31, 38) := am_kq37 18 _ _ _ rfl
theorem k37_38 : am_at 37 38 = some (.ifCond .ne 43, 41) := am_kq37 19 _ _ _ rfl
theorem k37_41 : am_at 37 41 = some (.bipush (-1), 42) := am_kq37 20 _ _ _ rfl
theorem k37_42 : am_at 37 42 = some (.ireturn, 43) := am_kq37 21 _ _ _ rfl
theorem k37_43 : am_at 37 43 = some (.iload 3, 44) := am_kq37 22 _ _ _ rfl
theorem k37_44 : am_at 37 44 = some (.ifCond .ge 51, 47) := am_kq37 23 _ _ _ rfl
theorem k37_47 : am_at 37 47 = some (.bipush (-1), 48) := am_kq37 24 _ _ _ rfl
theorem k37_48 : am_at 37 48 = some (.goto 53, 51) := am_kq37 25 _ _ _ rfl
theorem k37_51 : am_at 37 51 = some (.iload 4, 53) := am_kq37 26 _ _ _ rfl
theorem k37_53 : am_at 37 53 = some (.istore 5, 55) := am_kq37 27 _ _ _ rfl
theorem k37_55 : am_at 37 55 = some (.iload 2, 56) := am_kq37 28 _ _ _ rfl
theorem k37_56 : am_at 37 56 = some (.iload 3, 57) := am_kq37 29 _ _ _ rfl
theorem k37_57 : am_at 37 57 = some (.if_icmp .eq 76, 60) := am_kq37 30 _ _ _ rfl
theorem k37_60 : am_at 37 60 = some (.iload 3, 61) := am_kq37 31 _ _ _ rfl
theorem k37_61 : am_at 37 61 = some (.ifCond .lt 70, 64) := am_kq37 32 _ _ _ rfl
theorem k37_64 : am_at 37 64 = some (.iload 3, 65) := am_kq37 33 _ _ _ rfl
theorem k37_65 : am_at 37 65 = some (.iload 5, 67) := am_kq37 34 _ _ _ rfl
theorem k37_67 : am_at 37 67 = some (.if_icmp .eq 76, 70) := am_kq37 35 _ _ _ rfl
theorem k37_70 : am_at 37 70 = some (.iload 2, 71) := am_kq37 36 _ _ _ rfl
theorem k37_71 : am_at 37 71 = some (.iload 5, 73) := am_kq37 37 _ _ _ rfl
theorem k37_73 : am_at 37 73 = some (.if_icmp .ne 78, 76) := am_kq37 38 _ _ _ rfl
theorem k37_76 : am_at 37 76 = some (.bipush (-1), 77) := am_kq37 39 _ _ _ rfl
theorem k37_77 : am_at 37 77 = some (.ireturn, 78) := am_kq37 40 _ _ _ rfl
theorem k37_78 : am_at 37 78 = some (.iload 2, 79) := am_kq37 41 _ _ _ rfl
theorem k37_79 : am_at 37 79 = some (.iload 1, 80) := am_kq37 42 _ _ _ rfl
theorem k37_80 : am_at 37 80 = some (.if_icmp .eq 92, 83) := am_kq37 43 _ _ _ rfl
theorem k37_83 : am_at 37 83 = some (.aload 0, 84) := am_kq37 44 _ _ _ rfl
theorem k37_84 : am_at 37 84 = some (.getfield 704, 87) := am_kq37 45 _ _ _ rfl
theorem k37_87 : am_at 37 87 = some (.iload 2, 88) := am_kq37 46 _ _ _ rfl
theorem k37_88 : am_at 37 88 = some (.baload, 89) := am_kq37 47 _ _ _ rfl
theorem k37_89 : am_at 37 89 = some (.ifCond .eq 131, 92) := am_kq37 48 _ _ _ rfl
theorem k37_92 : am_at 37 92 = some (.iload 3, 93) := am_kq37 49 _ _ _ rfl
theorem k37_93 : am_at 37 93 = some (.ifCond .lt 110, 96) := am_kq37 50 _ _ _ rfl
theorem k37_96 : am_at 37 96 = some (.iload 3, 97) := am_kq37 51 _ _ _ rfl
theorem k37_97 : am_at 37 97 = some (.iload 1, 98) := am_kq37 52 _ _ _ rfl
theorem k37_98 : am_at 37 98 = some (.if_icmp .eq 110, 101) := am_kq37 53 _ _ _ rfl
theorem k37_101 : am_at 37 101 = some (.aload 0, 102) := am_kq37 54 _ _ _ rfl
theorem k37_102 : am_at 37 102 = some (.getfield 704, 105) := am_kq37 55 _ _ _ rfl
theorem k37_105 : am_at 37 105 = some (.iload 3, 106) := am_kq37 56 _ _ _ rfl
theorem k37_106 : am_at 37 106 = some (.baload, 107) := am_kq37 57 _ _ _ rfl
theorem k37_107 : am_at 37 107 = some (.ifCond .eq 131, 110) := am_kq37 58 _ _ _ rfl
theorem k37_110 : am_at 37 110 = some (.iload 5, 112) := am_kq37 59 _ _ _ rfl
theorem k37_112 : am_at 37 112 = some (.ifCond .lt 134, 115) := am_kq37 60 _ _ _ rfl
theorem k37_115 : am_at 37 115 = some (.iload 5, 117) := am_kq37 61 _ _ _ rfl
theorem k37_117 : am_at 37 117 = some (.iload 1, 118) := am_kq37 62 _ _ _ rfl
theorem k37_118 : am_at 37 118 = some (.if_icmp .eq 134, 121) := am_kq37 63 _ _ _ rfl
theorem k37_121 : am_at 37 121 = some (.aload 0, 122) := am_kq37 64 _ _ _ rfl
theorem k37_122 : am_at 37 122 = some (.getfield 704, 125) := am_kq37 65 _ _ _ rfl
theorem k37_125 : am_at 37 125 = some (.iload 5, 127) := am_kq37 66 _ _ _ rfl
theorem k37_127 : am_at 37 127 = some (.baload, 128) := am_kq37 67 _ _ _ rfl
theorem k37_128 : am_at 37 128 = some (.ifCond .ne 134, 131) := am_kq37 68 _ _ _ rfl
theorem k37_131 : am_at 37 131 = some (.bipush (-2), 133) := am_kq37 69 _ _ _ rfl
theorem k37_133 : am_at 37 133 = some (.ireturn, 134) := am_kq37 70 _ _ _ rfl
theorem k37_134 : am_at 37 134 = some (.bipush 0, 135) := am_kq37 71 _ _ _ rfl
theorem k37_135 : am_at 37 135 = some (.istore 6, 137) := am_kq37 72 _ _ _ rfl
theorem k37_137 : am_at 37 137 = some (.iload 6, 139) := am_kq37 73 _ _ _ rfl
theorem k37_139 : am_at 37 139 = some (.bipush 3, 140) := am_kq37 74 _ _ _ rfl
theorem k37_140 : am_at 37 140 = some (.if_icmp .ge 205, 143) := am_kq37 75 _ _ _ rfl
theorem k37_143 : am_at 37 143 = some (.iload 6, 145) := am_kq37 76 _ _ _ rfl
theorem k37_145 : am_at 37 145 = some (.ifCond .ne 152, 148) := am_kq37 77 _ _ _ rfl
theorem k37_148 : am_at 37 148 = some (.iload 2, 149) := am_kq37 78 _ _ _ rfl
theorem k37_149 : am_at 37 149 = some (.goto 164, 152) := am_kq37 79 _ _ _ rfl
theorem k37_152 : am_at 37 152 = some (.iload 6, 154) := am_kq37 80 _ _ _ rfl
theorem k37_154 : am_at 37 154 = some (.bipush 1, 155) := am_kq37 81 _ _ _ rfl
theorem k37_155 : am_at 37 155 = some (.if_icmp .ne 162, 158) := am_kq37 82 _ _ _ rfl
theorem k37_158 : am_at 37 158 = some (.iload 3, 159) := am_kq37 83 _ _ _ rfl
theorem k37_159 : am_at 37 159 = some (.goto 164, 162) := am_kq37 84 _ _ _ rfl
theorem k37_162 : am_at 37 162 = some (.iload 5, 164) := am_kq37 85 _ _ _ rfl
theorem k37_164 : am_at 37 164 = some (.istore 7, 166) := am_kq37 86 _ _ _ rfl
theorem k37_166 : am_at 37 166 = some (.iload 7, 168) := am_kq37 87 _ _ _ rfl
theorem k37_168 : am_at 37 168 = some (.ifCond .lt 199, 171) := am_kq37 88 _ _ _ rfl
theorem k37_171 : am_at 37 171 = some (.iload 7, 173) := am_kq37 89 _ _ _ rfl
theorem k37_173 : am_at 37 173 = some (.iload 1, 174) := am_kq37 90 _ _ _ rfl
theorem k37_174 : am_at 37 174 = some (.if_icmp .eq 196, 177) := am_kq37 91 _ _ _ rfl
theorem k37_177 : am_at 37 177 = some (.aload 0, 178) := am_kq37 92 _ _ _ rfl
theorem k37_178 : am_at 37 178 = some (.getfield 704, 181) := am_kq37 93 _ _ _ rfl
theorem k37_181 : am_at 37 181 = some (.iload 1, 182) := am_kq37 94 _ _ _ rfl
theorem k37_182 : am_at 37 182 = some (.baload, 183) := am_kq37 95 _ _ _ rfl
theorem k37_183 : am_at 37 183 = some (.ifCond .eq 199, 186) := am_kq37 96 _ _ _ rfl
theorem k37_186 : am_at 37 186 = some (.aload 0, 187) := am_kq37 97 _ _ _ rfl
theorem k37_187 : am_at 37 187 = some (.iload 7, 189) := am_kq37 98 _ _ _ rfl
theorem k37_189 : am_at 37 189 = some (.iload 1, 190) := am_kq37 99 _ _ _ rfl
theorem k37_190 : am_at 37 190 = some (.invokestatic 35, 193) := am_kq37 100 _ _ _ rfl
theorem k37_193 : am_at 37 193 = some (.ifCond .eq 199, 196) := am_kq37 101 _ _ _ rfl
theorem k37_196 : am_at 37 196 = some (.bipush (-4), 198) := am_kq37 102 _ _ _ rfl
theorem k37_198 : am_at 37 198 = some (.ireturn, 199) := am_kq37 103 _ _ _ rfl
theorem k37_199 : am_at 37 199 = some (.iinc 6 1, 202) := am_kq37 104 _ _ _ rfl
theorem k37_202 : am_at 37 202 = some (.goto 137, 205) := am_kq37 105 _ _ _ rfl
theorem k37_205 : am_at 37 205 = some (.bipush 0, 206) := am_kq37 106 _ _ _ rfl
theorem k37_206 : am_at 37 206 = some (.istore 6, 208) := am_kq37 107 _ _ _ rfl
theorem k37_208 : am_at 37 208 = some (.iload 6, 210) := am_kq37 108 _ _ _ rfl
theorem k37_210 : am_at 37 210 = some (.bipush 36, 212) := am_kq37 109 _ _ _ rfl
theorem k37_212 : am_at 37 212 = some (.if_icmp .ge 235, 215) := am_kq37 110 _ _ _ rfl
theorem k37_215 : am_at 37 215 = some (.aload 0, 216) := am_kq37 111 _ _ _ rfl
theorem k37_216 : am_at 37 216 = some (.getfield 708, 219) := am_kq37 112 _ _ _ rfl
theorem k37_219 : am_at 37 219 = some (.iload 6, 221) := am_kq37 113 _ _ _ rfl
theorem k37_221 : am_at 37 221 = some (.aload 0, 222) := am_kq37 114 _ _ _ rfl
theorem k37_222 : am_at 37 222 = some (.getfield 705, 225) := am_kq37 115 _ _ _ rfl
theorem k37_225 : am_at 37 225 = some (.iload 6, 227) := am_kq37 116 _ _ _ rfl
theorem k37_227 : am_at 37 227 = some (.iaload, 228) := am_kq37 117 _ _ _ rfl
theorem k37_228 : am_at 37 228 = some (.iastore, 229) := am_kq37 118 _ _ _ rfl
theorem k37_229 : am_at 37 229 = some (.iinc 6 1, 232) := am_kq37 119 _ _ _ rfl
theorem k37_232 : am_at 37 232 = some (.goto 208, 235) := am_kq37 120 _ _ _ rfl
theorem k37_235 : am_at 37 235 = some (.aload 0, 236) := am_kq37 121 _ _ _ rfl
theorem k37_236 : am_at 37 236 = some (.getfield 708, 239) := am_kq37 122 _ _ _ rfl
theorem k37_239 : am_at 37 239 = some (.bipush 3, 240) := am_kq37 123 _ _ _ rfl
theorem k37_240 : am_at 37 240 = some (.iload 1, 241) := am_kq37 124 _ _ _ rfl
theorem k37_241 : am_at 37 241 = some (.imul, 242) := am_kq37 125 _ _ _ rfl
theorem k37_242 : am_at 37 242 = some (.iload 2, 243) := am_kq37 126 _ _ _ rfl
theorem k37_243 : am_at 37 243 = some (.iastore, 244) := am_kq37 127 _ _ _ rfl
theorem k37_244 : am_at 37 244 = some (.aload 0, 245) := am_kq37 128 _ _ _ rfl
theorem k37_245 : am_at 37 245 = some (.getfield 708, 248) := am_kq37 129 _ _ _ rfl
theorem k37_248 : am_at 37 248 = some (.bipush 3, 249) := am_kq37 130 _ _ _ rfl
theorem k37_249 : am_at 37 249 = some (.iload 1, 250) := am_kq37 131 _ _ _ rfl
theorem k37_250 : am_at 37 250 = some (.imul, 251) := am_kq37 132 _ _ _ rfl
theorem k37_251 : am_at 37 251 = some (.bipush 1, 252) := am_kq37 133 _ _ _ rfl
theorem k37_252 : am_at 37 252 = some (.iadd, 253) := am_kq37 134 _ _ _ rfl
theorem k37_253 : am_at 37 253 = some (.iload 3, 254) := am_kq37 135 _ _ _ rfl
theorem k37_254 : am_at 37 254 = some (.iastore, 255) := am_kq37 136 _ _ _ rfl
theorem k37_255 : am_at 37 255 = some (.aload 0, 256) := am_kq37 137 _ _ _ rfl
theorem k37_256 : am_at 37 256 = some (.getfield 708, 259) := am_kq37 138 _ _ _ rfl
theorem k37_259 : am_at 37 259 = some (.bipush 3, 260) := am_kq37 139 _ _ _ rfl
theorem k37_260 : am_at 37 260 = some (.iload 1, 261) := am_kq37 140 _ _ _ rfl
theorem k37_261 : am_at 37 261 = some (.imul, 262) := am_kq37 141 _ _ _ rfl
theorem k37_262 : am_at 37 262 = some (.bipush 2, 263) := am_kq37 142 _ _ _ rfl
theorem k37_263 : am_at 37 263 = some (.iadd, 264) := am_kq37 143 _ _ _ rfl
theorem k37_264 : am_at 37 264 = some (.iload 5, 266) := am_kq37 144 _ _ _ rfl
theorem k37_266 : am_at 37 266 = some (.iastore, 267) := am_kq37 145 _ _ _ rfl
theorem k37_267 : am_at 37 267 = some (.bipush 0, 268) := am_kq37 146 _ _ _ rfl
theorem k37_268 : am_at 37 268 = some (.istore 6, 270) := am_kq37 147 _ _ _ rfl
theorem k37_270 : am_at 37 270 = some (.iload 6, 272) := am_kq37 148 _ _ _ rfl
theorem k37_272 : am_at 37 272 = some (.bipush 12, 274) := am_kq37 149 _ _ _ rfl
theorem k37_274 : am_at 37 274 = some (.if_icmp .ge 330, 277) := am_kq37 150 _ _ _ rfl
theorem k37_277 : am_at 37 277 = some (.iload 6, 279) := am_kq37 151 _ _ _ rfl
theorem k37_279 : am_at 37 279 = some (.iload 1, 280) := am_kq37 152 _ _ _ rfl
theorem k37_280 : am_at 37 280 = some (.if_icmp .eq 312, 283) := am_kq37 153 _ _ _ rfl
theorem k37_283 : am_at 37 283 = some (.aload 0, 284) := am_kq37 154 _ _ _ rfl
theorem k37_284 : am_at 37 284 = some (.getfield 704, 287) := am_kq37 155 _ _ _ rfl
theorem k37_287 : am_at 37 287 = some (.iload 6, 289) := am_kq37 156 _ _ _ rfl
theorem k37_289 : am_at 37 289 = some (.baload, 290) := am_kq37 157 _ _ _ rfl
theorem k37_290 : am_at 37 290 = some (.ifCond .eq 324, 293) := am_kq37 158 _ _ _ rfl
theorem k37_293 : am_at 37 293 = some (.aload 0, 294) := am_kq37 159 _ _ _ rfl
theorem k37_294 : am_at 37 294 = some (.getfield 704, 297) := am_kq37 160 _ _ _ rfl
theorem k37_297 : am_at 37 297 = some (.iload 1, 298) := am_kq37 161 _ _ _ rfl
theorem k37_298 : am_at 37 298 = some (.baload, 299) := am_kq37 162 _ _ _ rfl
theorem k37_299 : am_at 37 299 = some (.ifCond .eq 324, 302) := am_kq37 163 _ _ _ rfl
theorem k37_302 : am_at 37 302 = some (.aload 0, 303) := am_kq37 164 _ _ _ rfl
theorem k37_303 : am_at 37 303 = some (.iload 6, 305) := am_kq37 165 _ _ _ rfl
theorem k37_305 : am_at 37 305 = some (.iload 1, 306) := am_kq37 166 _ _ _ rfl
theorem k37_306 : am_at 37 306 = some (.invokestatic 35, 309) := am_kq37 167 _ _ _ rfl
theorem k37_309 : am_at 37 309 = some (.ifCond .eq 324, 312) := am_kq37 168 _ _ _ rfl
theorem k37_312 : am_at 37 312 = some (.aload 0, 313) := am_kq37 169 _ _ _ rfl
theorem k37_313 : am_at 37 313 = some (.iload 6, 315) := am_kq37 170 _ _ _ rfl
theorem k37_315 : am_at 37 315 = some (.invokestatic 36, 318) := am_kq37 171 _ _ _ rfl
theorem k37_318 : am_at 37 318 = some (.ifCond .ge 324, 321) := am_kq37 172 _ _ _ rfl
theorem k37_321 : am_at 37 321 = some (.bipush (-5), 323) := am_kq37 173 _ _ _ rfl
theorem k37_323 : am_at 37 323 = some (.ireturn, 324) := am_kq37 174 _ _ _ rfl
theorem k37_324 : am_at 37 324 = some (.iinc 6 1, 327) := am_kq37 175 _ _ _ rfl
theorem k37_327 : am_at 37 327 = some (.goto 270, 330) := am_kq37 176 _ _ _ rfl
theorem k37_330 : am_at 37 330 = some (.aload 0, 331) := am_kq37 177 _ _ _ rfl
theorem k37_331 : am_at 37 331 = some (.getfield 704, 334) := am_kq37 178 _ _ _ rfl
theorem k37_334 : am_at 37 334 = some (.iload 1, 335) := am_kq37 179 _ _ _ rfl
theorem k37_335 : am_at 37 335 = some (.bipush 1, 336) := am_kq37 180 _ _ _ rfl
theorem k37_336 : am_at 37 336 = some (.bastore, 337) := am_kq37 181 _ _ _ rfl
theorem k37_337 : am_at 37 337 = some (.bipush 0, 338) := am_kq37 182 _ _ _ rfl
theorem k37_338 : am_at 37 338 = some (.istore 6, 340) := am_kq37 183 _ _ _ rfl
theorem k37_340 : am_at 37 340 = some (.iload 6, 342) := am_kq37 184 _ _ _ rfl
theorem k37_342 : am_at 37 342 = some (.bipush 36, 344) := am_kq37 185 _ _ _ rfl
theorem k37_344 : am_at 37 344 = some (.if_icmp .ge 367, 347) := am_kq37 186 _ _ _ rfl
theorem k37_347 : am_at 37 347 = some (.aload 0, 348) := am_kq37 187 _ _ _ rfl
theorem k37_348 : am_at 37 348 = some (.getfield 705, 351) := am_kq37 188 _ _ _ rfl
theorem k37_351 : am_at 37 351 = some (.iload 6, 353) := am_kq37 189 _ _ _ rfl
theorem k37_353 : am_at 37 353 = some (.aload 0, 354) := am_kq37 190 _ _ _ rfl
theorem k37_354 : am_at 37 354 = some (.getfield 708, 357) := am_kq37 191 _ _ _ rfl
theorem k37_357 : am_at 37 357 = some (.iload 6, 359) := am_kq37 192 _ _ _ rfl
theorem k37_359 : am_at 37 359 = some (.iaload, 360) := am_kq37 193 _ _ _ rfl
theorem k37_360 : am_at 37 360 = some (.iastore, 361) := am_kq37 194 _ _ _ rfl
theorem k37_361 : am_at 37 361 = some (.iinc 6 1, 364) := am_kq37 195 _ _ _ rfl
theorem k37_364 : am_at 37 364 = some (.goto 340, 367) := am_kq37 196 _ _ _ rfl
theorem k37_367 : am_at 37 367 = some (.bipush 0, 368) := am_kq37 197 _ _ _ rfl
theorem k37_368 : am_at 37 368 = some (.istore 6, 370) := am_kq37 198 _ _ _ rfl
theorem k37_370 : am_at 37 370 = some (.iload 6, 372) := am_kq37 199 _ _ _ rfl
theorem k37_372 : am_at 37 372 = some (.bipush 12, 374) := am_kq37 200 _ _ _ rfl
set_option maxRecDepth 20000 in
theorem k37_374 : am_at 37 374 = some (.if_icmp .ge 450, 377) := am_kq37 201 _ _ _ rfl
set_option maxRecDepth 20000 in
theorem k37_377 : am_at 37 377 = some (.aload 0, 378) := am_kq37 202 _ _ _ rfl
set_option maxRecDepth 20000 in
theorem k37_378 : am_at 37 378 = some (.getfield 704, 381) := am_kq37 203 _ _ _ rfl
set_option maxRecDepth 20000 in
theorem k37_381 : am_at 37 381 = some (.iload 6, 383) := am_kq37 204 _ _ _ rfl
set_option maxRecDepth 20000 in
theorem k37_383 : am_at 37 383 = some (.baload, 384) := am_kq37 205 _ _ _ rfl
set_option maxRecDepth 20000 in
theorem k37_384 : am_at 37 384 = some (.ifCond .ne 390, 387) := am_kq37 206 _ _ _ rfl
set_option maxRecDepth 20000 in
theorem k37_387 : am_at 37 387 = some (.goto 444, 390) := am_kq37 207 _ _ _ rfl
set_option maxRecDepth 20000 in
theorem k37_390 : am_at 37 390 = some (.aload 0, 391) := am_kq37 208 _ _ _ rfl
set_option maxRecDepth 20000 in
theorem k37_391 : am_at 37 391 = some (.getfield 707, 394) := am_kq37 209 _ _ _ rfl
set_option maxRecDepth 20000 in
theorem k37_394 : am_at 37 394 = some (.iload 6, 396) := am_kq37 210 _ _ _ rfl
set_option maxRecDepth 20000 in
theorem k37_396 : am_at 37 396 = some (.aload 0, 397) := am_kq37 211 _ _ _ rfl
set_option maxRecDepth 20000 in
theorem k37_397 : am_at 37 397 = some (.iload 6, 399) := am_kq37 212 _ _ _ rfl
set_option maxRecDepth 20000 in
theorem k37_399 : am_at 37 399 = some (.invokestatic 36, 402) := am_kq37 213 _ _ _ rfl
set_option maxRecDepth 20000 in
theorem k37_402 : am_at 37 402 = some (.iastore, 403) := am_kq37 214 _ _ _ rfl
set_option maxRecDepth 20000 in
theorem k37_403 : am_at 37 403 = some (.bipush 0, 404) := am_kq37 215 _ _ _ rfl
set_option maxRecDepth 20000 in
theorem k37_404 : am_at 37 404 = some (.istore 7, 406) := am_kq37 216 _ _ _ rfl
set_option maxRecDepth 20000 in
theorem k37_406 : am_at 37 406 = some (.iload 7, 408) := am_kq37 217 _ _ _ rfl
set_option maxRecDepth 20000 in
theorem k37_408 : am_at 37 408 = some (.aload 0, 409) := am_kq37 218 _ _ _ rfl
set_option maxRecDepth 20000 in
theorem k37_409 : am_at 37 409 = some (.getfield 707, 412) := am_kq37 219 _ _ _ rfl
set_option maxRecDepth 20000 in
theorem k37_412 : am_at 37 412 = some (.iload 6, 414) := am_kq37 220 _ _ _ rfl
set_option maxRecDepth 20000 in
theorem k37_414 : am_at 37 414 = some (.iaload, 415) := am_kq37 221 _ _ _ rfl
set_option maxRecDepth 20000 in
theorem k37_415 : am_at 37 415 = some (.if_icmp .ge 444, 418) := am_kq37 222 _ _ _ rfl
set_option maxRecDepth 20000 in
theorem k37_418 : am_at 37 418 = some (.aload 0, 419) := am_kq37 223 _ _ _ rfl
set_option maxRecDepth 20000 in
theorem k37_419 : am_at 37 419 = some (.getfield 706, 422) := am_kq37 224 _ _ _ rfl
set_option maxRecDepth 20000 in
theorem k37_422 : am_at 37 422 = some (.bipush 12, 424) := am_kq37 225 _ _ _ rfl
set_option maxRecDepth 20000 in
theorem k37_424 : am_at 37 424 = some (.iload 6, 426) := am_kq37 226 _ _ _ rfl
set_option maxRecDepth 20000 in
theorem k37_426 : am_at 37 426 = some (.imul, 427) := am_kq37 227 _ _ _ rfl
set_option maxRecDepth 20000 in
theorem k37_427 : am_at 37 427 = some (.iload 7, 429) := am_kq37 228 _ _ _ rfl
set_option maxRecDepth 20000 in
theorem k37_429 : am_at 37 429 = some (.iadd, 430) := am_kq37 229 _ _ _ rfl
set_option maxRecDepth 20000 in
theorem k37_430 : am_at 37 430 = some (.aload 0, 431) := am_kq37 230 _ _ _ rfl
set_option maxRecDepth 20000 in
theorem k37_431 : am_at 37 431 = some (.getfield 709, 434) := am_kq37 231 _ _ _ rfl
set_option maxRecDepth 20000 in
theorem k37_434 : am_at 37 434 = some (.iload 7, 436) := am_kq37 232 _ _ _ rfl
set_option maxRecDepth 20000 in
theorem k37_436 : am_at 37 436 = some (.iaload, 437) := am_kq37 233 _ _ _ rfl
set_option maxRecDepth 20000 in
theorem k37_437 : am_at 37 437 = some (.iastore, 438) := am_kq37 234 _ _ _ rfl
set_option maxRecDepth 20000 in
theorem k37_438 : am_at 37 438 = some (.iinc 7 1, 441) := am_kq37 235 _ _ _ rfl
set_option maxRecDepth 20000 in
theorem k37_441 : am_at 37 441 = some (.goto 406, 444) := am_kq37 236 _ _ _ rfl
set_option maxRecDepth 20000 in
theorem k37_444 : am_at 37 444 = some (.iinc 6 1, 447) := am_kq37 237 _ _ _ rfl
set_option maxRecDepth 20000 in
theorem k37_447 : am_at 37 447 = some (.goto 370, 450) := am_kq37 238 _ _ _ rfl
set_option maxRecDepth 20000 in
theorem k37_450 : am_at 37 450 = some (.bipush 0, 451) := am_kq37 239 _ _ _ rfl
set_option maxRecDepth 20000 in
theorem k37_451 : am_at 37 451 = some (.istore 6, 453) := am_kq37 240 _ _ _ rfl
set_option maxRecDepth 20000 in
theorem k37_453 : am_at 37 453 = some (.iload 6, 455) := am_kq37 241 _ _ _ rfl
set_option maxRecDepth 20000 in
theorem k37_455 : am_at 37 455 = some (.bipush 5, 456) := am_kq37 242 _ _ _ rfl
set_option maxRecDepth 20000 in
theorem k37_456 : am_at 37 456 = some (.if_icmp .ge 471, 459) := am_kq37 243 _ _ _ rfl
set_option maxRecDepth 20000 in
theorem k37_459 : am_at 37 459 = some (.aload 0, 460) := am_kq37 244 _ _ _ rfl
set_option maxRecDepth 20000 in
theorem k37_460 : am_at 37 460 = some (.iload 6, 462) := am_kq37 245 _ _ _ rfl
set_option maxRecDepth 20000 in
theorem k37_462 : am_at 37 462 = some (.invokestatic 50, 465) := am_kq37 246 _ _ _ rfl
set_option maxRecDepth 20000 in
theorem k37_465 : am_at 37 465 = some (.iinc 6 1, 468) := am_kq37 247 _ _ _ rfl
set_option maxRecDepth 20000 in
theorem k37_468 : am_at 37 468 = some (.goto 453, 471) := am_kq37 248 _ _ _ rfl
set_option maxRecDepth 20000 in
theorem k37_471 : am_at 37 471 = some (.aload 0, 472) := am_kq37 249 _ _ _ rfl
set_option maxRecDepth 20000 in
theorem k37_472 : am_at 37 472 = some (.getfield 707, 475) := am_kq37 250 _ _ _ rfl
set_option maxRecDepth 20000 in
theorem k37_475 : am_at 37 475 = some (.iload 1, 476) := am_kq37 251 _ _ _ rfl
set_option maxRecDepth 20000 in
theorem k37_476 : am_at 37 476 = some (.iaload, 477) := am_kq37 252 _ _ _ rfl
set_option maxRecDepth 20000 in
theorem k37_477 : am_at 37 477 = some (.ireturn, 478) := am_kq37 253 _ _ _ rfl
set_option maxRecDepth 20000 in
theorem am_kq38 (i pc : Nat) (x : Instr) (nx : Nat) (hi : am_t38[i]? = some (pc, x, nx)) : am_at 38 pc = some (x, nx) := am_kB 38 am_t38 rfl (by decide +kernel) i pc x nx hi
theorem k38_0 : am_at 38 0 = some (.iload 2, 1) := am_kq38 0 _ _ _ rfl
theorem k38_1 : am_at 38 1 = some (.bipush 0, 2) := am_kq38 1 _ _ _ rfl
theorem k38_2 : am_at 38 2 = some (.bipush 5, 3) := am_kq38 2 _ _ _ rfl
theorem k38_3 : am_at 38 3 = some (.invokestatic 31, 6) := am_kq38 3 _ _ _ rfl
theorem k38_6 : am_at 38 6 = some (.ifCond .eq 18, 9) := am_kq38 4 _ _ _ rfl
theorem k38_9 : am_at 38 9 = some (.iload 3, 10) := am_kq38 5 _ _ _ rfl
theorem k38_10 : am_at 38 10 = some (.bipush 0, 11) := am_kq38 6 _ _ _ rfl
theorem k38_11 : am_at 38 11 = some (.bipush 3, 12) := am_kq38 7 _ _ _ rfl
theorem k38_12 : am_at 38 12 = some (.invokestatic 31, 15) := am_kq38 8 _ _ _ rfl
theorem k38_15 : am_at 38 15 = some (.ifCond .ne 20, 18) := am_kq38 9 _ _ _ rfl
theorem k38_18 : am_at 38 18 = some (.bipush (-1), 19) := am_kq38 10 _ _ _ rfl
theorem k38_19 : am_at 38 19 = some (.ireturn, 20) := am_kq38 11 _ _ _ rfl
theorem k38_20 : am_at 38 20 = some (.aload 0, 21) := am_kq38 12 _ _ _ rfl
theorem k38_21 : am_at 38 21 = some (.iload 1, 22) := am_kq38 13 _ _ _ rfl
theorem k38_22 : am_at 38 22 = some (.invokestatic 32, 25) := am_kq38 14 _ _ _ rfl
theorem k38_25 : am_at 38 25 = some (.ifCond .ne 31, 28) := am_kq38 15 _ _ _ rfl
theorem k38_28 : am_at 38 28 = some (.bipush (-2), 30) := am_kq38 16 _ _ _ rfl
theorem k38_30 : am_at 38 30 = some (.ireturn, 31) := am_kq38 17 _ _ _ rfl
theorem k38_31 : am_at 38 31 = some (.aload 0, 32) := am_kq38 18 _ _ _ rfl
theorem k38_32 : am_at 38 32 = some (.getfield 710, 35) := am_kq38 19 _ _ _ rfl
theorem k38_35 : am_at 38 35 = some (.bipush 6, 37) := am_kq38 20 _ _ _ rfl
theorem k38_37 : am_at 38 37 = some (.iload 1, 38) := am_kq38 21 _ _ _ rfl
theorem k38_38 : am_at 38 38 = some (.imul, 39) := am_kq38 22 _ _ _ rfl
theorem k38_39 : am_at 38 39 = some (.iload 2, 40) := am_kq38 23 _ _ _ rfl
theorem k38_40 : am_at 38 40 = some (.iadd, 41) := am_kq38 24 _ _ _ rfl
theorem k38_41 : am_at 38 41 = some (.iload 3, 42) := am_kq38 25 _ _ _ rfl
theorem k38_42 : am_at 38 42 = some (.iastore, 43) := am_kq38 26 _ _ _ rfl
theorem k38_43 : am_at 38 43 = some (.aload 0, 44) := am_kq38 27 _ _ _ rfl
theorem k38_44 : am_at 38 44 = some (.getfield 711, 47) := am_kq38 28 _ _ _ rfl
theorem k38_47 : am_at 38 47 = some (.bipush 6, 49) := am_kq38 29 _ _ _ rfl
theorem k38_49 : am_at 38 49 = some (.iload 1, 50) := am_kq38 30 _ _ _ rfl
theorem k38_50 : am_at 38 50 = some (.imul, 51) := am_kq38 31 _ _ _ rfl
theorem k38_51 : am_at 38 51 = some (.iload 2, 52) := am_kq38 32 _ _ _ rfl
theorem k38_52 : am_at 38 52 = some (.iadd, 53) := am_kq38 33 _ _ _ rfl
theorem k38_53 : am_at 38 53 = some (.iload 4, 55) := am_kq38 34 _ _ _ rfl
theorem k38_55 : am_at 38 55 = some (.iastore, 56) := am_kq38 35 _ _ _ rfl
theorem k38_56 : am_at 38 56 = some (.bipush 1, 57) := am_kq38 36 _ _ _ rfl
theorem k38_57 : am_at 38 57 = some (.ireturn, 58) := am_kq38 37 _ _ _ rfl
set_option maxRecDepth 20000 in
theorem am_kq39 (i pc : Nat) (x : Instr) (nx : Nat) (hi : am_t39[i]? = some (pc, x, nx)) : am_at 39 pc = some (x, nx) := am_kB 39 am_t39 rfl (by decide +kernel) i pc x nx hi
theorem k39_0 : am_at 39 0 = some (.bipush 0, 1) := am_kq39 0 _ _ _ rfl
theorem k39_1 : am_at 39 1 = some (.istore 3, 2) := am_kq39 1 _ _ _ rfl
theorem k39_2 : am_at 39 2 = some (.iload 3, 3) := am_kq39 2 _ _ _ rfl
theorem k39_3 : am_at 39 3 = some (.aload 0, 4) := am_kq39 3 _ _ _ rfl
theorem k39_4 : am_at 39 4 = some (.getfield 707, 7) := am_kq39 4 _ _ _ rfl
theorem k39_7 : am_at 39 7 = some (.iload 1, 8) := am_kq39 5 _ _ _ rfl
theorem k39_8 : am_at 39 8 = some (.iaload, 9) := am_kq39 6 _ _ _ rfl
theorem k39_9 : am_at 39 9 = some (.if_icmp .ge 49, 12) := am_kq39 7 _ _ _ rfl
theorem k39_12 : am_at 39 12 = some (.bipush 6, 14) := am_kq39 8 _ _ _ rfl
theorem k39_14 : am_at 39 14 = some (.aload 0, 15) := am_kq39 9 _ _ _ rfl
theorem k39_15 : am_at 39 15 = some (.getfield 706, 18) := am_kq39 10 _ _ _ rfl
theorem k39_18 : am_at 39 18 = some (.bipush 12, 20) := am_kq39 11 _ _ _ rfl
theorem k39_20 : am_at 39 20 = some (.iload 1, 21) := am_kq39 12 _ _ _ rfl
theorem k39_21 : am_at 39 21 = some (.imul, 22) := am_kq39 13 _ _ _ rfl
theorem k39_22 : am_at 39 22 = some (.iload 3, 23) := am_kq39 14 _ _ _ rfl
theorem k39_23 : am_at 39 23 = some (.iadd, 24) := am_kq39 15 _ _ _ rfl
theorem k39_24 : am_at 39 24 = some (.iaload, 25) := am_kq39 16 _ _ _ rfl
theorem k39_25 : am_at 39 25 = some (.imul, 26) := am_kq39 17 _ _ _ rfl
theorem k39_26 : am_at 39 26 = some (.iload 2, 27) := am_kq39 18 _ _ _ rfl
theorem k39_27 : am_at 39 27 = some (.iadd, 28) := am_kq39 19 _ _ _ rfl
theorem k39_28 : am_at 39 28 = some (.istore 4, 30) := am_kq39 20 _ _ _ rfl
theorem k39_30 : am_at 39 30 = some (.aload 0, 31) := am_kq39 21 _ _ _ rfl
theorem k39_31 : am_at 39 31 = some (.getfield 710, 34) := am_kq39 22 _ _ _ rfl
theorem k39_34 : am_at 39 34 = some (.iload 4, 36) := am_kq39 23 _ _ _ rfl
theorem k39_36 : am_at 39 36 = some (.iaload, 37) := am_kq39 24 _ _ _ rfl
theorem k39_37 : am_at 39 37 = some (.ifCond .le 43, 40) := am_kq39 25 _ _ _ rfl
theorem k39_40 : am_at 39 40 = some (.iload 4, 42) := am_kq39 26 _ _ _ rfl
theorem k39_42 : am_at 39 42 = some (.ireturn, 43) := am_kq39 27 _ _ _ rfl
theorem k39_43 : am_at 39 43 = some (.iinc 3 1, 46) := am_kq39 28 _ _ _ rfl
theorem k39_46 : am_at 39 46 = some (.goto 2, 49) := am_kq39 29 _ _ _ rfl
theorem k39_49 : am_at 39 49 = some (.bipush (-1), 50) := am_kq39 30 _ _ _ rfl
theorem k39_50 : am_at 39 50 = some (.ireturn, 51) := am_kq39 31 _ _ _ rfl
set_option maxRecDepth 20000 in
theorem am_kq40 (i pc : Nat) (x : Instr) (nx : Nat) (hi : am_t40[i]? = some (pc, x, nx)) : am_at 40 pc = some (x, nx) := am_kB 40 am_t40 rfl (by decide +kernel) i pc x nx hi
theorem k40_0 : am_at 40 0 = some (.bipush 0, 1) := am_kq40 0 _ _ _ rfl
theorem k40_1 : am_at 40 1 = some (.istore 2, 2) := am_kq40 1 _ _ _ rfl
theorem k40_2 : am_at 40 2 = some (.bipush 0, 3) := am_kq40 2 _ _ _ rfl
theorem k40_3 : am_at 40 3 = some (.istore 3, 4) := am_kq40 3 _ _ _ rfl
theorem k40_4 : am_at 40 4 = some (.iload 3, 5) := am_kq40 4 _ _ _ rfl
theorem k40_5 : am_at 40 5 = some (.bipush 6, 7) := am_kq40 5 _ _ _ rfl
theorem k40_7 : am_at 40 7 = some (.if_icmp .ge 46, 10) := am_kq40 6 _ _ _ rfl
theorem k40_10 : am_at 40 10 = some (.aload 0, 11) := am_kq40 7 _ _ _ rfl
theorem k40_11 : am_at 40 11 = some (.iload 1, 12) := am_kq40 8 _ _ _ rfl
theorem k40_12 : am_at 40 12 = some (.iload 3, 13) := am_kq40 9 _ _ _ rfl
theorem k40_13 : am_at 40 13 = some (.invokestatic 39, 16) := am_kq40 10 _ _ _ rfl
theorem k40_16 : am_at 40 16 = some (.istore 4, 18) := am_kq40 11 _ _ _ rfl
theorem k40_18 : am_at 40 18 = some (.iload 4, 20) := am_kq40 12 _ _ _ rfl
theorem k40_20 : am_at 40 20 = some (.ifCond .lt 40, 23) := am_kq40 13 _ _ _ rfl
theorem k40_23 : am_at 40 23 = some (.aload 0, 24) := am_kq40 14 _ _ _ rfl
theorem k40_24 : am_at 40 24 = some (.getfield 710, 27) := am_kq40 15 _ _ _ rfl
theorem k40_27 : am_at 40 27 = some (.iload 4, 29) := am_kq40 16 _ _ _ rfl
theorem k40_29 : am_at 40 29 = some (.iaload, 30) := am_kq40 17 _ _ _ rfl
theorem k40_30 : am_at 40 30 = some (.bipush 3, 31) := am_kq40 18 _ _ _ rfl
theorem k40_31 : am_at 40 31 = some (.if_icmp .eq 40, 34) := am_kq40 19 _ _ _ rfl
theorem k40_34 : am_at 40 34 = some (.iload 2, 35) := am_kq40 20 _ _ _ rfl
theorem k40_35 : am_at 40 35 = some (.bipush 1, 36) := am_kq40 21 _ _ _ rfl
theorem k40_36 : am_at 40 36 = some (.iload 3, 37) := am_kq40 22 _ _ _ rfl
theorem k40_37 : am_at 40 37 = some (.ishl, 38) := am_kq40 23 _ _ _ rfl
theorem k40_38 : am_at 40 38 = some (.ior, 39) := am_kq40 24 _ _ _ rfl
theorem k40_39 : am_at 40 39 = some (.istore 2, 40) := am_kq40 25 _ _ _ rfl
theorem k40_40 : am_at 40 40 = some (.iinc 3 1, 43) := am_kq40 26 _ _ _ rfl
theorem k40_43 : am_at 40 43 = some (.goto 4, 46) := am_kq40 27 _ _ _ rfl
theorem k40_46 : am_at 40 46 = some (.iload 2, 47) := am_kq40 28 _ _ _ rfl
theorem k40_47 : am_at 40 47 = some (.ireturn, 48) := am_kq40 29 _ _ _ rfl
set_option maxRecDepth 20000 in
theorem am_kq41 (i pc : Nat) (x : Instr) (nx : Nat) (hi : am_t41[i]? = some (pc, x, nx)) : am_at 41 pc = some (x, nx) := am_kB 41 am_t41 rfl (by decide +kernel) i pc x nx hi
theorem k41_0 : am_at 41 0 = some (.aload 0, 1) := am_kq41 0 _ _ _ rfl
theorem k41_1 : am_at 41 1 = some (.aload 0, 2) := am_kq41 1 _ _ _ rfl
theorem k41_2 : am_at 41 2 = some (.getfield 712, 5) := am_kq41 2 _ _ _ rfl
theorem k41_5 : am_at 41 5 = some (.iload 1, 6) := am_kq41 3 _ _ _ rfl
theorem k41_6 : am_at 41 6 = some (.iaload, 7) := am_kq41 4 _ _ _ rfl
theorem k41_7 : am_at 41 7 = some (.invokestatic 40, 10) := am_kq41 5 _ _ _ rfl
theorem k41_10 : am_at 41 10 = some (.istore 2, 11) := am_kq41 6 _ _ _ rfl
theorem k41_11 : am_at 41 11 = some (.bipush 0, 12) := am_kq41 7 _ _ _ rfl
theorem k41_12 : am_at 41 12 = some (.istore 3, 13) := am_kq41 8 _ _ _ rfl
theorem k41_13 : am_at 41 13 = some (.iload 3, 14) := am_kq41 9 _ _ _ rfl
theorem k41_14 : am_at 41 14 = some (.bipush 6, 16) := am_kq41 10 _ _ _ rfl
theorem k41_16 : am_at 41 16 = some (.if_icmp .ge 146, 19) := am_kq41 11 _ _ _ rfl
theorem k41_19 : am_at 41 19 = some (.bipush 1, 20) := am_kq41 12 _ _ _ rfl
theorem k41_20 : am_at 41 20 = some (.iload 3, 21) := am_kq41 13 _ _ _ rfl
theorem k41_21 : am_at 41 21 = some (.ishl, 22) := am_kq41 14 _ _ _ rfl
theorem k41_22 : am_at 41 22 = some (.istore 4, 24) := am_kq41 15 _ _ _ rfl
theorem k41_24 : am_at 41 24 = some (.aload 0, 25) := am_kq41 16 _ _ _ rfl
theorem k41_25 : am_at 41 25 = some (.aload 0, 26) := am_kq41 17 _ _ _ rfl
theorem k41_26 : am_at 41 26 = some (.getfield 712, 29) := am_kq41 18 _ _ _ rfl
theorem k41_29 : am_at 41 29 = some (.iload 1, 30) := am_kq41 19 _ _ _ rfl
theorem k41_30 : am_at 41 30 = some (.iaload, 31) := am_kq41 20 _ _ _ rfl
theorem k41_31 : am_at 41 31 = some (.iload 3, 32) := am_kq41 21 _ _ _ rfl
theorem k41_32 : am_at 41 32 = some (.invokestatic 39, 35) := am_kq41 22 _ _ _ rfl
theorem k41_35 : am_at 41 35 = some (.istore 5, 37) := am_kq41 23 _ _ _ rfl
theorem k41_37 : am_at 41 37 = some (.iload 2, 38) := am_kq41 24 _ _ _ rfl
theorem k41_38 : am_at 41 38 = some (.iload 4, 40) := am_kq41 25 _ _ _ rfl
theorem k41_40 : am_at 41 40 = some (.iand, 41) := am_kq41 26 _ _ _ rfl
theorem k41_41 : am_at 41 41 = some (.ifCond .ne 60, 44) := am_kq41 27 _ _ _ rfl
theorem k41_44 : am_at 41 44 = some (.aload 0, 45) := am_kq41 28 _ _ _ rfl
theorem k41_45 : am_at 41 45 = some (.getfield 714, 48) := am_kq41 29 _ _ _ rfl
theorem k41_48 : am_at 41 48 = some (.iload 1, 49) := am_kq41 30 _ _ _ rfl
theorem k41_49 : am_at 41 49 = some (.dup2, 50) := am_kq41 31 _ _ _ rfl
theorem k41_50 : am_at 41 50 = some (.iaload, 51) := am_kq41 32 _ _ _ rfl
theorem k41_51 : am_at 41 51 = some (.iload 4, 53) := am_kq41 33 _ _ _ rfl
theorem k41_53 : am_at 41 53 = some (.bipush (-1), 54) := am_kq41 34 _ _ _ rfl
theorem k41_54 : am_at 41 54 = some (.ixor, 55) := am_kq41 35 _ _ _ rfl
theorem k41_55 : am_at 41 55 = some (.iand, 56) := am_kq41 36 _ _ _ rfl
theorem k41_56 : am_at 41 56 = some (.iastore, 57) := am_kq41 37 _ _ _ rfl
theorem k41_57 : am_at 41 57 = some (.goto 140, 60) := am_kq41 38 _ _ _ rfl
theorem k41_60 : am_at 41 60 = some (.aload 0, 61) := am_kq41 39 _ _ _ rfl
theorem k41_61 : am_at 41 61 = some (.getfield 713, 64) := am_kq41 40 _ _ _ rfl
theorem k41_64 : am_at 41 64 = some (.iload 1, 65) := am_kq41 41 _ _ _ rfl
theorem k41_65 : am_at 41 65 = some (.iaload, 66) := am_kq41 42 _ _ _ rfl
theorem k41_66 : am_at 41 66 = some (.iload 4, 68) := am_kq41 43 _ _ _ rfl
theorem k41_68 : am_at 41 68 = some (.iand, 69) := am_kq41 44 _ _ _ rfl
theorem k41_69 : am_at 41 69 = some (.ifCond .ne 115, 72) := am_kq41 45 _ _ _ rfl
theorem k41_72 : am_at 41 72 = some (.aload 0, 73) := am_kq41 46 _ _ _ rfl
theorem k41_73 : am_at 41 73 = some (.getfield 710, 76) := am_kq41 47 _ _ _ rfl
theorem k41_76 : am_at 41 76 = some (.iload 5, 78) := am_kq41 48 _ _ _ rfl
theorem k41_78 : am_at 41 78 = some (.iaload, 79) := am_kq41 49 _ _ _ rfl
theorem k41_79 : am_at 41 79 = some (.bipush 1, 80) := am_kq41 50 _ _ _ rfl
theorem k41_80 : am_at 41 80 = some (.if_icmp .ne 115, 83) := am_kq41 51 _ _ _ rfl
theorem k41_83 : am_at 41 83 = some (.aload 0, 84) := am_kq41 52 _ _ _ rfl
theorem k41_84 : am_at 41 84 = some (.getfield 714, 87) := am_kq41 53 _ _ _ rfl
theorem k41_87 : am_at 41 87 = some (.iload 1, 88) := am_kq41 54 _ _ _ rfl
theorem k41_88 : am_at 41 88 = some (.dup2, 89) := am_kq41 55 _ _ _ rfl
theorem k41_89 : am_at 41 89 = some (.iaload, 90) := am_kq41 56 _ _ _ rfl
theorem k41_90 : am_at 41 90 = some (.iload 4, 92) := am_kq41 57 _ _ _ rfl
theorem k41_92 : am_at 41 92 = some (.ior, 93) := am_kq41 58 _ _ _ rfl
theorem k41_93 : am_at 41 93 = some (.iastore, 94) := am_kq41 59 _ _ _ rfl
theorem k41_94 : am_at 41 94 = some (.aload 0, 95) := am_kq41 60 _ _ _ rfl
theorem k41_95 : am_at 41 95 = some (.getfield 715, 98) := am_kq41 61 _ _ _ rfl
theorem k41_98 : am_at 41 98 = some (.bipush 6, 100) := am_kq41 62 _ _ _ rfl
theorem k41_100 : am_at 41 100 = some (.iload 1, 101) := am_kq41 63 _ _ _ rfl
theorem k41_101 : am_at 41 101 = some (.imul, 102) := am_kq41 64 _ _ _ rfl
theorem k41_102 : am_at 41 102 = some (.iload 3, 103) := am_kq41 65 _ _ _ rfl
theorem k41_103 : am_at 41 103 = some (.iadd, 104) := am_kq41 66 _ _ _ rfl
theorem k41_104 : am_at 41 104 = some (.aload 0, 105) := am_kq41 67 _ _ _ rfl
theorem k41_105 : am_at 41 105 = some (.getfield 711, 108) := am_kq41 68 _ _ _ rfl
theorem k41_108 : am_at 41 108 = some (.iload 5, 110) := am_kq41 69 _ _ _ rfl
theorem k41_110 : am_at 41 110 = some (.iaload, 111) := am_kq41 70 _ _ _ rfl
theorem k41_111 : am_at 41 111 = some (.iastore, 112) := am_kq41 71 _ _ _ rfl
theorem k41_112 : am_at 41 112 = some (.goto 140, 115) := am_kq41 72 _ _ _ rfl
theorem k41_115 : am_at 41 115 = some (.aload 0, 116) := am_kq41 73 _ _ _ rfl
theorem k41_116 : am_at 41 116 = some (.getfield 713, 119) := am_kq41 74 _ _ _ rfl
theorem k41_119 : am_at 41 119 = some (.iload 1, 120) := am_kq41 75 _ _ _ rfl
theorem k41_120 : am_at 41 120 = some (.iaload, 121) := am_kq41 76 _ _ _ rfl
theorem k41_121 : am_at 41 121 = some (.iload 4, 123) := am_kq41 77 _ _ _ rfl
theorem k41_123 : am_at 41 123 = some (.iand, 124) := am_kq41 78 _ _ _ rfl
theorem k41_124 : am_at 41 124 = some (.ifCond .ne 140, 127) := am_kq41 79 _ _ _ rfl
theorem k41_127 : am_at 41 127 = some (.aload 0, 128) := am_kq41 80 _ _ _ rfl
theorem k41_128 : am_at 41 128 = some (.getfield 714, 131) := am_kq41 81 _ _ _ rfl
theorem k41_131 : am_at 41 131 = some (.iload 1, 132) := am_kq41 82 _ _ _ rfl
theorem k41_132 : am_at 41 132 = some (.dup2, 133) := am_kq41 83 _ _ _ rfl
theorem k41_133 : am_at 41 133 = some (.iaload, 134) := am_kq41 84 _ _ _ rfl
theorem k41_134 : am_at 41 134 = some (.iload 4, 136) := am_kq41 85 _ _ _ rfl
theorem k41_136 : am_at 41 136 = some (.bipush (-1), 137) := am_kq41 86 _ _ _ rfl
theorem k41_137 : am_at 41 137 = some (.ixor, 138) := am_kq41 87 _ _ _ rfl
theorem k41_138 : am_at 41 138 = some (.iand, 139) := am_kq41 88 _ _ _ rfl
theorem k41_139 : am_at 41 139 = some (.iastore, 140) := am_kq41 89 _ _ _ rfl
theorem k41_140 : am_at 41 140 = some (.iinc 3 1, 143) := am_kq41 90 _ _ _ rfl
theorem k41_143 : am_at 41 143 = some (.goto 13, 146) := am_kq41 91 _ _ _ rfl
theorem k41_146 : am_at 41 146 = some (.aload 0, 147) := am_kq41 92 _ _ _ rfl
theorem k41_147 : am_at 41 147 = some (.getfield 713, 150) := am_kq41 93 _ _ _ rfl
theorem k41_150 : am_at 41 150 = some (.iload 1, 151) := am_kq41 94 _ _ _ rfl
theorem k41_151 : am_at 41 151 = some (.iload 2, 152) := am_kq41 95 _ _ _ rfl
theorem k41_152 : am_at 41 152 = some (.iastore, 153) := am_kq41 96 _ _ _ rfl
theorem k41_153 : am_at 41 153 = some (.return_, 154) := am_kq41 97 _ _ _ rfl
set_option maxRecDepth 20000 in
theorem am_kq42 (i pc : Nat) (x : Instr) (nx : Nat) (hi : am_t42[i]? = some (pc, x, nx)) : am_at 42 pc = some (x, nx) := am_kB 42 am_t42 rfl (by decide +kernel) i pc x nx hi
theorem k42_0 : am_at 42 0 = some (.aload 0, 1) := am_kq42 0 _ _ _ rfl
theorem k42_1 : am_at 42 1 = some (.getfield 713, 4) := am_kq42 1 _ _ _ rfl
theorem k42_4 : am_at 42 4 = some (.iload 1, 5) := am_kq42 2 _ _ _ rfl
theorem k42_5 : am_at 42 5 = some (.iaload, 6) := am_kq42 3 _ _ _ rfl
theorem k42_6 : am_at 42 6 = some (.aload 0, 7) := am_kq42 4 _ _ _ rfl
theorem k42_7 : am_at 42 7 = some (.aload 0, 8) := am_kq42 5 _ _ _ rfl
theorem k42_8 : am_at 42 8 = some (.getfield 712, 11) := am_kq42 6 _ _ _ rfl
theorem k42_11 : am_at 42 11 = some (.iload 1, 12) := am_kq42 7 _ _ _ rfl
theorem k42_12 : am_at 42 12 = some (.iaload, 13) := am_kq42 8 _ _ _ rfl
theorem k42_13 : am_at 42 13 = some (.invokestatic 40, 16) := am_kq42 9 _ _ _ rfl
theorem k42_16 : am_at 42 16 = some (.if_icmp .eq 30, 19) := am_kq42 10 _ _ _ rfl
theorem k42_19 : am_at 42 19 = some (.aload 0, 20) := am_kq42 11 _ _ _ rfl
theorem k42_20 : am_at 42 20 = some (.getfield 740, 23) := am_kq42 12 _ _ _ rfl
theorem k42_23 : am_at 42 23 = some (.bipush 7, 25) := am_kq42 13 _ _ _ rfl
theorem k42_25 : am_at 42 25 = some (.dup2, 26) := am_kq42 14 _ _ _ rfl
theorem k42_26 : am_at 42 26 = some (.iaload, 27) := am_kq42 15 _ _ _ rfl
theorem k42_27 : am_at 42 27 = some (.bipush 1, 28) := am_kq42 16 _ _ _ rfl
theorem k42_28 : am_at 42 28 = some (.iadd, 29) := am_kq42 17 _ _ _ rfl
theorem k42_29 : am_at 42 29 = some (.iastore, 30) := am_kq42 18 _ _ _ rfl
theorem k42_30 : am_at 42 30 = some (.aload 0, 31) := am_kq42 19 _ _ _ rfl
theorem k42_31 : am_at 42 31 = some (.iload 1, 32) := am_kq42 20 _ _ _ rfl
theorem k42_32 : am_at 42 32 = some (.invokestatic 41, 35) := am_kq42 21 _ _ _ rfl
theorem k42_35 : am_at 42 35 = some (.return_, 36) := am_kq42 22 _ _ _ rfl
set_option maxRecDepth 20000 in
theorem am_kq43 (i pc : Nat) (x : Instr) (nx : Nat) (hi : am_t43[i]? = some (pc, x, nx)) : am_at 43 pc = some (x, nx) := am_kB 43 am_t43 rfl (by decide +kernel) i pc x nx hi
theorem k43_0 : am_at 43 0 = some (.aload 0, 1) := am_kq43 0 _ _ _ rfl
theorem k43_1 : am_at 43 1 = some (.iload 1, 2) := am_kq43 1 _ _ _ rfl
theorem k43_2 : am_at 43 2 = some (.invokestatic 32, 5) := am_kq43 2 _ _ _ rfl
theorem k43_5 : am_at 43 5 = some (.ifCond .ne 11, 8) := am_kq43 3 _ _ _ rfl
theorem k43_8 : am_at 43 8 = some (.bipush (-2), 10) := am_kq43 4 _ _ _ rfl
theorem k43_10 : am_at 43 10 = some (.ireturn, 11) := am_kq43 5 _ _ _ rfl
theorem k43_11 : am_at 43 11 = some (.aload 0, 12) := am_kq43 6 _ _ _ rfl
theorem k43_12 : am_at 43 12 = some (.getfield 741, 15) := am_kq43 7 _ _ _ rfl
theorem k43_15 : am_at 43 15 = some (.bipush 12, 17) := am_kq43 8 _ _ _ rfl
theorem k43_17 : am_at 43 17 = some (.if_icmp .ne 23, 20) := am_kq43 9 _ _ _ rfl
theorem k43_20 : am_at 43 20 = some (.bipush (-3), 22) := am_kq43 10 _ _ _ rfl
theorem k43_22 : am_at 43 22 = some (.ireturn, 23) := am_kq43 11 _ _ _ rfl
theorem k43_23 : am_at 43 23 = some (.aload 0, 24) := am_kq43 12 _ _ _ rfl
theorem k43_24 : am_at 43 24 = some (.dup, 25) := am_kq43 13 _ _ _ rfl
theorem k43_25 : am_at 43 25 = some (.getfield 741, 28) := am_kq43 14 _ _ _ rfl
theorem k43_28 : am_at 43 28 = some (.dup_x1, 29) := am_kq43 15 _ _ _ rfl
theorem k43_29 : am_at 43 29 = some (.bipush 1, 30) := am_kq43 16 _ _ _ rfl
theorem k43_30 : am_at 43 30 = some (.iadd, 31) := am_kq43 17 _ _ _ rfl
theorem k43_31 : am_at 43 31 = some (.putfield 741, 34) := am_kq43 18 _ _ _ rfl
theorem k43_34 : am_at 43 34 = some (.istore 2, 35) := am_kq43 19 _ _ _ rfl
theorem k43_35 : am_at 43 35 = some (.aload 0, 36) := am_kq43 20 _ _ _ rfl
theorem k43_36 : am_at 43 36 = some (.getfield 712, 39) := am_kq43 21 _ _ _ rfl
theorem k43_39 : am_at 43 39 = some (.iload 2, 40) := am_kq43 22 _ _ _ rfl
theorem k43_40 : am_at 43 40 = some (.iload 1, 41) := am_kq43 23 _ _ _ rfl
theorem k43_41 : am_at 43 41 = some (.iastore, 42) := am_kq43 24 _ _ _ rfl
theorem k43_42 : am_at 43 42 = some (.aload 0, 43) := am_kq43 25 _ _ _ rfl
theorem k43_43 : am_at 43 43 = some (.getfield 713, 46) := am_kq43 26 _ _ _ rfl
theorem k43_46 : am_at 43 46 = some (.iload 2, 47) := am_kq43 27 _ _ _ rfl
theorem k43_47 : am_at 43 47 = some (.bipush 0, 48) := am_kq43 28 _ _ _ rfl
theorem k43_48 : am_at 43 48 = some (.iastore, 49) := am_kq43 29 _ _ _ rfl
theorem k43_49 : am_at 43 49 = some (.aload 0, 50) := am_kq43 30 _ _ _ rfl
theorem k43_50 : am_at 43 50 = some (.getfield 714, 53) := am_kq43 31 _ _ _ rfl
theorem k43_53 : am_at 43 53 = some (.iload 2, 54) := am_kq43 32 _ _ _ rfl
theorem k43_54 : am_at 43 54 = some (.bipush 0, 55) := am_kq43 33 _ _ _ rfl
theorem k43_55 : am_at 43 55 = some (.iastore, 56) := am_kq43 34 _ _ _ rfl
theorem k43_56 : am_at 43 56 = some (.aload 0, 57) := am_kq43 35 _ _ _ rfl
theorem k43_57 : am_at 43 57 = some (.iload 2, 58) := am_kq43 36 _ _ _ rfl
theorem k43_58 : am_at 43 58 = some (.invokestatic 41, 61) := am_kq43 37 _ _ _ rfl
theorem k43_61 : am_at 43 61 = some (.iload 2, 62) := am_kq43 38 _ _ _ rfl
theorem k43_62 : am_at 43 62 = some (.ireturn, 63) := am_kq43 39 _ _ _ rfl
set_option maxRecDepth 20000 in
theorem am_kq44 (i pc : Nat) (x : Instr) (nx : Nat) (hi : am_t44[i]? = some (pc, x, nx)) : am_at 44 pc = some (x, nx) := am_kB 44 am_t44 rfl (by decide +kernel) i pc x nx hi
theorem k44_0 : am_at 44 0 = some (.aload 0, 1) := am_kq44 0 _ _ _ rfl
theorem k44_1 : am_at 44 1 = some (.iload 1, 2) := am_kq44 1 _ _ _ rfl
theorem k44_2 : am_at 44 2 = some (.invokestatic 33, 5) := am_kq44 2 _ _ _ rfl
theorem k44_5 : am_at 44 5 = some (.ifCond .eq 16, 8) := am_kq44 3 _ _ _ rfl
theorem k44_8 : am_at 44 8 = some (.aload 0, 9) := am_kq44 4 _ _ _ rfl
theorem k44_9 : am_at 44 9 = some (.iload 2, 10) := am_kq44 5 _ _ _ rfl
theorem k44_10 : am_at 44 10 = some (.invokestatic 32, 13) := am_kq44 6 _ _ _ rfl
theorem k44_13 : am_at 44 13 = some (.ifCond .ne 19, 16) := am_kq44 7 _ _ _ rfl
theorem k44_16 : am_at 44 16 = some (.bipush (-2), 18) := am_kq44 8 _ _ _ rfl
theorem k44_18 : am_at 44 18 = some (.ireturn, 19) := am_kq44 9 _ _ _ rfl
theorem k44_19 : am_at 44 19 = some (.aload 0, 20) := am_kq44 10 _ _ _ rfl
theorem k44_20 : am_at 44 20 = some (.iload 1, 21) := am_kq44 11 _ _ _ rfl
theorem k44_21 : am_at 44 21 = some (.invokestatic 42, 24) := am_kq44 12 _ _ _ rfl
theorem k44_24 : am_at 44 24 = some (.aload 0, 25) := am_kq44 13 _ _ _ rfl
theorem k44_25 : am_at 44 25 = some (.getfield 712, 28) := am_kq44 14 _ _ _ rfl
theorem k44_28 : am_at 44 28 = some (.iload 1, 29) := am_kq44 15 _ _ _ rfl
theorem k44_29 : am_at 44 29 = some (.iload 2, 30) := am_kq44 16 _ _ _ rfl
theorem k44_30 : am_at 44 30 = some (.iastore, 31) := am_kq44 17 _ _ _ rfl
theorem k44_31 : am_at 44 31 = some (.aload 0, 32) := am_kq44 18 _ _ _ rfl
theorem k44_32 : am_at 44 32 = some (.iload 1, 33) := am_kq44 19 _ _ _ rfl
theorem k44_33 : am_at 44 33 = some (.invokestatic 42, 36) := am_kq44 20 _ _ _ rfl
theorem k44_36 : am_at 44 36 = some (.bipush 1, 37) := am_kq44 21 _ _ _ rfl
theorem k44_37 : am_at 44 37 = some (.ireturn, 38) := am_kq44 22 _ _ _ rfl
set_option maxRecDepth 20000 in
theorem am_kq45 (i pc : Nat) (x : Instr) (nx : Nat) (hi : am_t45[i]? = some (pc, x, nx)) : am_at 45 pc = some (x, nx) := am_kB 45 am_t45 rfl (by decide +kernel) i pc x nx hi
theorem k45_0 : am_at 45 0 = some (.aload 0, 1) := am_kq45 0 _ _ _ rfl
theorem k45_1 : am_at 45 1 = some (.iload 1, 2) := am_kq45 1 _ _ _ rfl
theorem k45_2 : am_at 45 2 = some (.putfield 744, 5) := am_kq45 2 _ _ _ rfl
theorem k45_5 : am_at 45 5 = some (.sipush 1099511627776, 8) := am_kq45 3 _ _ _ rfl
theorem k45_8 : am_at 45 8 = some (.iload 1, 9) := am_kq45 4 _ _ _ rfl
theorem k45_9 : am_at 45 9 = some (.i2l, 10) := am_kq45 5 _ _ _ rfl
theorem k45_10 : am_at 45 10 = some (.ladd, 11) := am_kq45 6 _ _ _ rfl
theorem k45_11 : am_at 45 11 = some (.lreturn, 12) := am_kq45 7 _ _ _ rfl
set_option maxRecDepth 20000 in
theorem am_kq46 (i pc : Nat) (x : Instr) (nx : Nat) (hi : am_t46[i]? = some (pc, x, nx)) : am_at 46 pc = some (x, nx) := am_kB 46 am_t46 rfl (by decide +kernel) i pc x nx hi
theorem k46_0 : am_at 46 0 = some (.aload 0, 1) := am_kq46 0 _ _ _ rfl
theorem k46_1 : am_at 46 1 = some (.iload 1, 2) := am_kq46 1 _ _ _ rfl
theorem k46_2 : am_at 46 2 = some (.invokestatic 33, 5) := am_kq46 2 _ _ _ rfl
theorem k46_5 : am_at 46 5 = some (.ifCond .ne 11, 8) := am_kq46 3 _ _ _ rfl
theorem k46_8 : am_at 46 8 = some (.bipush (-2), 10) := am_kq46 4 _ _ _ rfl
theorem k46_10 : am_at 46 10 = some (.ireturn, 11) := am_kq46 5 _ _ _ rfl
theorem k46_11 : am_at 46 11 = some (.iload 2, 12) := am_kq46 6 _ _ _ rfl
theorem k46_12 : am_at 46 12 = some (.bipush 0, 13) := am_kq46 7 _ _ _ rfl
theorem k46_13 : am_at 46 13 = some (.bipush 5, 14) := am_kq46 8 _ _ _ rfl
theorem k46_14 : am_at 46 14 = some (.invokestatic 31, 17) := am_kq46 9 _ _ _ rfl
theorem k46_17 : am_at 46 17 = some (.ifCond .ne 22, 20) := am_kq46 10 _ _ _ rfl
theorem k46_20 : am_at 46 20 = some (.bipush (-1), 21) := am_kq46 11 _ _ _ rfl
theorem k46_21 : am_at 46 21 = some (.ireturn, 22) := am_kq46 12 _ _ _ rfl
theorem k46_22 : am_at 46 22 = some (.aload 0, 23) := am_kq46 13 _ _ _ rfl
theorem k46_23 : am_at 46 23 = some (.iload 1, 24) := am_kq46 14 _ _ _ rfl
theorem k46_24 : am_at 46 24 = some (.invokestatic 42, 27) := am_kq46 15 _ _ _ rfl
theorem k46_27 : am_at 46 27 = some (.aload 0, 28) := am_kq46 16 _ _ _ rfl
theorem k46_28 : am_at 46 28 = some (.aload 0, 29) := am_kq46 17 _ _ _ rfl
theorem k46_29 : am_at 46 29 = some (.getfield 712, 32) := am_kq46 18 _ _ _ rfl
theorem k46_32 : am_at 46 32 = some (.iload 1, 33) := am_kq46 19 _ _ _ rfl
theorem k46_33 : am_at 46 33 = some (.iaload, 34) := am_kq46 20 _ _ _ rfl
theorem k46_34 : am_at 46 34 = some (.iload 2, 35) := am_kq46 21 _ _ _ rfl
theorem k46_35 : am_at 46 35 = some (.invokestatic 39, 38) := am_kq46 22 _ _ _ rfl
theorem k46_38 : am_at 46 38 = some (.istore 3, 39) := am_kq46 23 _ _ _ rfl
theorem k46_39 : am_at 46 39 = some (.iload 3, 40) := am_kq46 24 _ _ _ rfl
theorem k46_40 : am_at 46 40 = some (.ifCond .ge 48, 43) := am_kq46 25 _ _ _ rfl
theorem k46_43 : am_at 46 43 = some (.bipush (-6), 45) := am_kq46 26 _ _ _ rfl
theorem k46_45 : am_at 46 45 = some (.goto 49, 48) := am_kq46 27 _ _ _ rfl
theorem k46_48 : am_at 46 48 = some (.iload 3, 49) := am_kq46 28 _ _ _ rfl
theorem k46_49 : am_at 46 49 = some (.ireturn, 50) := am_kq46 29 _ _ _ rfl
set_option maxRecDepth 20000 in
theorem am_kq47 (i pc : Nat) (x : Instr) (nx : Nat) (hi : am_t47[i]? = some (pc, x, nx)) : am_at 47 pc = some (x, nx) := am_kB 47 am_t47 rfl (by decide +kernel) i pc x nx hi
theorem k47_0 : am_at 47 0 = some (.aload 0, 1) := am_kq47 0 _ _ _ rfl
theorem k47_1 : am_at 47 1 = some (.iload 1, 2) := am_kq47 1 _ _ _ rfl
theorem k47_2 : am_at 47 2 = some (.iload 2, 3) := am_kq47 2 _ _ _ rfl
theorem k47_3 : am_at 47 3 = some (.invokestatic 46, 6) := am_kq47 3 _ _ _ rfl
theorem k47_6 : am_at 47 6 = some (.istore 3, 7) := am_kq47 4 _ _ _ rfl
theorem k47_7 : am_at 47 7 = some (.iload 3, 8) := am_kq47 5 _ _ _ rfl
theorem k47_8 : am_at 47 8 = some (.ifCond .ge 17, 11) := am_kq47 6 _ _ _ rfl
theorem k47_11 : am_at 47 11 = some (.aload 0, 12) := am_kq47 7 _ _ _ rfl
theorem k47_12 : am_at 47 12 = some (.iload 3, 13) := am_kq47 8 _ _ _ rfl
theorem k47_13 : am_at 47 13 = some (.invokestatic 45, 16) := am_kq47 9 _ _ _ rfl
theorem k47_16 : am_at 47 16 = some (.lreturn, 17) := am_kq47 10 _ _ _ rfl
theorem k47_17 : am_at 47 17 = some (.aload 0, 18) := am_kq47 11 _ _ _ rfl
theorem k47_18 : am_at 47 18 = some (.getfield 710, 21) := am_kq47 12 _ _ _ rfl
theorem k47_21 : am_at 47 21 = some (.iload 3, 22) := am_kq47 13 _ _ _ rfl
theorem k47_22 : am_at 47 22 = some (.iaload, 23) := am_kq47 14 _ _ _ rfl
theorem k47_23 : am_at 47 23 = some (.bipush 3, 24) := am_kq47 15 _ _ _ rfl
theorem k47_24 : am_at 47 24 = some (.if_icmp .ne 35, 27) := am_kq47 16 _ _ _ rfl
theorem k47_27 : am_at 47 27 = some (.aload 0, 28) := am_kq47 17 _ _ _ rfl
theorem k47_28 : am_at 47 28 = some (.getfield 711, 31) := am_kq47 18 _ _ _ rfl
theorem k47_31 : am_at 47 31 = some (.iload 3, 32) := am_kq47 19 _ _ _ rfl
theorem k47_32 : am_at 47 32 = some (.iaload, 33) := am_kq47 20 _ _ _ rfl
theorem k47_33 : am_at 47 33 = some (.i2l, 34) := am_kq47 21 _ _ _ rfl
theorem k47_34 : am_at 47 34 = some (.lreturn, 35) := am_kq47 22 _ _ _ rfl
theorem k47_35 : am_at 47 35 = some (.aload 0, 36) := am_kq47 23 _ _ _ rfl
theorem k47_36 : am_at 47 36 = some (.getfield 714, 39) := am_kq47 24 _ _ _ rfl
theorem k47_39 : am_at 47 39 = some (.iload 1, 40) := am_kq47 25 _ _ _ rfl
theorem k47_40 : am_at 47 40 = some (.iaload, 41) := am_kq47 26 _ _ _ rfl
theorem k47_41 : am_at 47 41 = some (.iload 2, 42) := am_kq47 27 _ _ _ rfl
theorem k47_42 : am_at 47 42 = some (.ishr, 43) := am_kq47 28 _ _ _ rfl
theorem k47_43 : am_at 47 43 = some (.bipush 1, 44) := am_kq47 29 _ _ _ rfl
theorem k47_44 : am_at 47 44 = some (.iand, 45) := am_kq47 30 _ _ _ rfl
theorem k47_45 : am_at 47 45 = some (.bipush 1, 46) := am_kq47 31 _ _ _ rfl
theorem k47_46 : am_at 47 46 = some (.if_icmp .ne 64, 49) := am_kq47 32 _ _ _ rfl
theorem k47_49 : am_at 47 49 = some (.aload 0, 50) := am_kq47 33 _ _ _ rfl
theorem k47_50 : am_at 47 50 = some (.getfield 715, 53) := am_kq47 34 _ _ _ rfl
theorem k47_53 : am_at 47 53 = some (.bipush 6, 55) := am_kq47 35 _ _ _ rfl
theorem k47_55 : am_at 47 55 = some (.iload 1, 56) := am_kq47 36 _ _ _ rfl
theorem k47_56 : am_at 47 56 = some (.imul, 57) := am_kq47 37 _ _ _ rfl
theorem k47_57 : am_at 47 57 = some (.iload 2, 58) := am_kq47 38 _ _ _ rfl
theorem k47_58 : am_at 47 58 = some (.iadd, 59) := am_kq47 39 _ _ _ rfl
theorem k47_59 : am_at 47 59 = some (.iaload, 60) := am_kq47 40 _ _ _ rfl
theorem k47_60 : am_at 47 60 = some (.i2l, 61) := am_kq47 41 _ _ _ rfl
theorem k47_61 : am_at 47 61 = some (.goto 70, 64) := am_kq47 42 _ _ _ rfl
theorem k47_64 : am_at 47 64 = some (.aload 0, 65) := am_kq47 43 _ _ _ rfl
theorem k47_65 : am_at 47 65 = some (.bipush (-7), 67) := am_kq47 44 _ _ _ rfl
theorem k47_67 : am_at 47 67 = some (.invokestatic 45, 70) := am_kq47 45 _ _ _ rfl
theorem k47_70 : am_at 47 70 = some (.lreturn, 71) := am_kq47 46 _ _ _ rfl
set_option maxRecDepth 20000 in
theorem am_kq48 (i pc : Nat) (x : Instr) (nx : Nat) (hi : am_t48[i]? = some (pc, x, nx)) : am_at 48 pc = some (x, nx) := am_kB 48 am_t48 rfl (by decide +kernel) i pc x nx hi
theorem k48_0 : am_at 48 0 = some (.aload 0, 1) := am_kq48 0 _ _ _ rfl
theorem k48_1 : am_at 48 1 = some (.iload 1, 2) := am_kq48 1 _ _ _ rfl
theorem k48_2 : am_at 48 2 = some (.iload 2, 3) := am_kq48 2 _ _ _ rfl
theorem k48_3 : am_at 48 3 = some (.invokestatic 46, 6) := am_kq48 3 _ _ _ rfl
theorem k48_6 : am_at 48 6 = some (.istore 4, 8) := am_kq48 4 _ _ _ rfl
theorem k48_8 : am_at 48 8 = some (.iload 4, 10) := am_kq48 5 _ _ _ rfl
theorem k48_10 : am_at 48 10 = some (.ifCond .ge 20, 13) := am_kq48 6 _ _ _ rfl
theorem k48_13 : am_at 48 13 = some (.aload 0, 14) := am_kq48 7 _ _ _ rfl
theorem k48_14 : am_at 48 14 = some (.iload 4, 16) := am_kq48 8 _ _ _ rfl
theorem k48_16 : am_at 48 16 = some (.invokestatic 45, 19) := am_kq48 9 _ _ _ rfl
theorem k48_19 : am_at 48 19 = some (.lreturn, 20) := am_kq48 10 _ _ _ rfl
theorem k48_20 : am_at 48 20 = some (.aload 0, 21) := am_kq48 11 _ _ _ rfl
theorem k48_21 : am_at 48 21 = some (.getfield 710, 24) := am_kq48 12 _ _ _ rfl
theorem k48_24 : am_at 48 24 = some (.iload 4, 26) := am_kq48 13 _ _ _ rfl
theorem k48_26 : am_at 48 26 = some (.iaload, 27) := am_kq48 14 _ _ _ rfl
theorem k48_27 : am_at 48 27 = some (.bipush 3, 28) := am_kq48 15 _ _ _ rfl
theorem k48_28 : am_at 48 28 = some (.if_icmp .ne 42, 31) := am_kq48 16 _ _ _ rfl
theorem k48_31 : am_at 48 31 = some (.aload 0, 32) := am_kq48 17 _ _ _ rfl
theorem k48_32 : am_at 48 32 = some (.getfield 711, 35) := am_kq48 18 _ _ _ rfl
theorem k48_35 : am_at 48 35 = some (.iload 4, 37) := am_kq48 19 _ _ _ rfl
theorem k48_37 : am_at 48 37 = some (.iload 3, 38) := am_kq48 20 _ _ _ rfl
theorem k48_38 : am_at 48 38 = some (.iastore, 39) := am_kq48 21 _ _ _ rfl
theorem k48_39 : am_at 48 39 = some (.goto 66, 42) := am_kq48 22 _ _ _ rfl
theorem k48_42 : am_at 48 42 = some (.aload 0, 43) := am_kq48 23 _ _ _ rfl
theorem k48_43 : am_at 48 43 = some (.getfield 715, 46) := am_kq48 24 _ _ _ rfl
theorem k48_46 : am_at 48 46 = some (.bipush 6, 48) := am_kq48 25 _ _ _ rfl
theorem k48_48 : am_at 48 48 = some (.iload 1, 49) := am_kq48 26 _ _ _ rfl
theorem k48_49 : am_at 48 49 = some (.imul, 50) := am_kq48 27 _ _ _ rfl
theorem k48_50 : am_at 48 50 = some (.iload 2, 51) := am_kq48 28 _ _ _ rfl
theorem k48_51 : am_at 48 51 = some (.iadd, 52) := am_kq48 29 _ _ _ rfl
theorem k48_52 : am_at 48 52 = some (.iload 3, 53) := am_kq48 30 _ _ _ rfl
theorem k48_53 : am_at 48 53 = some (.iastore, 54) := am_kq48 31 _ _ _ rfl
theorem k48_54 : am_at 48 54 = some (.aload 0, 55) := am_kq48 32 _ _ _ rfl
theorem k48_55 : am_at 48 55 = some (.getfield 714, 58) := am_kq48 33 _ _ _ rfl
theorem k48_58 : am_at 48 58 = some (.iload 1, 59) := am_kq48 34 _ _ _ rfl
theorem k48_59 : am_at 48 59 = some (.dup2, 60) := am_kq48 35 _ _ _ rfl
theorem k48_60 : am_at 48 60 = some (.iaload, 61) := am_kq48 36 _ _ _ rfl
theorem k48_61 : am_at 48 61 = some (.bipush 1, 62) := am_kq48 37 _ _ _ rfl
theorem k48_62 : am_at 48 62 = some (.iload 2, 63) := am_kq48 38 _ _ _ rfl
theorem k48_63 : am_at 48 63 = some (.ishl, 64) := am_kq48 39 _ _ _ rfl
theorem k48_64 : am_at 48 64 = some (.ior, 65) := am_kq48 40 _ _ _ rfl
theorem k48_65 : am_at 48 65 = some (.iastore, 66) := am_kq48 41 _ _ _ rfl
theorem k48_66 : am_at 48 66 = some (.sipush 1, 67) := am_kq48 42 _ _ _ rfl
theorem k48_67 : am_at 48 67 = some (.lreturn, 68) := am_kq48 43 _ _ _ rfl
set_option maxRecDepth 20000 in
theorem am_kq49 (i pc : Nat) (x : Instr) (nx : Nat) (hi : am_t49[i]? = some (pc, x, nx)) : am_at 49 pc = some (x, nx) := am_kB 49 am_t49 rfl (by decide +kernel) i pc x nx hi
theorem k49_0 : am_at 49 0 = some (.aload 0, 1) := am_kq49 0 _ _ _ rfl
theorem k49_1 : am_at 49 1 = some (.iload 1, 2) := am_kq49 1 _ _ _ rfl
theorem k49_2 : am_at 49 2 = some (.iload 2, 3) := am_kq49 2 _ _ _ rfl
theorem k49_3 : am_at 49 3 = some (.invokestatic 46, 6) := am_kq49 3 _ _ _ rfl
theorem k49_6 : am_at 49 6 = some (.istore 3, 7) := am_kq49 4 _ _ _ rfl
theorem k49_7 : am_at 49 7 = some (.iload 3, 8) := am_kq49 5 _ _ _ rfl
theorem k49_8 : am_at 49 8 = some (.ifCond .ge 17, 11) := am_kq49 6 _ _ _ rfl
theorem k49_11 : am_at 49 11 = some (.aload 0, 12) := am_kq49 7 _ _ _ rfl
theorem k49_12 : am_at 49 12 = some (.iload 3, 13) := am_kq49 8 _ _ _ rfl
theorem k49_13 : am_at 49 13 = some (.invokestatic 45, 16) := am_kq49 9 _ _ _ rfl
theorem k49_16 : am_at 49 16 = some (.lreturn, 17) := am_kq49 10 _ _ _ rfl
theorem k49_17 : am_at 49 17 = some (.aload 0, 18) := am_kq49 11 _ _ _ rfl
theorem k49_18 : am_at 49 18 = some (.getfield 710, 21) := am_kq49 12 _ _ _ rfl
theorem k49_21 : am_at 49 21 = some (.iload 3, 22) := am_kq49 13 _ _ _ rfl
theorem k49_22 : am_at 49 22 = some (.iaload, 23) := am_kq49 14 _ _ _ rfl
theorem k49_23 : am_at 49 23 = some (.bipush 3, 24) := am_kq49 15 _ _ _ rfl
theorem k49_24 : am_at 49 24 = some (.if_icmp .ne 34, 27) := am_kq49 16 _ _ _ rfl
theorem k49_27 : am_at 49 27 = some (.aload 0, 28) := am_kq49 17 _ _ _ rfl
theorem k49_28 : am_at 49 28 = some (.bipush (-6), 30) := am_kq49 18 _ _ _ rfl
theorem k49_30 : am_at 49 30 = some (.invokestatic 45, 33) := am_kq49 19 _ _ _ rfl
theorem k49_33 : am_at 49 33 = some (.lreturn, 34) := am_kq49 20 _ _ _ rfl
theorem k49_34 : am_at 49 34 = some (.aload 0, 35) := am_kq49 21 _ _ _ rfl
theorem k49_35 : am_at 49 35 = some (.getfield 714, 38) := am_kq49 22 _ _ _ rfl
theorem k49_38 : am_at 49 38 = some (.iload 1, 39) := am_kq49 23 _ _ _ rfl
theorem k49_39 : am_at 49 39 = some (.iaload, 40) := am_kq49 24 _ _ _ rfl
theorem k49_40 : am_at 49 40 = some (.iload 2, 41) := am_kq49 25 _ _ _ rfl
theorem k49_41 : am_at 49 41 = some (.ishr, 42) := am_kq49 26 _ _ _ rfl
theorem k49_42 : am_at 49 42 = some (.bipush 1, 43) := am_kq49 27 _ _ _ rfl
theorem k49_43 : am_at 49 43 = some (.iand, 44) := am_kq49 28 _ _ _ rfl
theorem k49_44 : am_at 49 44 = some (.istore 4, 46) := am_kq49 29 _ _ _ rfl
theorem k49_46 : am_at 49 46 = some (.aload 0, 47) := am_kq49 30 _ _ _ rfl
theorem k49_47 : am_at 49 47 = some (.getfield 714, 50) := am_kq49 31 _ _ _ rfl
theorem k49_50 : am_at 49 50 = some (.iload 1, 51) := am_kq49 32 _ _ _ rfl
theorem k49_51 : am_at 49 51 = some (.dup2, 52) := am_kq49 33 _ _ _ rfl
theorem k49_52 : am_at 49 52 = some (.iaload, 53) := am_kq49 34 _ _ _ rfl
theorem k49_53 : am_at 49 53 = some (.bipush 1, 54) := am_kq49 35 _ _ _ rfl
theorem k49_54 : am_at 49 54 = some (.iload 2, 55) := am_kq49 36 _ _ _ rfl
theorem k49_55 : am_at 49 55 = some (.ishl, 56) := am_kq49 37 _ _ _ rfl
theorem k49_56 : am_at 49 56 = some (.bipush (-1), 57) := am_kq49 38 _ _ _ rfl
theorem k49_57 : am_at 49 57 = some (.ixor, 58) := am_kq49 39 _ _ _ rfl
theorem k49_58 : am_at 49 58 = some (.iand, 59) := am_kq49 40 _ _ _ rfl
theorem k49_59 : am_at 49 59 = some (.iastore, 60) := am_kq49 41 _ _ _ rfl
theorem k49_60 : am_at 49 60 = some (.iload 4, 62) := am_kq49 42 _ _ _ rfl
theorem k49_62 : am_at 49 62 = some (.i2l, 63) := am_kq49 43 _ _ _ rfl
theorem k49_63 : am_at 49 63 = some (.lreturn, 64) := am_kq49 44 _ _ _ rfl
set_option maxRecDepth 20000 in
theorem am_kq50 (i pc : Nat) (x : Instr) (nx : Nat) (hi : am_t50[i]? = some (pc, x, nx)) : am_at 50 pc = some (x, nx) := am_kB 50 am_t50 rfl (by decide +kernel) i pc x nx hi
theorem k50_0 : am_at 50 0 = some (.bipush 0, 1) := am_kq50 0 _ _ _ rfl
theorem k50_1 : am_at 50 1 = some (.istore 2, 2) := am_kq50 1 _ _ _ rfl
theorem k50_2 : am_at 50 2 = some (.iload 2, 3) := am_kq50 2 _ _ _ rfl
theorem k50_3 : am_at 50 3 = some (.bipush 144, 6) := am_kq50 3 _ _ _ rfl
theorem k50_6 : am_at 50 6 = some (.if_icmp .ge 28, 9) := am_kq50 4 _ _ _ rfl
theorem k50_9 : am_at 50 9 = some (.aload 0, 10) := am_kq50 5 _ _ _ rfl
theorem k50_10 : am_at 50 10 = some (.getfield 725, 13) := am_kq50 6 _ _ _ rfl
theorem k50_13 : am_at 50 13 = some (.bipush 144, 16) := am_kq50 7 _ _ _ rfl
theorem k50_16 : am_at 50 16 = some (.iload 1, 17) := am_kq50 8 _ _ _ rfl
theorem k50_17 : am_at 50 17 = some (.imul, 18) := am_kq50 9 _ _ _ rfl
theorem k50_18 : am_at 50 18 = some (.iload 2, 19) := am_kq50 10 _ _ _ rfl
theorem k50_19 : am_at 50 19 = some (.iadd, 20) := am_kq50 11 _ _ _ rfl
theorem k50_20 : am_at 50 20 = some (.bipush 0, 21) := am_kq50 12 _ _ _ rfl
theorem k50_21 : am_at 50 21 = some (.bastore, 22) := am_kq50 13 _ _ _ rfl
theorem k50_22 : am_at 50 22 = some (.iinc 2 1, 25) := am_kq50 14 _ _ _ rfl
theorem k50_25 : am_at 50 25 = some (.goto 2, 28) := am_kq50 15 _ _ _ rfl
theorem k50_28 : am_at 50 28 = some (.return_, 29) := am_kq50 16 _ _ _ rfl
set_option maxRecDepth 20000 in
theorem am_kq51 (i pc : Nat) (x : Instr) (nx : Nat) (hi : am_t51[i]? = some (pc, x, nx)) : am_at 51 pc = some (x, nx) := am_kB 51 am_t51 rfl (by decide +kernel) i pc x nx hi
theorem k51_0 : am_at 51 0 = some (.iload 1, 1) := am_kq51 0 _ _ _ rfl
theorem k51_1 : am_at 51 1 = some (.bipush 0, 2) := am_kq51 1 _ _ _ rfl
theorem k51_2 : am_at 51 2 = some (.bipush 4, 3) := am_kq51 2 _ _ _ rfl
theorem k51_3 : am_at 51 3 = some (.invokestatic 31, 6) := am_kq51 3 _ _ _ rfl
theorem k51_6 : am_at 51 6 = some (.ifCond .eq 18, 9) := am_kq51 4 _ _ _ rfl
theorem k51_9 : am_at 51 9 = some (.iload 2, 10) := am_kq51 5 _ _ _ rfl
theorem k51_10 : am_at 51 10 = some (.bipush 1, 11) := am_kq51 6 _ _ _ rfl
theorem k51_11 : am_at 51 11 = some (.bipush 2, 12) := am_kq51 7 _ _ _ rfl
theorem k51_12 : am_at 51 12 = some (.invokestatic 31, 15) := am_kq51 8 _ _ _ rfl
theorem k51_15 : am_at 51 15 = some (.ifCond .ne 20, 18) := am_kq51 9 _ _ _ rfl
theorem k51_18 : am_at 51 18 = some (.bipush (-1), 19) := am_kq51 10 _ _ _ rfl
theorem k51_19 : am_at 51 19 = some (.ireturn, 20) := am_kq51 11 _ _ _ rfl
theorem k51_20 : am_at 51 20 = some (.bipush 0, 21) := am_kq51 12 _ _ _ rfl
theorem k51_21 : am_at 51 21 = some (.istore 3, 22) := am_kq51 13 _ _ _ rfl
theorem k51_22 : am_at 51 22 = some (.bipush 0, 23) := am_kq51 14 _ _ _ rfl
theorem k51_23 : am_at 51 23 = some (.istore 4, 25) := am_kq51 15 _ _ _ rfl
theorem k51_25 : am_at 51 25 = some (.iload 4, 27) := am_kq51 16 _ _ _ rfl
theorem k51_27 : am_at 51 27 = some (.bipush 16, 29) := am_kq51 17 _ _ _ rfl
theorem k51_29 : am_at 51 29 = some (.if_icmp .ge 60, 32) := am_kq51 18 _ _ _ rfl
theorem k51_32 : am_at 51 32 = some (.aload 0, 33) := am_kq51 19 _ _ _ rfl
theorem k51_33 : am_at 51 33 = some (.getfield 717, 36) := am_kq51 20 _ _ _ rfl
theorem k51_36 : am_at 51 36 = some (.iload 4, 38) := am_kq51 21 _ _ _ rfl
theorem k51_38 : am_at 51 38 = some (.iaload, 39) := am_kq51 22 _ _ _ rfl
theorem k51_39 : am_at 51 39 = some (.iload 1, 40) := am_kq51 23 _ _ _ rfl
theorem k51_40 : am_at 51 40 = some (.if_icmp .ne 54, 43) := am_kq51 24 _ _ _ rfl
theorem k51_43 : am_at 51 43 = some (.aload 0, 44) := am_kq51 25 _ _ _ rfl
theorem k51_44 : am_at 51 44 = some (.getfield 717, 47) := am_kq51 26 _ _ _ rfl
theorem k51_47 : am_at 51 47 = some (.iload 4, 49) := am_kq51 27 _ _ _ rfl
theorem k51_49 : am_at 51 49 = some (.bipush (-1), 50) := am_kq51 28 _ _ _ rfl
theorem k51_50 : am_at 51 50 = some (.iastore, 51) := am_kq51 29 _ _ _ rfl
theorem k51_51 : am_at 51 51 = some (.iinc 3 1, 54) := am_kq51 30 _ _ _ rfl
theorem k51_54 : am_at 51 54 = some (.iinc 4 1, 57) := am_kq51 31 _ _ _ rfl
theorem k51_57 : am_at 51 57 = some (.goto 25, 60) := am_kq51 32 _ _ _ rfl
theorem k51_60 : am_at 51 60 = some (.aload 0, 61) := am_kq51 33 _ _ _ rfl
theorem k51_61 : am_at 51 61 = some (.getfield 716, 64) := am_kq51 34 _ _ _ rfl
theorem k51_64 : am_at 51 64 = some (.iload 1, 65) := am_kq51 35 _ _ _ rfl
theorem k51_65 : am_at 51 65 = some (.iload 2, 66) := am_kq51 36 _ _ _ rfl
theorem k51_66 : am_at 51 66 = some (.iastore, 67) := am_kq51 37 _ _ _ rfl
theorem k51_67 : am_at 51 67 = some (.aload 0, 68) := am_kq51 38 _ _ _ rfl
theorem k51_68 : am_at 51 68 = some (.iload 1, 69) := am_kq51 39 _ _ _ rfl
theorem k51_69 : am_at 51 69 = some (.invokestatic 50, 72) := am_kq51 40 _ _ _ rfl
theorem k51_72 : am_at 51 72 = some (.iload 3, 73) := am_kq51 41 _ _ _ rfl
theorem k51_73 : am_at 51 73 = some (.ireturn, 74) := am_kq51 42 _ _ _ rfl
set_option maxRecDepth 20000 in
theorem am_kq52 (i pc : Nat) (x : Instr) (nx : Nat) (hi : am_t52[i]? = some (pc, x, nx)) : am_at 52 pc = some (x, nx) := am_kB 52 am_t52 rfl (by decide +kernel) i pc x nx hi
theorem k52_0 : am_at 52 0 = some (.iload 1, 1) := am_kq52 0 _ _ _ rfl
theorem k52_1 : am_at 52 1 = some (.bipush 0, 2) := am_kq52 1 _ _ _ rfl
theorem k52_2 : am_at 52 2 = some (.bipush 11, 4) := am_kq52 2 _ _ _ rfl
theorem k52_4 : am_at 52 4 = some (.invokestatic 31, 7) := am_kq52 3 _ _ _ rfl
theorem k52_7 : am_at 52 7 = some (.ifCond .ne 21, 10) := am_kq52 4 _ _ _ rfl
theorem k52_10 : am_at 52 10 = some (.iload 1, 11) := am_kq52 5 _ _ _ rfl
theorem k52_11 : am_at 52 11 = some (.bipush 16, 13) := am_kq52 6 _ _ _ rfl
theorem k52_13 : am_at 52 13 = some (.bipush 27, 15) := am_kq52 7 _ _ _ rfl
theorem k52_15 : am_at 52 15 = some (.invokestatic 31, 18) := am_kq52 8 _ _ _ rfl
theorem k52_18 : am_at 52 18 = some (.ifCond .eq 25, 21) := am_kq52 9 _ _ _ rfl
theorem k52_21 : am_at 52 21 = some (.bipush 1, 22) := am_kq52 10 _ _ _ rfl
theorem k52_22 : am_at 52 22 = some (.goto 26, 25) := am_kq52 11 _ _ _ rfl
theorem k52_25 : am_at 52 25 = some (.bipush 0, 26) := am_kq52 12 _ _ _ rfl
theorem k52_26 : am_at 52 26 = some (.ireturn, 27) := am_kq52 13 _ _ _ rfl
set_option maxRecDepth 20000 in
theorem am_kq53 (i pc : Nat) (x : Instr) (nx : Nat) (hi : am_t53[i]? = some (pc, x, nx)) : am_at 53 pc = some (x, nx) := am_kB 53 am_t53 rfl (by decide +kernel) i pc x nx hi
theorem k53_0 : am_at 53 0 = some (.iload 1, 1) := am_kq53 0 _ _ _ rfl
theorem k53_1 : am_at 53 1 = some (.bipush 12, 3) := am_kq53 1 _ _ _ rfl
theorem k53_3 : am_at 53 3 = some (.if_icmp .ge 15, 6) := am_kq53 2 _ _ _ rfl
theorem k53_6 : am_at 53 6 = some (.aload 0, 7) := am_kq53 3 _ _ _ rfl
theorem k53_7 : am_at 53 7 = some (.getfield 704, 10) := am_kq53 4 _ _ _ rfl
theorem k53_10 : am_at 53 10 = some (.iload 1, 11) := am_kq53 5 _ _ _ rfl
theorem k53_11 : am_at 53 11 = some (.baload, 12) := am_kq53 6 _ _ _ rfl
theorem k53_12 : am_at 53 12 = some (.goto 23, 15) := am_kq53 7 _ _ _ rfl
theorem k53_15 : am_at 53 15 = some (.aload 0, 16) := am_kq53 8 _ _ _ rfl
theorem k53_16 : am_at 53 16 = some (.iload 1, 17) := am_kq53 9 _ _ _ rfl
theorem k53_17 : am_at 53 17 = some (.bipush 16, 19) := am_kq53 10 _ _ _ rfl
theorem k53_19 : am_at 53 19 = some (.isub, 20) := am_kq53 11 _ _ _ rfl
theorem k53_20 : am_at 53 20 = some (.invokestatic 33, 23) := am_kq53 12 _ _ _ rfl
theorem k53_23 : am_at 53 23 = some (.ireturn, 24) := am_kq53 13 _ _ _ rfl
set_option maxRecDepth 20000 in
theorem am_kq54 (i pc : Nat) (x : Instr) (nx : Nat) (hi : am_t54[i]? = some (pc, x, nx)) : am_at 54 pc = some (x, nx) := am_kB 54 am_t54 rfl (by decide +kernel) i pc x nx hi
theorem k54_0 : am_at 54 0 = some (.iload 1, 1) := am_kq54 0 _ _ _ rfl
theorem k54_1 : am_at 54 1 = some (.bipush 0, 2) := am_kq54 1 _ _ _ rfl
theorem k54_2 : am_at 54 2 = some (.bipush 4, 3) := am_kq54 2 _ _ _ rfl
theorem k54_3 : am_at 54 3 = some (.invokestatic 31, 6) := am_kq54 3 _ _ _ rfl
theorem k54_6 : am_at 54 6 = some (.ifCond .eq 56, 9) := am_kq54 4 _ _ _ rfl
theorem k54_9 : am_at 54 9 = some (.iload 2, 10) := am_kq54 5 _ _ _ rfl
theorem k54_10 : am_at 54 10 = some (.bipush 0, 11) := am_kq54 6 _ _ _ rfl
theorem k54_11 : am_at 54 11 = some (.bipush 3, 12) := am_kq54 7 _ _ _ rfl
theorem k54_12 : am_at 54 12 = some (.invokestatic 31, 15) := am_kq54 8 _ _ _ rfl
theorem k54_15 : am_at 54 15 = some (.ifCond .eq 56, 18) := am_kq54 9 _ _ _ rfl
theorem k54_18 : am_at 54 18 = some (.iload 5, 20) := am_kq54 10 _ _ _ rfl
theorem k54_20 : am_at 54 20 = some (.bipush 0, 21) := am_kq54 11 _ _ _ rfl
theorem k54_21 : am_at 54 21 = some (.bipush 7, 23) := am_kq54 12 _ _ _ rfl
theorem k54_23 : am_at 54 23 = some (.invokestatic 31, 26) := am_kq54 13 _ _ _ rfl
theorem k54_26 : am_at 54 26 = some (.ifCond .eq 56, 29) := am_kq54 14 _ _ _ rfl
theorem k54_29 : am_at 54 29 = some (.aload 0, 30) := am_kq54 15 _ _ _ rfl
theorem k54_30 : am_at 54 30 = some (.iload 3, 31) := am_kq54 16 _ _ _ rfl
theorem k54_31 : am_at 54 31 = some (.invokestatic 52, 34) := am_kq54 17 _ _ _ rfl
theorem k54_34 : am_at 54 34 = some (.ifCond .eq 56, 37) := am_kq54 18 _ _ _ rfl
theorem k54_37 : am_at 54 37 = some (.aload 0, 38) := am_kq54 19 _ _ _ rfl
theorem k54_38 : am_at 54 38 = some (.getfield 716, 41) := am_kq54 20 _ _ _ rfl
theorem k54_41 : am_at 54 41 = some (.iload 1, 42) := am_kq54 21 _ _ _ rfl
theorem k54_42 : am_at 54 42 = some (.iaload, 43) := am_kq54 22 _ _ _ rfl
theorem k54_43 : am_at 54 43 = some (.bipush 2, 44) := am_kq54 23 _ _ _ rfl
theorem k54_44 : am_at 54 44 = some (.if_icmp .ne 58, 47) := am_kq54 24 _ _ _ rfl
theorem k54_47 : am_at 54 47 = some (.aload 0, 48) := am_kq54 25 _ _ _ rfl
theorem k54_48 : am_at 54 48 = some (.iload 4, 50) := am_kq54 26 _ _ _ rfl
theorem k54_50 : am_at 54 50 = some (.invokestatic 52, 53) := am_kq54 27 _ _ _ rfl
theorem k54_53 : am_at 54 53 = some (.ifCond .ne 58, 56) := am_kq54 28 _ _ _ rfl
theorem k54_56 : am_at 54 56 = some (.bipush (-1), 57) := am_kq54 29 _ _ _ rfl
theorem k54_57 : am_at 54 57 = some (.ireturn, 58) := am_kq54 30 _ _ _ rfl
theorem k54_58 : am_at 54 58 = some (.aload 0, 59) := am_kq54 31 _ _ _ rfl
theorem k54_59 : am_at 54 59 = some (.getfield 716, 62) := am_kq54 32 _ _ _ rfl
theorem k54_62 : am_at 54 62 = some (.iload 1, 63) := am_kq54 33 _ _ _ rfl
theorem k54_63 : am_at 54 63 = some (.iaload, 64) := am_kq54 34 _ _ _ rfl
theorem k54_64 : am_at 54 64 = some (.ifCond .eq 94, 67) := am_kq54 35 _ _ _ rfl
theorem k54_67 : am_at 54 67 = some (.aload 0, 68) := am_kq54 36 _ _ _ rfl
theorem k54_68 : am_at 54 68 = some (.iload 3, 69) := am_kq54 37 _ _ _ rfl
theorem k54_69 : am_at 54 69 = some (.invokestatic 53, 72) := am_kq54 38 _ _ _ rfl
theorem k54_72 : am_at 54 72 = some (.ifCond .eq 94, 75) := am_kq54 39 _ _ _ rfl
theorem k54_75 : am_at 54 75 = some (.aload 0, 76) := am_kq54 40 _ _ _ rfl
theorem k54_76 : am_at 54 76 = some (.getfield 716, 79) := am_kq54 41 _ _ _ rfl
theorem k54_79 : am_at 54 79 = some (.iload 1, 80) := am_kq54 42 _ _ _ rfl
theorem k54_80 : am_at 54 80 = some (.iaload, 81) := am_kq54 43 _ _ _ rfl
theorem k54_81 : am_at 54 81 = some (.bipush 2, 82) := am_kq54 44 _ _ _ rfl
theorem k54_82 : am_at 54 82 = some (.if_icmp .ne 97, 85) := am_kq54 45 _ _ _ rfl
theorem k54_85 : am_at 54 85 = some (.aload 0, 86) := am_kq54 46 _ _ _ rfl
theorem k54_86 : am_at 54 86 = some (.iload 4, 88) := am_kq54 47 _ _ _ rfl
theorem k54_88 : am_at 54 88 = some (.invokestatic 53, 91) := am_kq54 48 _ _ _ rfl
theorem k54_91 : am_at 54 91 = some (.ifCond .ne 97, 94) := am_kq54 49 _ _ _ rfl
theorem k54_94 : am_at 54 94 = some (.bipush (-2), 96) := am_kq54 50 _ _ _ rfl
theorem k54_96 : am_at 54 96 = some (.ireturn, 97) := am_kq54 51 _ _ _ rfl
theorem k54_97 : am_at 54 97 = some (.aload 0, 98) := am_kq54 52 _ _ _ rfl
theorem k54_98 : am_at 54 98 = some (.getfield 716, 101) := am_kq54 53 _ _ _ rfl
theorem k54_101 : am_at 54 101 = some (.iload 1, 102) := am_kq54 54 _ _ _ rfl
theorem k54_102 : am_at 54 102 = some (.iaload, 103) := am_kq54 55 _ _ _ rfl
theorem k54_103 : am_at 54 103 = some (.bipush 2, 104) := am_kq54 56 _ _ _ rfl
theorem k54_104 : am_at 54 104 = some (.if_icmp .ne 112, 107) := am_kq54 57 _ _ _ rfl
theorem k54_107 : am_at 54 107 = some (.iload 4, 109) := am_kq54 58 _ _ _ rfl
theorem k54_109 : am_at 54 109 = some (.goto 113, 112) := am_kq54 59 _ _ _ rfl
theorem k54_112 : am_at 54 112 = some (.bipush 0, 113) := am_kq54 60 _ _ _ rfl
theorem k54_113 : am_at 54 113 = some (.istore 6, 115) := am_kq54 61 _ _ _ rfl
theorem k54_115 : am_at 54 115 = some (.bipush 16, 117) := am_kq54 62 _ _ _ rfl
theorem k54_117 : am_at 54 117 = some (.istore 7, 119) := am_kq54 63 _ _ _ rfl
theorem k54_119 : am_at 54 119 = some (.bipush 15, 121) := am_kq54 64 _ _ _ rfl
theorem k54_121 : am_at 54 121 = some (.istore 8, 123) := am_kq54 65 _ _ _ rfl
theorem k54_123 : am_at 54 123 = some (.iload 8, 125) := am_kq54 66 _ _ _ rfl
theorem k54_125 : am_at 54 125 = some (.ifCond .lt 148, 128) := am_kq54 67 _ _ _ rfl
theorem k54_128 : am_at 54 128 = some (.aload 0, 129) := am_kq54 68 _ _ _ rfl
theorem k54_129 : am_at 54 129 = some (.getfield 717, 132) := am_kq54 69 _ _ _ rfl
theorem k54_132 : am_at 54 132 = some (.iload 8, 134) := am_kq54 70 _ _ _ rfl
theorem k54_134 : am_at 54 134 = some (.iaload, 135) := am_kq54 71 _ _ _ rfl
theorem k54_135 : am_at 54 135 = some (.ifCond .ge 142, 138) := am_kq54 72 _ _ _ rfl
theorem k54_138 : am_at 54 138 = some (.iload 8, 140) := am_kq54 73 _ _ _ rfl
theorem k54_140 : am_at 54 140 = some (.istore 7, 142) := am_kq54 74 _ _ _ rfl
theorem k54_142 : am_at 54 142 = some (.iinc 8 (-1), 145) := am_kq54 75 _ _ _ rfl
theorem k54_145 : am_at 54 145 = some (.goto 123, 148) := am_kq54 76 _ _ _ rfl
theorem k54_148 : am_at 54 148 = some (.bipush 0, 149) := am_kq54 77 _ _ _ rfl
theorem k54_149 : am_at 54 149 = some (.istore 8, 151) := am_kq54 78 _ _ _ rfl
theorem k54_151 : am_at 54 151 = some (.iload 8, 153) := am_kq54 79 _ _ _ rfl
theorem k54_153 : am_at 54 153 = some (.bipush 16, 155) := am_kq54 80 _ _ _ rfl
theorem k54_155 : am_at 54 155 = some (.if_icmp .ge 213, 158) := am_kq54 81 _ _ _ rfl
theorem k54_158 : am_at 54 158 = some (.aload 0, 159) := am_kq54 82 _ _ _ rfl
theorem k54_159 : am_at 54 159 = some (.getfield 717, 162) := am_kq54 83 _ _ _ rfl
theorem k54_162 : am_at 54 162 = some (.iload 8, 164) := am_kq54 84 _ _ _ rfl
theorem k54_164 : am_at 54 164 = some (.iaload, 165) := am_kq54 85 _ _ _ rfl
theorem k54_165 : am_at 54 165 = some (.iload 1, 166) := am_kq54 86 _ _ _ rfl
theorem k54_166 : am_at 54 166 = some (.if_icmp .ne 207, 169) := am_kq54 87 _ _ _ rfl
theorem k54_169 : am_at 54 169 = some (.aload 0, 170) := am_kq54 88 _ _ _ rfl
theorem k54_170 : am_at 54 170 = some (.getfield 718, 173) := am_kq54 89 _ _ _ rfl
theorem k54_173 : am_at 54 173 = some (.iload 8, 175) := am_kq54 90 _ _ _ rfl
theorem k54_175 : am_at 54 175 = some (.iaload, 176) := am_kq54 91 _ _ _ rfl
theorem k54_176 : am_at 54 176 = some (.iload 2, 177) := am_kq54 92 _ _ _ rfl
theorem k54_177 : am_at 54 177 = some (.if_icmp .ne 207, 180) := am_kq54 93 _ _ _ rfl
theorem k54_180 : am_at 54 180 = some (.aload 0, 181) := am_kq54 94 _ _ _ rfl
theorem k54_181 : am_at 54 181 = some (.getfield 719, 184) := am_kq54 95 _ _ _ rfl
theorem k54_184 : am_at 54 184 = some (.iload 8, 186) := am_kq54 96 _ _ _ rfl
theorem k54_186 : am_at 54 186 = some (.iaload, 187) := am_kq54 97 _ _ _ rfl
theorem k54_187 : am_at 54 187 = some (.iload 3, 188) := am_kq54 98 _ _ _ rfl
theorem k54_188 : am_at 54 188 = some (.if_icmp .ne 207, 191) := am_kq54 99 _ _ _ rfl
theorem k54_191 : am_at 54 191 = some (.aload 0, 192) := am_kq54 100 _ _ _ rfl
theorem k54_192 : am_at 54 192 = some (.getfield 720, 195) := am_kq54 101 _ _ _ rfl
theorem k54_195 : am_at 54 195 = some (.iload 8, 197) := am_kq54 102 _ _ _ rfl
theorem k54_197 : am_at 54 197 = some (.iaload, 198) := am_kq54 103 _ _ _ rfl
theorem k54_198 : am_at 54 198 = some (.iload 6, 200) := am_kq54 104 _ _ _ rfl
theorem k54_200 : am_at 54 200 = some (.if_icmp .ne 207, 203) := am_kq54 105 _ _ _ rfl
theorem k54_203 : am_at 54 203 = some (.iload 8, 205) := am_kq54 106 _ _ _ rfl
theorem k54_205 : am_at 54 205 = some (.istore 7, 207) := am_kq54 107 _ _ _ rfl
theorem k54_207 : am_at 54 207 = some (.iinc 8 1, 210) := am_kq54 108 _ _ _ rfl
theorem k54_210 : am_at 54 210 = some (.goto 151, 213) := am_kq54 109 _ _ _ rfl
theorem k54_213 : am_at 54 213 = some (.iload 7, 215) := am_kq54 110 _ _ _ rfl
theorem k54_215 : am_at 54 215 = some (.bipush 16, 217) := am_kq54 111 _ _ _ rfl
theorem k54_217 : am_at 54 217 = some (.if_icmp .ne 223, 220) := am_kq54 112 _ _ _ rfl
theorem k54_220 : am_at 54 220 = some (.bipush (-3), 222) := am_kq54 113 _ _ _ rfl
theorem k54_222 : am_at 54 222 = some (.ireturn, 223) := am_kq54 114 _ _ _ rfl
theorem k54_223 : am_at 54 223 = some (.aload 0, 224) := am_kq54 115 _ _ _ rfl
theorem k54_224 : am_at 54 224 = some (.getfield 717, 227) := am_kq54 116 _ _ _ rfl
theorem k54_227 : am_at 54 227 = some (.iload 7, 229) := am_kq54 117 _ _ _ rfl
theorem k54_229 : am_at 54 229 = some (.iload 1, 230) := am_kq54 118 _ _ _ rfl
theorem k54_230 : am_at 54 230 = some (.iastore, 231) := am_kq54 119 _ _ _ rfl
theorem k54_231 : am_at 54 231 = some (.aload 0, 232) := am_kq54 120 _ _ _ rfl
theorem k54_232 : am_at 54 232 = some (.getfield 718, 235) := am_kq54 121 _ _ _ rfl
theorem k54_235 : am_at 54 235 = some (.iload 7, 237) := am_kq54 122 _ _ _ rfl
theorem k54_237 : am_at 54 237 = some (.iload 2, 238) := am_kq54 123 _ _ _ rfl
theorem k54_238 : am_at 54 238 = some (.iastore, 239) := am_kq54 124 _ _ _ rfl
theorem k54_239 : am_at 54 239 = some (.aload 0, 240) := am_kq54 125 _ _ _ rfl
theorem k54_240 : am_at 54 240 = some (.getfield 719, 243) := am_kq54 126 _ _ _ rfl
theorem k54_243 : am_at 54 243 = some (.iload 7, 245) := am_kq54 127 _ _ _ rfl
theorem k54_245 : am_at 54 245 = some (.iload 3, 246) := am_kq54 128 _ _ _ rfl
theorem k54_246 : am_at 54 246 = some (.iastore, 247) := am_kq54 129 _ _ _ rfl
theorem k54_247 : am_at 54 247 = some (.aload 0, 248) := am_kq54 130 _ _ _ rfl
theorem k54_248 : am_at 54 248 = some (.getfield 720, 251) := am_kq54 131 _ _ _ rfl
theorem k54_251 : am_at 54 251 = some (.iload 7, 253) := am_kq54 132 _ _ _ rfl
theorem k54_253 : am_at 54 253 = some (.iload 6, 255) := am_kq54 133 _ _ _ rfl
theorem k54_255 : am_at 54 255 = some (.iastore, 256) := am_kq54 134 _ _ _ rfl
theorem k54_256 : am_at 54 256 = some (.aload 0, 257) := am_kq54 135 _ _ _ rfl
theorem k54_257 : am_at 54 257 = some (.getfield 721, 260) := am_kq54 136 _ _ _ rfl
theorem k54_260 : am_at 54 260 = some (.iload 7, 262) := am_kq54 137 _ _ _ rfl
theorem k54_262 : am_at 54 262 = some (.iload 5, 264) := am_kq54 138 _ _ _ rfl
theorem k54_264 : am_at 54 264 = some (.iastore, 265) := am_kq54 139 _ _ _ rfl
theorem k54_265 : am_at 54 265 = some (.aload 0, 266) := am_kq54 140 _ _ _ rfl
theorem k54_266 : am_at 54 266 = some (.iload 1, 267) := am_kq54 141 _ _ _ rfl
theorem k54_267 : am_at 54 267 = some (.invokestatic 50, 270) := am_kq54 142 _ _ _ rfl
theorem k54_270 : am_at 54 270 = some (.iload 7, 272) := am_kq54 143 _ _ _ rfl
theorem k54_272 : am_at 54 272 = some (.ireturn, 273) := am_kq54 144 _ _ _ rfl
set_option maxRecDepth 20000 in
theorem am_kq55 (i pc : Nat) (x : Instr) (nx : Nat) (hi : am_t55[i]? = some (pc, x, nx)) : am_at 55 pc = some (x, nx) := am_kB 55 am_t55 rfl (by decide +kernel) i pc x nx hi
theorem k55_0 : am_at 55 0 = some (.iload 1, 1) := am_kq55 0 _ _ _ rfl
theorem k55_1 : am_at 55 1 = some (.bipush 0, 2) := am_kq55 1 _ _ _ rfl
theorem k55_2 : am_at 55 2 = some (.bipush 15, 4) := am_kq55 2 _ _ _ rfl
theorem k55_4 : am_at 55 4 = some (.invokestatic 31, 7) := am_kq55 3 _ _ _ rfl
theorem k55_7 : am_at 55 7 = some (.ifCond .eq 19, 10) := am_kq55 4 _ _ _ rfl
theorem k55_10 : am_at 55 10 = some (.aload 0, 11) := am_kq55 5 _ _ _ rfl
theorem k55_11 : am_at 55 11 = some (.getfield 717, 14) := am_kq55 6 _ _ _ rfl
theorem k55_14 : am_at 55 14 = some (.iload 1, 15) := am_kq55 7 _ _ _ rfl
theorem k55_15 : am_at 55 15 = some (.iaload, 16) := am_kq55 8 _ _ _ rfl
theorem k55_16 : am_at 55 16 = some (.ifCond .ge 22, 19) := am_kq55 9 _ _ _ rfl
theorem k55_19 : am_at 55 19 = some (.bipush (-2), 21) := am_kq55 10 _ _ _ rfl
theorem k55_21 : am_at 55 21 = some (.ireturn, 22) := am_kq55 11 _ _ _ rfl
theorem k55_22 : am_at 55 22 = some (.aload 0, 23) := am_kq55 12 _ _ _ rfl
theorem k55_23 : am_at 55 23 = some (.getfield 717, 26) := am_kq55 13 _ _ _ rfl
theorem k55_26 : am_at 55 26 = some (.iload 1, 27) := am_kq55 14 _ _ _ rfl
theorem k55_27 : am_at 55 27 = some (.iaload, 28) := am_kq55 15 _ _ _ rfl
theorem k55_28 : am_at 55 28 = some (.istore 2, 29) := am_kq55 16 _ _ _ rfl
theorem k55_29 : am_at 55 29 = some (.aload 0, 30) := am_kq55 17 _ _ _ rfl
theorem k55_30 : am_at 55 30 = some (.getfield 717, 33) := am_kq55 18 _ _ _ rfl
theorem k55_33 : am_at 55 33 = some (.iload 1, 34) := am_kq55 19 _ _ _ rfl
theorem k55_34 : am_at 55 34 = some (.bipush (-1), 35) := am_kq55 20 _ _ _ rfl
theorem k55_35 : am_at 55 35 = some (.iastore, 36) := am_kq55 21 _ _ _ rfl
theorem k55_36 : am_at 55 36 = some (.aload 0, 37) := am_kq55 22 _ _ _ rfl
theorem k55_37 : am_at 55 37 = some (.iload 2, 38) := am_kq55 23 _ _ _ rfl
theorem k55_38 : am_at 55 38 = some (.invokestatic 50, 41) := am_kq55 24 _ _ _ rfl
theorem k55_41 : am_at 55 41 = some (.iload 2, 42) := am_kq55 25 _ _ _ rfl
theorem k55_42 : am_at 55 42 = some (.ireturn, 43) := am_kq55 26 _ _ _ rfl
set_option maxRecDepth 20000 in
theorem am_kq56 (i pc : Nat) (x : Instr) (nx : Nat) (hi : am_t56[i]? = some (pc, x, nx)) : am_at 56 pc = some (x, nx) := am_kB 56 am_t56 rfl (by decide +kernel) i pc x nx hi
theorem k56_0 : am_at 56 0 = some (.iload 1, 1) := am_kq56 0 _ _ _ rfl
theorem k56_1 : am_at 56 1 = some (.bipush 0, 2) := am_kq56 1 _ _ _ rfl
theorem k56_2 : am_at 56 2 = some (.bipush 7, 4) := am_kq56 2 _ _ _ rfl
theorem k56_4 : am_at 56 4 = some (.invokestatic 31, 7) := am_kq56 3 _ _ _ rfl
theorem k56_7 : am_at 56 7 = some (.ifCond .eq 69, 10) := am_kq56 4 _ _ _ rfl
theorem k56_10 : am_at 56 10 = some (.iload 2, 11) := am_kq56 5 _ _ _ rfl
theorem k56_11 : am_at 56 11 = some (.bipush 0, 12) := am_kq56 6 _ _ _ rfl
theorem k56_12 : am_at 56 12 = some (.bipush 9, 14) := am_kq56 7 _ _ _ rfl
theorem k56_14 : am_at 56 14 = some (.invokestatic 31, 17) := am_kq56 8 _ _ _ rfl
theorem k56_17 : am_at 56 17 = some (.ifCond .eq 69, 20) := am_kq56 9 _ _ _ rfl
theorem k56_20 : am_at 56 20 = some (.iload 2, 21) := am_kq56 10 _ _ _ rfl
theorem k56_21 : am_at 56 21 = some (.bipush 2, 22) := am_kq56 11 _ _ _ rfl
theorem k56_22 : am_at 56 22 = some (.bipush 3, 23) := am_kq56 12 _ _ _ rfl
theorem k56_23 : am_at 56 23 = some (.invokestatic 31, 26) := am_kq56 13 _ _ _ rfl
theorem k56_26 : am_at 56 26 = some (.ifCond .eq 38, 29) := am_kq56 14 _ _ _ rfl
theorem k56_29 : am_at 56 29 = some (.iload 3, 30) := am_kq56 15 _ _ _ rfl
theorem k56_30 : am_at 56 30 = some (.bipush 0, 31) := am_kq56 16 _ _ _ rfl
theorem k56_31 : am_at 56 31 = some (.bipush 5, 32) := am_kq56 17 _ _ _ rfl
theorem k56_32 : am_at 56 32 = some (.invokestatic 31, 35) := am_kq56 18 _ _ _ rfl
theorem k56_35 : am_at 56 35 = some (.ifCond .eq 69, 38) := am_kq56 19 _ _ _ rfl
theorem k56_38 : am_at 56 38 = some (.iload 2, 39) := am_kq56 20 _ _ _ rfl
theorem k56_39 : am_at 56 39 = some (.bipush 7, 41) := am_kq56 21 _ _ _ rfl
theorem k56_41 : am_at 56 41 = some (.if_icmp .ne 53, 44) := am_kq56 22 _ _ _ rfl
theorem k56_44 : am_at 56 44 = some (.iload 3, 45) := am_kq56 23 _ _ _ rfl
theorem k56_45 : am_at 56 45 = some (.bipush 0, 46) := am_kq56 24 _ _ _ rfl
theorem k56_46 : am_at 56 46 = some (.bipush 4, 47) := am_kq56 25 _ _ _ rfl
theorem k56_47 : am_at 56 47 = some (.invokestatic 31, 50) := am_kq56 26 _ _ _ rfl
theorem k56_50 : am_at 56 50 = some (.ifCond .eq 69, 53) := am_kq56 27 _ _ _ rfl
theorem k56_53 : am_at 56 53 = some (.iload 2, 54) := am_kq56 28 _ _ _ rfl
theorem k56_54 : am_at 56 54 = some (.bipush 8, 56) := am_kq56 29 _ _ _ rfl
theorem k56_56 : am_at 56 56 = some (.if_icmp .ne 71, 59) := am_kq56 30 _ _ _ rfl
theorem k56_59 : am_at 56 59 = some (.iload 3, 60) := am_kq56 31 _ _ _ rfl
theorem k56_60 : am_at 56 60 = some (.bipush 0, 61) := am_kq56 32 _ _ _ rfl
theorem k56_61 : am_at 56 61 = some (.bipush 11, 63) := am_kq56 33 _ _ _ rfl
theorem k56_63 : am_at 56 63 = some (.invokestatic 31, 66) := am_kq56 34 _ _ _ rfl
theorem k56_66 : am_at 56 66 = some (.ifCond .ne 71, 69) := am_kq56 35 _ _ _ rfl
theorem k56_69 : am_at 56 69 = some (.bipush (-1), 70) := am_kq56 36 _ _ _ rfl
theorem k56_70 : am_at 56 70 = some (.ireturn, 71) := am_kq56 37 _ _ _ rfl
theorem k56_71 : am_at 56 71 = some (.aload 0, 72) := am_kq56 38 _ _ _ rfl
theorem k56_72 : am_at 56 72 = some (.getfield 724, 75) := am_kq56 39 _ _ _ rfl
theorem k56_75 : am_at 56 75 = some (.iload 1, 76) := am_kq56 40 _ _ _ rfl
theorem k56_76 : am_at 56 76 = some (.iaload, 77) := am_kq56 41 _ _ _ rfl
theorem k56_77 : am_at 56 77 = some (.bipush 8, 79) := am_kq56 42 _ _ _ rfl
theorem k56_79 : am_at 56 79 = some (.if_icmp .ne 85, 82) := am_kq56 43 _ _ _ rfl
theorem k56_82 : am_at 56 82 = some (.bipush (-3), 84) := am_kq56 44 _ _ _ rfl
theorem k56_84 : am_at 56 84 = some (.ireturn, 85) := am_kq56 45 _ _ _ rfl
theorem k56_85 : am_at 56 85 = some (.aload 0, 86) := am_kq56 46 _ _ _ rfl
theorem k56_86 : am_at 56 86 = some (.getfield 722, 89) := am_kq56 47 _ _ _ rfl
theorem k56_89 : am_at 56 89 = some (.bipush 8, 91) := am_kq56 48 _ _ _ rfl
theorem k56_91 : am_at 56 91 = some (.iload 1, 92) := am_kq56 49 _ _ _ rfl
theorem k56_92 : am_at 56 92 = some (.imul, 93) := am_kq56 50 _ _ _ rfl
theorem k56_93 : am_at 56 93 = some (.aload 0, 94) := am_kq56 51 _ _ _ rfl
theorem k56_94 : am_at 56 94 = some (.getfield 724, 97) := am_kq56 52 _ _ _ rfl
theorem k56_97 : am_at 56 97 = some (.iload 1, 98) := am_kq56 53 _ _ _ rfl
theorem k56_98 : am_at 56 98 = some (.iaload, 99) := am_kq56 54 _ _ _ rfl
theorem k56_99 : am_at 56 99 = some (.iadd, 100) := am_kq56 55 _ _ _ rfl
theorem k56_100 : am_at 56 100 = some (.iload 2, 101) := am_kq56 56 _ _ _ rfl
theorem k56_101 : am_at 56 101 = some (.iastore, 102) := am_kq56 57 _ _ _ rfl
theorem k56_102 : am_at 56 102 = some (.aload 0, 103) := am_kq56 58 _ _ _ rfl
theorem k56_103 : am_at 56 103 = some (.getfield 723, 106) := am_kq56 59 _ _ _ rfl
theorem k56_106 : am_at 56 106 = some (.bipush 8, 108) := am_kq56 60 _ _ _ rfl
theorem k56_108 : am_at 56 108 = some (.iload 1, 109) := am_kq56 61 _ _ _ rfl
theorem k56_109 : am_at 56 109 = some (.imul, 110) := am_kq56 62 _ _ _ rfl
theorem k56_110 : am_at 56 110 = some (.aload 0, 111) := am_kq56 63 _ _ _ rfl
theorem k56_111 : am_at 56 111 = some (.getfield 724, 114) := am_kq56 64 _ _ _ rfl
theorem k56_114 : am_at 56 114 = some (.iload 1, 115) := am_kq56 65 _ _ _ rfl
theorem k56_115 : am_at 56 115 = some (.iaload, 116) := am_kq56 66 _ _ _ rfl
theorem k56_116 : am_at 56 116 = some (.iadd, 117) := am_kq56 67 _ _ _ rfl
theorem k56_117 : am_at 56 117 = some (.iload 3, 118) := am_kq56 68 _ _ _ rfl
theorem k56_118 : am_at 56 118 = some (.iastore, 119) := am_kq56 69 _ _ _ rfl
theorem k56_119 : am_at 56 119 = some (.aload 0, 120) := am_kq56 70 _ _ _ rfl
theorem k56_120 : am_at 56 120 = some (.getfield 724, 123) := am_kq56 71 _ _ _ rfl
theorem k56_123 : am_at 56 123 = some (.iload 1, 124) := am_kq56 72 _ _ _ rfl
theorem k56_124 : am_at 56 124 = some (.dup2, 125) := am_kq56 73 _ _ _ rfl
theorem k56_125 : am_at 56 125 = some (.iaload, 126) := am_kq56 74 _ _ _ rfl
theorem k56_126 : am_at 56 126 = some (.bipush 1, 127) := am_kq56 75 _ _ _ rfl
theorem k56_127 : am_at 56 127 = some (.iadd, 128) := am_kq56 76 _ _ _ rfl
theorem k56_128 : am_at 56 128 = some (.dup_x2, 129) := am_kq56 77 _ _ _ rfl
theorem k56_129 : am_at 56 129 = some (.iastore, 130) := am_kq56 78 _ _ _ rfl
theorem k56_130 : am_at 56 130 = some (.ireturn, 131) := am_kq56 79 _ _ _ rfl
set_option maxRecDepth 20000 in
theorem am_kq57 (i pc : Nat) (x : Instr) (nx : Nat) (hi : am_t57[i]? = some (pc, x, nx)) : am_at 57 pc = some (x, nx) := am_kB 57 am_t57 rfl (by decide +kernel) i pc x nx hi
theorem k57_0 : am_at 57 0 = some (.iload 1, 1) := am_kq57 0 _ _ _ rfl
theorem k57_1 : am_at 57 1 = some (.bipush 0, 2) := am_kq57 1 _ _ _ rfl
theorem k57_2 : am_at 57 2 = some (.bipush 7, 4) := am_kq57 2 _ _ _ rfl
theorem k57_4 : am_at 57 4 = some (.invokestatic 31, 7) := am_kq57 3 _ _ _ rfl
theorem k57_7 : am_at 57 7 = some (.ifCond .ne 12, 10) := am_kq57 4 _ _ _ rfl
theorem k57_10 : am_at 57 10 = some (.bipush (-1), 11) := am_kq57 5 _ _ _ rfl
theorem k57_11 : am_at 57 11 = some (.ireturn, 12) := am_kq57 6 _ _ _ rfl
theorem k57_12 : am_at 57 12 = some (.aload 0, 13) := am_kq57 7 _ _ _ rfl
theorem k57_13 : am_at 57 13 = some (.getfield 724, 16) := am_kq57 8 _ _ _ rfl
theorem k57_16 : am_at 57 16 = some (.iload 1, 17) := am_kq57 9 _ _ _ rfl
theorem k57_17 : am_at 57 17 = some (.iaload, 18) := am_kq57 10 _ _ _ rfl
theorem k57_18 : am_at 57 18 = some (.istore 2, 19) := am_kq57 11 _ _ _ rfl
theorem k57_19 : am_at 57 19 = some (.aload 0, 20) := am_kq57 12 _ _ _ rfl
theorem k57_20 : am_at 57 20 = some (.getfield 724, 23) := am_kq57 13 _ _ _ rfl
theorem k57_23 : am_at 57 23 = some (.iload 1, 24) := am_kq57 14 _ _ _ rfl
theorem k57_24 : am_at 57 24 = some (.bipush 0, 25) := am_kq57 15 _ _ _ rfl
theorem k57_25 : am_at 57 25 = some (.iastore, 26) := am_kq57 16 _ _ _ rfl
theorem k57_26 : am_at 57 26 = some (.iload 2, 27) := am_kq57 17 _ _ _ rfl
theorem k57_27 : am_at 57 27 = some (.ireturn, 28) := am_kq57 18 _ _ _ rfl
set_option maxRecDepth 20000 in
theorem am_kq58 (i pc : Nat) (x : Instr) (nx : Nat) (hi : am_t58[i]? = some (pc, x, nx)) : am_at 58 pc = some (x, nx) := am_kB 58 am_t58 rfl (by decide +kernel) i pc x nx hi
theorem k58_0 : am_at 58 0 = some (.iload 1, 1) := am_kq58 0 _ _ _ rfl
theorem k58_1 : am_at 58 1 = some (.bipush 12, 3) := am_kq58 1 _ _ _ rfl
theorem k58_3 : am_at 58 3 = some (.if_icmp .ge 20, 6) := am_kq58 2 _ _ _ rfl
theorem k58_6 : am_at 58 6 = some (.aload 0, 7) := am_kq58 3 _ _ _ rfl
theorem k58_7 : am_at 58 7 = some (.aload 0, 8) := am_kq58 4 _ _ _ rfl
theorem k58_8 : am_at 58 8 = some (.getfield 712, 11) := am_kq58 5 _ _ _ rfl
theorem k58_11 : am_at 58 11 = some (.iload 2, 12) := am_kq58 6 _ _ _ rfl
theorem k58_12 : am_at 58 12 = some (.iaload, 13) := am_kq58 7 _ _ _ rfl
theorem k58_13 : am_at 58 13 = some (.iload 1, 14) := am_kq58 8 _ _ _ rfl
theorem k58_14 : am_at 58 14 = some (.invokestatic 35, 17) := am_kq58 9 _ _ _ rfl
theorem k58_17 : am_at 58 17 = some (.goto 33, 20) := am_kq58 10 _ _ _ rfl
theorem k58_20 : am_at 58 20 = some (.iload 1, 21) := am_kq58 11 _ _ _ rfl
theorem k58_21 : am_at 58 21 = some (.bipush 16, 23) := am_kq58 12 _ _ _ rfl
theorem k58_23 : am_at 58 23 = some (.isub, 24) := am_kq58 13 _ _ _ rfl
theorem k58_24 : am_at 58 24 = some (.iload 2, 25) := am_kq58 14 _ _ _ rfl
theorem k58_25 : am_at 58 25 = some (.if_icmp .ne 32, 28) := am_kq58 15 _ _ _ rfl
theorem k58_28 : am_at 58 28 = some (.bipush 1, 29) := am_kq58 16 _ _ _ rfl
theorem k58_29 : am_at 58 29 = some (.goto 33, 32) := am_kq58 17 _ _ _ rfl
theorem k58_32 : am_at 58 32 = some (.bipush 0, 33) := am_kq58 18 _ _ _ rfl
theorem k58_33 : am_at 58 33 = some (.ireturn, 34) := am_kq58 19 _ _ _ rfl
set_option maxRecDepth 20000 in
theorem am_kq59 (i pc : Nat) (x : Instr) (nx : Nat) (hi : am_t59[i]? = some (pc, x, nx)) : am_at 59 pc = some (x, nx) := am_kB 59 am_t59 rfl (by decide +kernel) i pc x nx hi
theorem k59_0 : am_at 59 0 = some (.iload 1, 1) := am_kq59 0 _ _ _ rfl
theorem k59_1 : am_at 59 1 = some (.bipush 12, 3) := am_kq59 1 _ _ _ rfl
theorem k59_3 : am_at 59 3 = some (.if_icmp .ge 22, 6) := am_kq59 2 _ _ _ rfl
theorem k59_6 : am_at 59 6 = some (.bipush 1, 7) := am_kq59 3 _ _ _ rfl
theorem k59_7 : am_at 59 7 = some (.aload 0, 8) := am_kq59 4 _ _ _ rfl
theorem k59_8 : am_at 59 8 = some (.aload 0, 9) := am_kq59 5 _ _ _ rfl
theorem k59_9 : am_at 59 9 = some (.getfield 712, 12) := am_kq59 6 _ _ _ rfl
theorem k59_12 : am_at 59 12 = some (.iload 2, 13) := am_kq59 7 _ _ _ rfl
theorem k59_13 : am_at 59 13 = some (.iaload, 14) := am_kq59 8 _ _ _ rfl
theorem k59_14 : am_at 59 14 = some (.iload 1, 15) := am_kq59 9 _ _ _ rfl
theorem k59_15 : am_at 59 15 = some (.invokestatic 34, 18) := am_kq59 10 _ _ _ rfl
theorem k59_18 : am_at 59 18 = some (.iadd, 19) := am_kq59 11 _ _ _ rfl
theorem k59_19 : am_at 59 19 = some (.goto 23, 22) := am_kq59 12 _ _ _ rfl
theorem k59_22 : am_at 59 22 = some (.bipush 0, 23) := am_kq59 13 _ _ _ rfl
theorem k59_23 : am_at 59 23 = some (.ireturn, 24) := am_kq59 14 _ _ _ rfl
set_option maxRecDepth 20000 in
theorem am_kq60 (i pc : Nat) (x : Instr) (nx : Nat) (hi : am_t60[i]? = some (pc, x, nx)) : am_at 60 pc = some (x, nx) := am_kB 60 am_t60 rfl (by decide +kernel) i pc x nx hi
theorem k60_0 : am_at 60 0 = some (.bipush 0, 1) := am_kq60 0 _ _ _ rfl
theorem k60_1 : am_at 60 1 = some (.istore 4, 3) := am_kq60 1 _ _ _ rfl
theorem k60_3 : am_at 60 3 = some (.bipush 0, 4) := am_kq60 2 _ _ _ rfl
theorem k60_4 : am_at 60 4 = some (.istore 5, 6) := am_kq60 3 _ _ _ rfl
theorem k60_6 : am_at 60 6 = some (.iload 5, 8) := am_kq60 4 _ _ _ rfl
theorem k60_8 : am_at 60 8 = some (.bipush 4, 9) := am_kq60 5 _ _ _ rfl
theorem k60_9 : am_at 60 9 = some (.if_icmp .ge 33, 12) := am_kq60 6 _ _ _ rfl
theorem k60_12 : am_at 60 12 = some (.aload 0, 13) := am_kq60 7 _ _ _ rfl
theorem k60_13 : am_at 60 13 = some (.getfield 727, 16) := am_kq60 8 _ _ _ rfl
theorem k60_16 : am_at 60 16 = some (.bipush 4, 17) := am_kq60 9 _ _ _ rfl
theorem k60_17 : am_at 60 17 = some (.aload 0, 18) := am_kq60 10 _ _ _ rfl
theorem k60_18 : am_at 60 18 = some (.getfield 742, 21) := am_kq60 11 _ _ _ rfl
theorem k60_21 : am_at 60 21 = some (.imul, 22) := am_kq60 12 _ _ _ rfl
theorem k60_22 : am_at 60 22 = some (.iload 5, 24) := am_kq60 13 _ _ _ rfl
theorem k60_24 : am_at 60 24 = some (.iadd, 25) := am_kq60 14 _ _ _ rfl
theorem k60_25 : am_at 60 25 = some (.bipush 0, 26) := am_kq60 15 _ _ _ rfl
theorem k60_26 : am_at 60 26 = some (.iastore, 27) := am_kq60 16 _ _ _ rfl
theorem k60_27 : am_at 60 27 = some (.iinc 5 1, 30) := am_kq60 17 _ _ _ rfl
theorem k60_30 : am_at 60 30 = some (.goto 6, 33) := am_kq60 18 _ _ _ rfl
theorem k60_33 : am_at 60 33 = some (.bipush 0, 34) := am_kq60 19 _ _ _ rfl
theorem k60_34 : am_at 60 34 = some (.istore 5, 36) := am_kq60 20 _ _ _ rfl
theorem k60_36 : am_at 60 36 = some (.iload 5, 38) := am_kq60 21 _ _ _ rfl
theorem k60_38 : am_at 60 38 = some (.bipush 16, 40) := am_kq60 22 _ _ _ rfl
theorem k60_40 : am_at 60 40 = some (.if_icmp .ge 155, 43) := am_kq60 23 _ _ _ rfl
theorem k60_43 : am_at 60 43 = some (.aload 0, 44) := am_kq60 24 _ _ _ rfl
theorem k60_44 : am_at 60 44 = some (.getfield 717, 47) := am_kq60 25 _ _ _ rfl
theorem k60_47 : am_at 60 47 = some (.iload 5, 49) := am_kq60 26 _ _ _ rfl
theorem k60_49 : am_at 60 49 = some (.iaload, 50) := am_kq60 27 _ _ _ rfl
theorem k60_50 : am_at 60 50 = some (.iload 1, 51) := am_kq60 28 _ _ _ rfl
theorem k60_51 : am_at 60 51 = some (.if_icmp .ne 149, 54) := am_kq60 29 _ _ _ rfl
theorem k60_54 : am_at 60 54 = some (.aload 0, 55) := am_kq60 30 _ _ _ rfl
theorem k60_55 : am_at 60 55 = some (.aload 0, 56) := am_kq60 31 _ _ _ rfl
theorem k60_56 : am_at 60 56 = some (.getfield 719, 59) := am_kq60 32 _ _ _ rfl
theorem k60_59 : am_at 60 59 = some (.iload 5, 61) := am_kq60 33 _ _ _ rfl
theorem k60_61 : am_at 60 61 = some (.iaload, 62) := am_kq60 34 _ _ _ rfl
theorem k60_62 : am_at 60 62 = some (.iload 2, 63) := am_kq60 35 _ _ _ rfl
theorem k60_63 : am_at 60 63 = some (.invokestatic 58, 66) := am_kq60 36 _ _ _ rfl
theorem k60_66 : am_at 60 66 = some (.ifCond .eq 149, 69) := am_kq60 37 _ _ _ rfl
theorem k60_69 : am_at 60 69 = some (.aload 0, 70) := am_kq60 38 _ _ _ rfl
theorem k60_70 : am_at 60 70 = some (.getfield 716, 73) := am_kq60 39 _ _ _ rfl
theorem k60_73 : am_at 60 73 = some (.iload 1, 74) := am_kq60 40 _ _ _ rfl
theorem k60_74 : am_at 60 74 = some (.iaload, 75) := am_kq60 41 _ _ _ rfl
theorem k60_75 : am_at 60 75 = some (.bipush 2, 76) := am_kq60 42 _ _ _ rfl
theorem k60_76 : am_at 60 76 = some (.if_icmp .ne 97, 79) := am_kq60 43 _ _ _ rfl
theorem k60_79 : am_at 60 79 = some (.aload 0, 80) := am_kq60 44 _ _ _ rfl
theorem k60_80 : am_at 60 80 = some (.aload 0, 81) := am_kq60 45 _ _ _ rfl
theorem k60_81 : am_at 60 81 = some (.getfield 720, 84) := am_kq60 46 _ _ _ rfl
theorem k60_84 : am_at 60 84 = some (.iload 5, 86) := am_kq60 47 _ _ _ rfl
theorem k60_86 : am_at 60 86 = some (.iaload, 87) := am_kq60 48 _ _ _ rfl
theorem k60_87 : am_at 60 87 = some (.iload 3, 88) := am_kq60 49 _ _ _ rfl
theorem k60_88 : am_at 60 88 = some (.invokestatic 58, 91) := am_kq60 50 _ _ _ rfl
theorem k60_91 : am_at 60 91 = some (.ifCond .ne 97, 94) := am_kq60 51 _ _ _ rfl
theorem k60_94 : am_at 60 94 = some (.goto 149, 97) := am_kq60 52 _ _ _ rfl
theorem k60_97 : am_at 60 97 = some (.iload 4, 99) := am_kq60 53 _ _ _ rfl
theorem k60_99 : am_at 60 99 = some (.aload 0, 100) := am_kq60 54 _ _ _ rfl
theorem k60_100 : am_at 60 100 = some (.getfield 719, 103) := am_kq60 55 _ _ _ rfl
theorem k60_103 : am_at 60 103 = some (.iload 5, 105) := am_kq60 56 _ _ _ rfl
theorem k60_105 : am_at 60 105 = some (.iaload, 106) := am_kq60 57 _ _ _ rfl
theorem k60_106 : am_at 60 106 = some (.bipush 15, 108) := am_kq60 58 _ _ _ rfl
theorem k60_108 : am_at 60 108 = some (.if_icmp .gt 133, 111) := am_kq60 59 _ _ _ rfl
theorem k60_111 : am_at 60 111 = some (.aload 0, 112) := am_kq60 60 _ _ _ rfl
theorem k60_112 : am_at 60 112 = some (.getfield 716, 115) := am_kq60 61 _ _ _ rfl
theorem k60_115 : am_at 60 115 = some (.iload 1, 116) := am_kq60 62 _ _ _ rfl
theorem k60_116 : am_at 60 116 = some (.iaload, 117) := am_kq60 63 _ _ _ rfl
theorem k60_117 : am_at 60 117 = some (.bipush 2, 118) := am_kq60 64 _ _ _ rfl
theorem k60_118 : am_at 60 118 = some (.if_icmp .ne 137, 121) := am_kq60 65 _ _ _ rfl
theorem k60_121 : am_at 60 121 = some (.aload 0, 122) := am_kq60 66 _ _ _ rfl
theorem k60_122 : am_at 60 122 = some (.getfield 720, 125) := am_kq60 67 _ _ _ rfl
theorem k60_125 : am_at 60 125 = some (.iload 5, 127) := am_kq60 68 _ _ _ rfl
theorem k60_127 : am_at 60 127 = some (.iaload, 128) := am_kq60 69 _ _ _ rfl
theorem k60_128 : am_at 60 128 = some (.bipush 15, 130) := am_kq60 70 _ _ _ rfl
theorem k60_130 : am_at 60 130 = some (.if_icmp .le 137, 133) := am_kq60 71 _ _ _ rfl
theorem k60_133 : am_at 60 133 = some (.bipush 1, 134) := am_kq60 72 _ _ _ rfl
theorem k60_134 : am_at 60 134 = some (.goto 138, 137) := am_kq60 73 _ _ _ rfl
theorem k60_137 : am_at 60 137 = some (.bipush 0, 138) := am_kq60 74 _ _ _ rfl
theorem k60_138 : am_at 60 138 = some (.ior, 139) := am_kq60 75 _ _ _ rfl
theorem k60_139 : am_at 60 139 = some (.istore 4, 141) := am_kq60 76 _ _ _ rfl
theorem k60_141 : am_at 60 141 = some (.aload 0, 142) := am_kq60 77 _ _ _ rfl
theorem k60_142 : am_at 60 142 = some (.iload 5, 144) := am_kq60 78 _ _ _ rfl
theorem k60_144 : am_at 60 144 = some (.iload 2, 145) := am_kq60 79 _ _ _ rfl
theorem k60_145 : am_at 60 145 = some (.iload 3, 146) := am_kq60 80 _ _ _ rfl
theorem k60_146 : am_at 60 146 = some (.invokestatic 61, 149) := am_kq60 81 _ _ _ rfl
theorem k60_149 : am_at 60 149 = some (.iinc 5 1, 152) := am_kq60 82 _ _ _ rfl
theorem k60_152 : am_at 60 152 = some (.goto 36, 155) := am_kq60 83 _ _ _ rfl
theorem k60_155 : am_at 60 155 = some (.bipush 144, 158) := am_kq60 84 _ _ _ rfl
theorem k60_158 : am_at 60 158 = some (.iload 1, 159) := am_kq60 85 _ _ _ rfl
theorem k60_159 : am_at 60 159 = some (.imul, 160) := am_kq60 86 _ _ _ rfl
theorem k60_160 : am_at 60 160 = some (.bipush 12, 162) := am_kq60 87 _ _ _ rfl
theorem k60_162 : am_at 60 162 = some (.aload 0, 163) := am_kq60 88 _ _ _ rfl
theorem k60_163 : am_at 60 163 = some (.getfield 712, 166) := am_kq60 89 _ _ _ rfl
theorem k60_166 : am_at 60 166 = some (.iload 2, 167) := am_kq60 90 _ _ _ rfl
theorem k60_167 : am_at 60 167 = some (.iaload, 168) := am_kq60 91 _ _ _ rfl
theorem k60_168 : am_at 60 168 = some (.imul, 169) := am_kq60 92 _ _ _ rfl
theorem k60_169 : am_at 60 169 = some (.iadd, 170) := am_kq60 93 _ _ _ rfl
theorem k60_170 : am_at 60 170 = some (.aload 0, 171) := am_kq60 94 _ _ _ rfl
theorem k60_171 : am_at 60 171 = some (.getfield 716, 174) := am_kq60 95 _ _ _ rfl
theorem k60_174 : am_at 60 174 = some (.iload 1, 175) := am_kq60 96 _ _ _ rfl
theorem k60_175 : am_at 60 175 = some (.iaload, 176) := am_kq60 97 _ _ _ rfl
theorem k60_176 : am_at 60 176 = some (.bipush 2, 177) := am_kq60 98 _ _ _ rfl
theorem k60_177 : am_at 60 177 = some (.if_icmp .ne 189, 180) := am_kq60 99 _ _ _ rfl
theorem k60_180 : am_at 60 180 = some (.aload 0, 181) := am_kq60 100 _ _ _ rfl
theorem k60_181 : am_at 60 181 = some (.getfield 712, 184) := am_kq60 101 _ _ _ rfl
theorem k60_184 : am_at 60 184 = some (.iload 3, 185) := am_kq60 102 _ _ _ rfl
theorem k60_185 : am_at 60 185 = some (.iaload, 186) := am_kq60 103 _ _ _ rfl
theorem k60_186 : am_at 60 186 = some (.goto 190, 189) := am_kq60 104 _ _ _ rfl
theorem k60_189 : am_at 60 189 = some (.bipush 0, 190) := am_kq60 105 _ _ _ rfl
theorem k60_190 : am_at 60 190 = some (.iadd, 191) := am_kq60 106 _ _ _ rfl
theorem k60_191 : am_at 60 191 = some (.istore 5, 193) := am_kq60 107 _ _ _ rfl
theorem k60_193 : am_at 60 193 = some (.bipush 0, 194) := am_kq60 108 _ _ _ rfl
theorem k60_194 : am_at 60 194 = some (.istore 6, 196) := am_kq60 109 _ _ _ rfl
theorem k60_196 : am_at 60 196 = some (.iload 4, 198) := am_kq60 110 _ _ _ rfl
theorem k60_198 : am_at 60 198 = some (.ifCond .ne 211, 201) := am_kq60 111 _ _ _ rfl
theorem k60_201 : am_at 60 201 = some (.aload 0, 202) := am_kq60 112 _ _ _ rfl
theorem k60_202 : am_at 60 202 = some (.getfield 725, 205) := am_kq60 113 _ _ _ rfl
theorem k60_205 : am_at 60 205 = some (.iload 5, 207) := am_kq60 114 _ _ _ rfl
theorem k60_207 : am_at 60 207 = some (.baload, 208) := am_kq60 115 _ _ _ rfl
theorem k60_208 : am_at 60 208 = some (.ifCond .ne 221, 211) := am_kq60 116 _ _ _ rfl
theorem k60_211 : am_at 60 211 = some (.aload 0, 212) := am_kq60 117 _ _ _ rfl
theorem k60_212 : am_at 60 212 = some (.getfield 740, 215) := am_kq60 118 _ _ _ rfl
theorem k60_215 : am_at 60 215 = some (.bipush 5, 216) := am_kq60 119 _ _ _ rfl
theorem k60_216 : am_at 60 216 = some (.dup2, 217) := am_kq60 120 _ _ _ rfl
theorem k60_217 : am_at 60 217 = some (.iaload, 218) := am_kq60 121 _ _ _ rfl
theorem k60_218 : am_at 60 218 = some (.bipush 1, 219) := am_kq60 122 _ _ _ rfl
theorem k60_219 : am_at 60 219 = some (.iadd, 220) := am_kq60 123 _ _ _ rfl
theorem k60_220 : am_at 60 220 = some (.iastore, 221) := am_kq60 124 _ _ _ rfl
theorem k60_221 : am_at 60 221 = some (.iload 4, 223) := am_kq60 125 _ _ _ rfl
theorem k60_223 : am_at 60 223 = some (.ifCond .ne 234, 226) := am_kq60 126 _ _ _ rfl
theorem k60_226 : am_at 60 226 = some (.aload 0, 227) := am_kq60 127 _ _ _ rfl
theorem k60_227 : am_at 60 227 = some (.getfield 725, 230) := am_kq60 128 _ _ _ rfl
theorem k60_230 : am_at 60 230 = some (.iload 5, 232) := am_kq60 129 _ _ _ rfl
theorem k60_232 : am_at 60 232 = some (.bipush 1, 233) := am_kq60 130 _ _ _ rfl
theorem k60_233 : am_at 60 233 = some (.bastore, 234) := am_kq60 131 _ _ _ rfl
theorem k60_234 : am_at 60 234 = some (.bipush 0, 235) := am_kq60 132 _ _ _ rfl
theorem k60_235 : am_at 60 235 = some (.istore 7, 237) := am_kq60 133 _ _ _ rfl
theorem k60_237 : am_at 60 237 = some (.iload 7, 239) := am_kq60 134 _ _ _ rfl
theorem k60_239 : am_at 60 239 = some (.bipush 4, 240) := am_kq60 135 _ _ _ rfl
theorem k60_240 : am_at 60 240 = some (.if_icmp .ge 268, 243) := am_kq60 136 _ _ _ rfl
theorem k60_243 : am_at 60 243 = some (.iload 6, 245) := am_kq60 137 _ _ _ rfl
theorem k60_245 : am_at 60 245 = some (.aload 0, 246) := am_kq60 138 _ _ _ rfl
theorem k60_246 : am_at 60 246 = some (.getfield 727, 249) := am_kq60 139 _ _ _ rfl
theorem k60_249 : am_at 60 249 = some (.bipush 4, 250) := am_kq60 140 _ _ _ rfl
theorem k60_250 : am_at 60 250 = some (.aload 0, 251) := am_kq60 141 _ _ _ rfl
theorem k60_251 : am_at 60 251 = some (.getfield 742, 254) := am_kq60 142 _ _ _ rfl
theorem k60_254 : am_at 60 254 = some (.imul, 255) := am_kq60 143 _ _ _ rfl
theorem k60_255 : am_at 60 255 = some (.iload 7, 257) := am_kq60 144 _ _ _ rfl
theorem k60_257 : am_at 60 257 = some (.iadd, 258) := am_kq60 145 _ _ _ rfl
theorem k60_258 : am_at 60 258 = some (.iaload, 259) := am_kq60 146 _ _ _ rfl
theorem k60_259 : am_at 60 259 = some (.iadd, 260) := am_kq60 147 _ _ _ rfl
theorem k60_260 : am_at 60 260 = some (.istore 6, 262) := am_kq60 148 _ _ _ rfl
theorem k60_262 : am_at 60 262 = some (.iinc 7 1, 265) := am_kq60 149 _ _ _ rfl
theorem k60_265 : am_at 60 265 = some (.goto 237, 268) := am_kq60 150 _ _ _ rfl
theorem k60_268 : am_at 60 268 = some (.iload 6, 270) := am_kq60 151 _ _ _ rfl
theorem k60_270 : am_at 60 270 = some (.ifCond .eq 287, 273) := am_kq60 152 _ _ _ rfl
theorem k60_273 : am_at 60 273 = some (.aload 0, 274) := am_kq60 153 _ _ _ rfl
theorem k60_274 : am_at 60 274 = some (.getfield 727, 277) := am_kq60 154 _ _ _ rfl
theorem k60_277 : am_at 60 277 = some (.bipush 4, 278) := am_kq60 155 _ _ _ rfl
theorem k60_278 : am_at 60 278 = some (.aload 0, 279) := am_kq60 156 _ _ _ rfl
theorem k60_279 : am_at 60 279 = some (.getfield 742, 282) := am_kq60 157 _ _ _ rfl
theorem k60_282 : am_at 60 282 = some (.imul, 283) := am_kq60 158 _ _ _ rfl
theorem k60_283 : am_at 60 283 = some (.iaload, 284) := am_kq60 159 _ _ _ rfl
theorem k60_284 : am_at 60 284 = some (.ifCond .ne 305, 287) := am_kq60 160 _ _ _ rfl
theorem k60_287 : am_at 60 287 = some (.aload 0, 288) := am_kq60 161 _ _ _ rfl
theorem k60_288 : am_at 60 288 = some (.iload 6, 290) := am_kq60 162 _ _ _ rfl
theorem k60_290 : am_at 60 290 = some (.ifCond .ne 298, 293) := am_kq60 163 _ _ _ rfl
theorem k60_293 : am_at 60 293 = some (.bipush (-8), 295) := am_kq60 164 _ _ _ rfl
theorem k60_295 : am_at 60 295 = some (.goto 300, 298) := am_kq60 165 _ _ _ rfl
theorem k60_298 : am_at 60 298 = some (.bipush (-9), 300) := am_kq60 166 _ _ _ rfl
theorem k60_300 : am_at 60 300 = some (.putfield 744, 303) := am_kq60 167 _ _ _ rfl
theorem k60_303 : am_at 60 303 = some (.bipush 0, 304) := am_kq60 168 _ _ _ rfl
theorem k60_304 : am_at 60 304 = some (.ireturn, 305) := am_kq60 169 _ _ _ rfl
theorem k60_305 : am_at 60 305 = some (.aload 0, 306) := am_kq60 170 _ _ _ rfl
theorem k60_306 : am_at 60 306 = some (.getfield 728, 309) := am_kq60 171 _ _ _ rfl
theorem k60_309 : am_at 60 309 = some (.aload 0, 310) := am_kq60 172 _ _ _ rfl
theorem k60_310 : am_at 60 310 = some (.getfield 742, 313) := am_kq60 173 _ _ _ rfl
theorem k60_313 : am_at 60 313 = some (.iload 2, 314) := am_kq60 174 _ _ _ rfl
theorem k60_314 : am_at 60 314 = some (.iastore, 315) := am_kq60 175 _ _ _ rfl
theorem k60_315 : am_at 60 315 = some (.aload 0, 316) := am_kq60 176 _ _ _ rfl
theorem k60_316 : am_at 60 316 = some (.getfield 729, 319) := am_kq60 177 _ _ _ rfl
theorem k60_319 : am_at 60 319 = some (.aload 0, 320) := am_kq60 178 _ _ _ rfl
theorem k60_320 : am_at 60 320 = some (.getfield 742, 323) := am_kq60 179 _ _ _ rfl
theorem k60_323 : am_at 60 323 = some (.iload 3, 324) := am_kq60 180 _ _ _ rfl
theorem k60_324 : am_at 60 324 = some (.iastore, 325) := am_kq60 181 _ _ _ rfl
theorem k60_325 : am_at 60 325 = some (.aload 0, 326) := am_kq60 182 _ _ _ rfl
theorem k60_326 : am_at 60 326 = some (.getfield 730, 329) := am_kq60 183 _ _ _ rfl
theorem k60_329 : am_at 60 329 = some (.aload 0, 330) := am_kq60 184 _ _ _ rfl
theorem k60_330 : am_at 60 330 = some (.getfield 742, 333) := am_kq60 185 _ _ _ rfl
theorem k60_333 : am_at 60 333 = some (.iload 1, 334) := am_kq60 186 _ _ _ rfl
theorem k60_334 : am_at 60 334 = some (.iastore, 335) := am_kq60 187 _ _ _ rfl
theorem k60_335 : am_at 60 335 = some (.aload 0, 336) := am_kq60 188 _ _ _ rfl
theorem k60_336 : am_at 60 336 = some (.dup, 337) := am_kq60 189 _ _ _ rfl
theorem k60_337 : am_at 60 337 = some (.getfield 742, 340) := am_kq60 190 _ _ _ rfl
theorem k60_340 : am_at 60 340 = some (.bipush 1, 341) := am_kq60 191 _ _ _ rfl
theorem k60_341 : am_at 60 341 = some (.iadd, 342) := am_kq60 192 _ _ _ rfl
theorem k60_342 : am_at 60 342 = some (.putfield 742, 345) := am_kq60 193 _ _ _ rfl
theorem k60_345 : am_at 60 345 = some (.aload 0, 346) := am_kq60 194 _ _ _ rfl
theorem k60_346 : am_at 60 346 = some (.bipush 3, 347) := am_kq60 195 _ _ _ rfl
theorem k60_347 : am_at 60 347 = some (.bipush 0, 348) := am_kq60 196 _ _ _ rfl
theorem k60_348 : am_at 60 348 = some (.invokestatic 64, 351) := am_kq60 197 _ _ _ rfl
theorem k60_351 : am_at 60 351 = some (.bipush 1, 352) := am_kq60 198 _ _ _ rfl
theorem k60_352 : am_at 60 352 = some (.ireturn, 353) := am_kq60 199 _ _ _ rfl
set_option maxRecDepth 20000 in
theorem am_kq61 (i pc : Nat) (x : Instr) (nx : Nat) (hi : am_t61[i]? = some (pc, x, nx)) : am_at 61 pc = some (x, nx) := am_kB 61 am_t61 rfl (by decide +kernel) i pc x nx hi
theorem k61_0 : am_at 61 0 = some (.bipush 4, 1) := am_kq61 0 _ _ _ rfl
theorem k61_1 : am_at 61 1 = some (.aload 0, 2) := am_kq61 1 _ _ _ rfl
theorem k61_2 : am_at 61 2 = some (.getfield 742, 5) := am_kq61 2 _ _ _ rfl
theorem k61_5 : am_at 61 5 = some (.imul, 6) := am_kq61 3 _ _ _ rfl
theorem k61_6 : am_at 61 6 = some (.aload 0, 7) := am_kq61 4 _ _ _ rfl
theorem k61_7 : am_at 61 7 = some (.getfield 718, 10) := am_kq61 5 _ _ _ rfl
theorem k61_10 : am_at 61 10 = some (.iload 1, 11) := am_kq61 6 _ _ _ rfl
theorem k61_11 : am_at 61 11 = some (.iaload, 12) := am_kq61 7 _ _ _ rfl
theorem k61_12 : am_at 61 12 = some (.iadd, 13) := am_kq61 8 _ _ _ rfl
theorem k61_13 : am_at 61 13 = some (.istore 4, 15) := am_kq61 9 _ _ _ rfl
theorem k61_15 : am_at 61 15 = some (.aload 0, 16) := am_kq61 10 _ _ _ rfl
theorem k61_16 : am_at 61 16 = some (.getfield 727, 19) := am_kq61 11 _ _ _ rfl
theorem k61_19 : am_at 61 19 = some (.iload 4, 21) := am_kq61 12 _ _ _ rfl
theorem k61_21 : am_at 61 21 = some (.dup2, 22) := am_kq61 13 _ _ _ rfl
theorem k61_22 : am_at 61 22 = some (.iaload, 23) := am_kq61 14 _ _ _ rfl
theorem k61_23 : am_at 61 23 = some (.dup_x2, 24) := am_kq61 15 _ _ _ rfl
theorem k61_24 : am_at 61 24 = some (.bipush 1, 25) := am_kq61 16 _ _ _ rfl
theorem k61_25 : am_at 61 25 = some (.iadd, 26) := am_kq61 17 _ _ _ rfl
theorem k61_26 : am_at 61 26 = some (.iastore, 27) := am_kq61 18 _ _ _ rfl
theorem k61_27 : am_at 61 27 = some (.istore 5, 29) := am_kq61 19 _ _ _ rfl
theorem k61_29 : am_at 61 29 = some (.iload 5, 31) := am_kq61 20 _ _ _ rfl
theorem k61_31 : am_at 61 31 = some (.ifCond .le 93, 34) := am_kq61 21 _ _ _ rfl
theorem k61_34 : am_at 61 34 = some (.aload 0, 35) := am_kq61 22 _ _ _ rfl
theorem k61_35 : am_at 61 35 = some (.iload 1, 36) := am_kq61 23 _ _ _ rfl
theorem k61_36 : am_at 61 36 = some (.aload 0, 37) := am_kq61 24 _ _ _ rfl
theorem k61_37 : am_at 61 37 = some (.getfield 726, 40) := am_kq61 25 _ _ _ rfl
theorem k61_40 : am_at 61 40 = some (.bipush 16, 42) := am_kq61 26 _ _ _ rfl
theorem k61_42 : am_at 61 42 = some (.iload 4, 44) := am_kq61 27 _ _ _ rfl
theorem k61_44 : am_at 61 44 = some (.imul, 45) := am_kq61 28 _ _ _ rfl
theorem k61_45 : am_at 61 45 = some (.iload 5, 47) := am_kq61 29 _ _ _ rfl
theorem k61_47 : am_at 61 47 = some (.iadd, 48) := am_kq61 30 _ _ _ rfl
theorem k61_48 : am_at 61 48 = some (.bipush 1, 49) := am_kq61 31 _ _ _ rfl
theorem k61_49 : am_at 61 49 = some (.isub, 50) := am_kq61 32 _ _ _ rfl
theorem k61_50 : am_at 61 50 = some (.iaload, 51) := am_kq61 33 _ _ _ rfl
theorem k61_51 : am_at 61 51 = some (.iload 2, 52) := am_kq61 34 _ _ _ rfl
theorem k61_52 : am_at 61 52 = some (.iload 3, 53) := am_kq61 35 _ _ _ rfl
theorem k61_53 : am_at 61 53 = some (.invokestatic 62, 56) := am_kq61 36 _ _ _ rfl
theorem k61_56 : am_at 61 56 = some (.ifCond .eq 93, 59) := am_kq61 37 _ _ _ rfl
theorem k61_59 : am_at 61 59 = some (.aload 0, 60) := am_kq61 38 _ _ _ rfl
theorem k61_60 : am_at 61 60 = some (.getfield 726, 63) := am_kq61 39 _ _ _ rfl
theorem k61_63 : am_at 61 63 = some (.bipush 16, 65) := am_kq61 40 _ _ _ rfl
theorem k61_65 : am_at 61 65 = some (.iload 4, 67) := am_kq61 41 _ _ _ rfl
theorem k61_67 : am_at 61 67 = some (.imul, 68) := am_kq61 42 _ _ _ rfl
theorem k61_68 : am_at 61 68 = some (.iload 5, 70) := am_kq61 43 _ _ _ rfl
theorem k61_70 : am_at 61 70 = some (.iadd, 71) := am_kq61 44 _ _ _ rfl
theorem k61_71 : am_at 61 71 = some (.aload 0, 72) := am_kq61 45 _ _ _ rfl
theorem k61_72 : am_at 61 72 = some (.getfield 726, 75) := am_kq61 46 _ _ _ rfl
theorem k61_75 : am_at 61 75 = some (.bipush 16, 77) := am_kq61 47 _ _ _ rfl
theorem k61_77 : am_at 61 77 = some (.iload 4, 79) := am_kq61 48 _ _ _ rfl
theorem k61_79 : am_at 61 79 = some (.imul, 80) := am_kq61 49 _ _ _ rfl
theorem k61_80 : am_at 61 80 = some (.iload 5, 82) := am_kq61 50 _ _ _ rfl
theorem k61_82 : am_at 61 82 = some (.iadd, 83) := am_kq61 51 _ _ _ rfl
theorem k61_83 : am_at 61 83 = some (.bipush 1, 84) := am_kq61 52 _ _ _ rfl
theorem k61_84 : am_at 61 84 = some (.isub, 85) := am_kq61 53 _ _ _ rfl
theorem k61_85 : am_at 61 85 = some (.iaload, 86) := am_kq61 54 _ _ _ rfl
theorem k61_86 : am_at 61 86 = some (.iastore, 87) := am_kq61 55 _ _ _ rfl
theorem k61_87 : am_at 61 87 = some (.iinc 5 (-1), 90) := am_kq61 56 _ _ _ rfl
theorem k61_90 : am_at 61 90 = some (.goto 29, 93) := am_kq61 57 _ _ _ rfl
theorem k61_93 : am_at 61 93 = some (.aload 0, 94) := am_kq61 58 _ _ _ rfl
theorem k61_94 : am_at 61 94 = some (.getfield 726, 97) := am_kq61 59 _ _ _ rfl
theorem k61_97 : am_at 61 97 = some (.bipush 16, 99) := am_kq61 60 _ _ _ rfl
theorem k61_99 : am_at 61 99 = some (.iload 4, 101) := am_kq61 61 _ _ _ rfl
theorem k61_101 : am_at 61 101 = some (.imul, 102) := am_kq61 62 _ _ _ rfl
theorem k61_102 : am_at 61 102 = some (.iload 5, 104) := am_kq61 63 _ _ _ rfl
theorem k61_104 : am_at 61 104 = some (.iadd, 105) := am_kq61 64 _ _ _ rfl
theorem k61_105 : am_at 61 105 = some (.iload 1, 106) := am_kq61 65 _ _ _ rfl
theorem k61_106 : am_at 61 106 = some (.iastore, 107) := am_kq61 66 _ _ _ rfl
theorem k61_107 : am_at 61 107 = some (.return_, 108) := am_kq61 67 _ _ _ rfl
set_option maxRecDepth 20000 in
theorem am_kq62 (i pc : Nat) (x : Instr) (nx : Nat) (hi : am_t62[i]? = some (pc, x, nx)) : am_at 62 pc = some (x, nx) := am_kB 62 am_t62 rfl (by decide +kernel) i pc x nx hi
theorem k62_0 : am_at 62 0 = some (.aload 0, 1) := am_kq62 0 _ _ _ rfl
theorem k62_1 : am_at 62 1 = some (.aload 0, 2) := am_kq62 1 _ _ _ rfl
theorem k62_2 : am_at 62 2 = some (.getfield 719, 5) := am_kq62 2 _ _ _ rfl
theorem k62_5 : am_at 62 5 = some (.iload 1, 6) := am_kq62 3 _ _ _ rfl
theorem k62_6 : am_at 62 6 = some (.iaload, 7) := am_kq62 4 _ _ _ rfl
theorem k62_7 : am_at 62 7 = some (.iload 3, 8) := am_kq62 5 _ _ _ rfl
theorem k62_8 : am_at 62 8 = some (.invokestatic 59, 11) := am_kq62 6 _ _ _ rfl
theorem k62_11 : am_at 62 11 = some (.istore 5, 13) := am_kq62 7 _ _ _ rfl
theorem k62_13 : am_at 62 13 = some (.aload 0, 14) := am_kq62 8 _ _ _ rfl
theorem k62_14 : am_at 62 14 = some (.aload 0, 15) := am_kq62 9 _ _ _ rfl
theorem k62_15 : am_at 62 15 = some (.getfield 719, 18) := am_kq62 10 _ _ _ rfl
theorem k62_18 : am_at 62 18 = some (.iload 2, 19) := am_kq62 11 _ _ _ rfl
theorem k62_19 : am_at 62 19 = some (.iaload, 20) := am_kq62 12 _ _ _ rfl
theorem k62_20 : am_at 62 20 = some (.iload 3, 21) := am_kq62 13 _ _ _ rfl
theorem k62_21 : am_at 62 21 = some (.invokestatic 59, 24) := am_kq62 14 _ _ _ rfl
theorem k62_24 : am_at 62 24 = some (.istore 6, 26) := am_kq62 15 _ _ _ rfl
theorem k62_26 : am_at 62 26 = some (.aload 0, 27) := am_kq62 16 _ _ _ rfl
theorem k62_27 : am_at 62 27 = some (.getfield 719, 30) := am_kq62 17 _ _ _ rfl
theorem k62_30 : am_at 62 30 = some (.iload 1, 31) := am_kq62 18 _ _ _ rfl
theorem k62_31 : am_at 62 31 = some (.iaload, 32) := am_kq62 19 _ _ _ rfl
theorem k62_32 : am_at 62 32 = some (.aload 0, 33) := am_kq62 20 _ _ _ rfl
theorem k62_33 : am_at 62 33 = some (.getfield 719, 36) := am_kq62 21 _ _ _ rfl
theorem k62_36 : am_at 62 36 = some (.iload 2, 37) := am_kq62 22 _ _ _ rfl
theorem k62_37 : am_at 62 37 = some (.iaload, 38) := am_kq62 23 _ _ _ rfl
theorem k62_38 : am_at 62 38 = some (.if_icmp .eq 54, 41) := am_kq62 24 _ _ _ rfl
theorem k62_41 : am_at 62 41 = some (.iload 5, 43) := am_kq62 25 _ _ _ rfl
theorem k62_43 : am_at 62 43 = some (.iload 6, 45) := am_kq62 26 _ _ _ rfl
theorem k62_45 : am_at 62 45 = some (.if_icmp .ge 52, 48) := am_kq62 27 _ _ _ rfl
theorem k62_48 : am_at 62 48 = some (.bipush 1, 49) := am_kq62 28 _ _ _ rfl
theorem k62_49 : am_at 62 49 = some (.goto 53, 52) := am_kq62 29 _ _ _ rfl
theorem k62_52 : am_at 62 52 = some (.bipush 0, 53) := am_kq62 30 _ _ _ rfl
theorem k62_53 : am_at 62 53 = some (.ireturn, 54) := am_kq62 31 _ _ _ rfl
theorem k62_54 : am_at 62 54 = some (.aload 0, 55) := am_kq62 32 _ _ _ rfl
theorem k62_55 : am_at 62 55 = some (.getfield 716, 58) := am_kq62 33 _ _ _ rfl
theorem k62_58 : am_at 62 58 = some (.aload 0, 59) := am_kq62 34 _ _ _ rfl
theorem k62_59 : am_at 62 59 = some (.getfield 717, 62) := am_kq62 35 _ _ _ rfl
theorem k62_62 : am_at 62 62 = some (.iload 1, 63) := am_kq62 36 _ _ _ rfl
theorem k62_63 : am_at 62 63 = some (.iaload, 64) := am_kq62 37 _ _ _ rfl
theorem k62_64 : am_at 62 64 = some (.iaload, 65) := am_kq62 38 _ _ _ rfl
theorem k62_65 : am_at 62 65 = some (.bipush 2, 66) := am_kq62 39 _ _ _ rfl
theorem k62_66 : am_at 62 66 = some (.if_icmp .ne 100, 69) := am_kq62 40 _ _ _ rfl
theorem k62_69 : am_at 62 69 = some (.aload 0, 70) := am_kq62 41 _ _ _ rfl
theorem k62_70 : am_at 62 70 = some (.aload 0, 71) := am_kq62 42 _ _ _ rfl
theorem k62_71 : am_at 62 71 = some (.getfield 720, 74) := am_kq62 43 _ _ _ rfl
theorem k62_74 : am_at 62 74 = some (.iload 1, 75) := am_kq62 44 _ _ _ rfl
theorem k62_75 : am_at 62 75 = some (.iaload, 76) := am_kq62 45 _ _ _ rfl
theorem k62_76 : am_at 62 76 = some (.iload 4, 78) := am_kq62 46 _ _ _ rfl
theorem k62_78 : am_at 62 78 = some (.invokestatic 59, 81) := am_kq62 47 _ _ _ rfl
theorem k62_81 : am_at 62 81 = some (.aload 0, 82) := am_kq62 48 _ _ _ rfl
theorem k62_82 : am_at 62 82 = some (.aload 0, 83) := am_kq62 49 _ _ _ rfl
theorem k62_83 : am_at 62 83 = some (.getfield 720, 86) := am_kq62 50 _ _ _ rfl
theorem k62_86 : am_at 62 86 = some (.iload 2, 87) := am_kq62 51 _ _ _ rfl
theorem k62_87 : am_at 62 87 = some (.iaload, 88) := am_kq62 52 _ _ _ rfl
theorem k62_88 : am_at 62 88 = some (.iload 4, 90) := am_kq62 53 _ _ _ rfl
theorem k62_90 : am_at 62 90 = some (.invokestatic 59, 93) := am_kq62 54 _ _ _ rfl
theorem k62_93 : am_at 62 93 = some (.if_icmp .ge 100, 96) := am_kq62 55 _ _ _ rfl
theorem k62_96 : am_at 62 96 = some (.bipush 1, 97) := am_kq62 56 _ _ _ rfl
theorem k62_97 : am_at 62 97 = some (.goto 101, 100) := am_kq62 57 _ _ _ rfl
theorem k62_100 : am_at 62 100 = some (.bipush 0, 101) := am_kq62 58 _ _ _ rfl
theorem k62_101 : am_at 62 101 = some (.ireturn, 102) := am_kq62 59 _ _ _ rfl
set_option maxRecDepth 20000 in
theorem am_kq63 (i pc : Nat) (x : Instr) (nx : Nat) (hi : am_t63[i]? = some (pc, x, nx)) : am_at 63 pc = some (x, nx) := am_kB 63 am_t63 rfl (by decide +kernel) i pc x nx hi
theorem k63_0 : am_at 63 0 = some (.aload 0, 1) := am_kq63 0 _ _ _ rfl
theorem k63_1 : am_at 63 1 = some (.getfield 727, 4) := am_kq63 1 _ _ _ rfl
theorem k63_4 : am_at 63 4 = some (.bipush 4, 5) := am_kq63 2 _ _ _ rfl
theorem k63_5 : am_at 63 5 = some (.aload 0, 6) := am_kq63 3 _ _ _ rfl
theorem k63_6 : am_at 63 6 = some (.getfield 742, 9) := am_kq63 4 _ _ _ rfl
theorem k63_9 : am_at 63 9 = some (.bipush 1, 10) := am_kq63 5 _ _ _ rfl
theorem k63_10 : am_at 63 10 = some (.isub, 11) := am_kq63 6 _ _ _ rfl
theorem k63_11 : am_at 63 11 = some (.imul, 12) := am_kq63 7 _ _ _ rfl
theorem k63_12 : am_at 63 12 = some (.iload 1, 13) := am_kq63 8 _ _ _ rfl
theorem k63_13 : am_at 63 13 = some (.iadd, 14) := am_kq63 9 _ _ _ rfl
theorem k63_14 : am_at 63 14 = some (.iaload, 15) := am_kq63 10 _ _ _ rfl
theorem k63_15 : am_at 63 15 = some (.ireturn, 16) := am_kq63 11 _ _ _ rfl
set_option maxRecDepth 20000 in
theorem am_kq64 (i pc : Nat) (x : Instr) (nx : Nat) (hi : am_t64[i]? = some (pc, x, nx)) : am_at 64 pc = some (x, nx) := am_kB 64 am_t64 rfl (by decide +kernel) i pc x nx hi
theorem k64_0 : am_at 64 0 = some (.aload 0, 1) := am_kq64 0 _ _ _ rfl
theorem k64_1 : am_at 64 1 = some (.getfield 742, 4) := am_kq64 1 _ _ _ rfl
theorem k64_4 : am_at 64 4 = some (.bipush 1, 5) := am_kq64 2 _ _ _ rfl
theorem k64_5 : am_at 64 5 = some (.isub, 6) := am_kq64 3 _ _ _ rfl
theorem k64_6 : am_at 64 6 = some (.istore 3, 7) := am_kq64 4 _ _ _ rfl
theorem k64_7 : am_at 64 7 = some (.aload 0, 8) := am_kq64 5 _ _ _ rfl
theorem k64_8 : am_at 64 8 = some (.getfield 731, 11) := am_kq64 6 _ _ _ rfl
theorem k64_11 : am_at 64 11 = some (.aload 0, 12) := am_kq64 7 _ _ _ rfl
theorem k64_12 : am_at 64 12 = some (.getfield 743, 15) := am_kq64 8 _ _ _ rfl
theorem k64_15 : am_at 64 15 = some (.iload 3, 16) := am_kq64 9 _ _ _ rfl
theorem k64_16 : am_at 64 16 = some (.iastore, 17) := am_kq64 10 _ _ _ rfl
theorem k64_17 : am_at 64 17 = some (.aload 0, 18) := am_kq64 11 _ _ _ rfl
theorem k64_18 : am_at 64 18 = some (.getfield 732, 21) := am_kq64 12 _ _ _ rfl
theorem k64_21 : am_at 64 21 = some (.aload 0, 22) := am_kq64 13 _ _ _ rfl
theorem k64_22 : am_at 64 22 = some (.getfield 743, 25) := am_kq64 14 _ _ _ rfl
theorem k64_25 : am_at 64 25 = some (.iload 1, 26) := am_kq64 15 _ _ _ rfl
theorem k64_26 : am_at 64 26 = some (.iastore, 27) := am_kq64 16 _ _ _ rfl
theorem k64_27 : am_at 64 27 = some (.aload 0, 28) := am_kq64 17 _ _ _ rfl
theorem k64_28 : am_at 64 28 = some (.getfield 733, 31) := am_kq64 18 _ _ _ rfl
theorem k64_31 : am_at 64 31 = some (.aload 0, 32) := am_kq64 19 _ _ _ rfl
theorem k64_32 : am_at 64 32 = some (.getfield 743, 35) := am_kq64 20 _ _ _ rfl
theorem k64_35 : am_at 64 35 = some (.iload 2, 36) := am_kq64 21 _ _ _ rfl
theorem k64_36 : am_at 64 36 = some (.iastore, 37) := am_kq64 22 _ _ _ rfl
theorem k64_37 : am_at 64 37 = some (.aload 0, 38) := am_kq64 23 _ _ _ rfl
theorem k64_38 : am_at 64 38 = some (.getfield 734, 41) := am_kq64 24 _ _ _ rfl
theorem k64_41 : am_at 64 41 = some (.aload 0, 42) := am_kq64 25 _ _ _ rfl
theorem k64_42 : am_at 64 42 = some (.getfield 743, 45) := am_kq64 26 _ _ _ rfl
theorem k64_45 : am_at 64 45 = some (.bipush 0, 46) := am_kq64 27 _ _ _ rfl
theorem k64_46 : am_at 64 46 = some (.iastore, 47) := am_kq64 28 _ _ _ rfl
theorem k64_47 : am_at 64 47 = some (.aload 0, 48) := am_kq64 29 _ _ _ rfl
theorem k64_48 : am_at 64 48 = some (.getfield 735, 51) := am_kq64 30 _ _ _ rfl
theorem k64_51 : am_at 64 51 = some (.aload 0, 52) := am_kq64 31 _ _ _ rfl
theorem k64_52 : am_at 64 52 = some (.getfield 743, 55) := am_kq64 32 _ _ _ rfl
theorem k64_55 : am_at 64 55 = some (.bipush 0, 56) := am_kq64 33 _ _ _ rfl
theorem k64_56 : am_at 64 56 = some (.iastore, 57) := am_kq64 34 _ _ _ rfl
theorem k64_57 : am_at 64 57 = some (.aload 0, 58) := am_kq64 35 _ _ _ rfl
theorem k64_58 : am_at 64 58 = some (.getfield 736, 61) := am_kq64 36 _ _ _ rfl
theorem k64_61 : am_at 64 61 = some (.aload 0, 62) := am_kq64 37 _ _ _ rfl
theorem k64_62 : am_at 64 62 = some (.getfield 743, 65) := am_kq64 38 _ _ _ rfl
theorem k64_65 : am_at 64 65 = some (.aload 0, 66) := am_kq64 39 _ _ _ rfl
theorem k64_66 : am_at 64 66 = some (.getfield 728, 69) := am_kq64 40 _ _ _ rfl
theorem k64_69 : am_at 64 69 = some (.iload 3, 70) := am_kq64 41 _ _ _ rfl
theorem k64_70 : am_at 64 70 = some (.iaload, 71) := am_kq64 42 _ _ _ rfl
theorem k64_71 : am_at 64 71 = some (.iastore, 72) := am_kq64 43 _ _ _ rfl
theorem k64_72 : am_at 64 72 = some (.aload 0, 73) := am_kq64 44 _ _ _ rfl
theorem k64_73 : am_at 64 73 = some (.getfield 737, 76) := am_kq64 45 _ _ _ rfl
theorem k64_76 : am_at 64 76 = some (.aload 0, 77) := am_kq64 46 _ _ _ rfl
theorem k64_77 : am_at 64 77 = some (.getfield 743, 80) := am_kq64 47 _ _ _ rfl
theorem k64_80 : am_at 64 80 = some (.aload 0, 81) := am_kq64 48 _ _ _ rfl
theorem k64_81 : am_at 64 81 = some (.getfield 729, 84) := am_kq64 49 _ _ _ rfl
theorem k64_84 : am_at 64 84 = some (.iload 3, 85) := am_kq64 50 _ _ _ rfl
theorem k64_85 : am_at 64 85 = some (.iaload, 86) := am_kq64 51 _ _ _ rfl
theorem k64_86 : am_at 64 86 = some (.iastore, 87) := am_kq64 52 _ _ _ rfl
theorem k64_87 : am_at 64 87 = some (.iload 1, 88) := am_kq64 53 _ _ _ rfl
theorem k64_88 : am_at 64 88 = some (.bipush 3, 89) := am_kq64 54 _ _ _ rfl
theorem k64_89 : am_at 64 89 = some (.if_icmp .ne 115, 92) := am_kq64 55 _ _ _ rfl
theorem k64_92 : am_at 64 92 = some (.iload 2, 93) := am_kq64 56 _ _ _ rfl
theorem k64_93 : am_at 64 93 = some (.aload 0, 94) := am_kq64 57 _ _ _ rfl
theorem k64_94 : am_at 64 94 = some (.bipush 3, 95) := am_kq64 58 _ _ _ rfl
theorem k64_95 : am_at 64 95 = some (.invokestatic 63, 98) := am_kq64 59 _ _ _ rfl
theorem k64_98 : am_at 64 98 = some (.if_icmp .ne 115, 101) := am_kq64 60 _ _ _ rfl
theorem k64_101 : am_at 64 101 = some (.aload 0, 102) := am_kq64 61 _ _ _ rfl
theorem k64_102 : am_at 64 102 = some (.getfield 732, 105) := am_kq64 62 _ _ _ rfl
theorem k64_105 : am_at 64 105 = some (.aload 0, 106) := am_kq64 63 _ _ _ rfl
theorem k64_106 : am_at 64 106 = some (.getfield 743, 109) := am_kq64 64 _ _ _ rfl
theorem k64_109 : am_at 64 109 = some (.bipush 9, 111) := am_kq64 65 _ _ _ rfl
theorem k64_111 : am_at 64 111 = some (.iastore, 112) := am_kq64 66 _ _ _ rfl
theorem k64_112 : am_at 64 112 = some (.goto 154, 115) := am_kq64 67 _ _ _ rfl
theorem k64_115 : am_at 64 115 = some (.aload 0, 116) := am_kq64 68 _ _ _ rfl
theorem k64_116 : am_at 64 116 = some (.getfield 738, 119) := am_kq64 69 _ _ _ rfl
theorem k64_119 : am_at 64 119 = some (.aload 0, 120) := am_kq64 70 _ _ _ rfl
theorem k64_120 : am_at 64 120 = some (.getfield 743, 123) := am_kq64 71 _ _ _ rfl
theorem k64_123 : am_at 64 123 = some (.aload 0, 124) := am_kq64 72 _ _ _ rfl
theorem k64_124 : am_at 64 124 = some (.getfield 721, 127) := am_kq64 73 _ _ _ rfl
theorem k64_127 : am_at 64 127 = some (.aload 0, 128) := am_kq64 74 _ _ _ rfl
theorem k64_128 : am_at 64 128 = some (.getfield 726, 131) := am_kq64 75 _ _ _ rfl
theorem k64_131 : am_at 64 131 = some (.bipush 16, 133) := am_kq64 76 _ _ _ rfl
theorem k64_133 : am_at 64 133 = some (.bipush 4, 134) := am_kq64 77 _ _ _ rfl
theorem k64_134 : am_at 64 134 = some (.iload 3, 135) := am_kq64 78 _ _ _ rfl
theorem k64_135 : am_at 64 135 = some (.imul, 136) := am_kq64 79 _ _ _ rfl
theorem k64_136 : am_at 64 136 = some (.iload 1, 137) := am_kq64 80 _ _ _ rfl
theorem k64_137 : am_at 64 137 = some (.iadd, 138) := am_kq64 81 _ _ _ rfl
theorem k64_138 : am_at 64 138 = some (.imul, 139) := am_kq64 82 _ _ _ rfl
theorem k64_139 : am_at 64 139 = some (.iload 2, 140) := am_kq64 83 _ _ _ rfl
theorem k64_140 : am_at 64 140 = some (.iadd, 141) := am_kq64 84 _ _ _ rfl
theorem k64_141 : am_at 64 141 = some (.iaload, 142) := am_kq64 85 _ _ _ rfl
theorem k64_142 : am_at 64 142 = some (.iaload, 143) := am_kq64 86 _ _ _ rfl
theorem k64_143 : am_at 64 143 = some (.iastore, 144) := am_kq64 87 _ _ _ rfl
theorem k64_144 : am_at 64 144 = some (.aload 0, 145) := am_kq64 88 _ _ _ rfl
theorem k64_145 : am_at 64 145 = some (.getfield 740, 148) := am_kq64 89 _ _ _ rfl
theorem k64_148 : am_at 64 148 = some (.bipush 4, 149) := am_kq64 90 _ _ _ rfl
theorem k64_149 : am_at 64 149 = some (.dup2, 150) := am_kq64 91 _ _ _ rfl
theorem k64_150 : am_at 64 150 = some (.iaload, 151) := am_kq64 92 _ _ _ rfl
theorem k64_151 : am_at 64 151 = some (.bipush 1, 152) := am_kq64 93 _ _ _ rfl
theorem k64_152 : am_at 64 152 = some (.iadd, 153) := am_kq64 94 _ _ _ rfl
theorem k64_153 : am_at 64 153 = some (.iastore, 154) := am_kq64 95 _ _ _ rfl
theorem k64_154 : am_at 64 154 = some (.aload 0, 155) := am_kq64 96 _ _ _ rfl
theorem k64_155 : am_at 64 155 = some (.dup, 156) := am_kq64 97 _ _ _ rfl
theorem k64_156 : am_at 64 156 = some (.getfield 743, 159) := am_kq64 98 _ _ _ rfl
theorem k64_159 : am_at 64 159 = some (.bipush 1, 160) := am_kq64 99 _ _ _ rfl
theorem k64_160 : am_at 64 160 = some (.iadd, 161) := am_kq64 100 _ _ _ rfl
theorem k64_161 : am_at 64 161 = some (.putfield 743, 164) := am_kq64 101 _ _ _ rfl
theorem k64_164 : am_at 64 164 = some (.return_, 165) := am_kq64 102 _ _ _ rfl
set_option maxRecDepth 20000 in
theorem am_kq65 (i pc : Nat) (x : Instr) (nx : Nat) (hi : am_t65[i]? = some (pc, x, nx)) : am_at 65 pc = some (x, nx) := am_kB 65 am_t65 rfl (by decide +kernel) i pc x nx hi
theorem k65_0 : am_at 65 0 = some (.aload 0, 1) := am_kq65 0 _ _ _ rfl
theorem k65_1 : am_at 65 1 = some (.dup, 2) := am_kq65 1 _ _ _ rfl
theorem k65_2 : am_at 65 2 = some (.getfield 743, 5) := am_kq65 2 _ _ _ rfl
theorem k65_5 : am_at 65 5 = some (.bipush 1, 6) := am_kq65 3 _ _ _ rfl
theorem k65_6 : am_at 65 6 = some (.isub, 7) := am_kq65 4 _ _ _ rfl
theorem k65_7 : am_at 65 7 = some (.putfield 743, 10) := am_kq65 5 _ _ _ rfl
theorem k65_10 : am_at 65 10 = some (.aload 0, 11) := am_kq65 6 _ _ _ rfl
theorem k65_11 : am_at 65 11 = some (.getfield 743, 14) := am_kq65 7 _ _ _ rfl
theorem k65_14 : am_at 65 14 = some (.ifCond .ne 24, 17) := am_kq65 8 _ _ _ rfl
theorem k65_17 : am_at 65 17 = some (.aload 0, 18) := am_kq65 9 _ _ _ rfl
theorem k65_18 : am_at 65 18 = some (.iload 1, 19) := am_kq65 10 _ _ _ rfl
theorem k65_19 : am_at 65 19 = some (.i2l, 20) := am_kq65 11 _ _ _ rfl
theorem k65_20 : am_at 65 20 = some (.putfield 746, 23) := am_kq65 12 _ _ _ rfl
theorem k65_23 : am_at 65 23 = some (.return_, 24) := am_kq65 13 _ _ _ rfl
theorem k65_24 : am_at 65 24 = some (.aload 0, 25) := am_kq65 14 _ _ _ rfl
theorem k65_25 : am_at 65 25 = some (.getfield 743, 28) := am_kq65 15 _ _ _ rfl
theorem k65_28 : am_at 65 28 = some (.bipush 1, 29) := am_kq65 16 _ _ _ rfl
theorem k65_29 : am_at 65 29 = some (.isub, 30) := am_kq65 17 _ _ _ rfl
theorem k65_30 : am_at 65 30 = some (.istore 2, 31) := am_kq65 18 _ _ _ rfl
theorem k65_31 : am_at 65 31 = some (.aload 0, 32) := am_kq65 19 _ _ _ rfl
theorem k65_32 : am_at 65 32 = some (.aload 0, 33) := am_kq65 20 _ _ _ rfl
theorem k65_33 : am_at 65 33 = some (.getfield 731, 36) := am_kq65 21 _ _ _ rfl
theorem k65_36 : am_at 65 36 = some (.iload 2, 37) := am_kq65 22 _ _ _ rfl
theorem k65_37 : am_at 65 37 = some (.iaload, 38) := am_kq65 23 _ _ _ rfl
theorem k65_38 : am_at 65 38 = some (.bipush 1, 39) := am_kq65 24 _ _ _ rfl
theorem k65_39 : am_at 65 39 = some (.iadd, 40) := am_kq65 25 _ _ _ rfl
theorem k65_40 : am_at 65 40 = some (.putfield 742, 43) := am_kq65 26 _ _ _ rfl
theorem k65_43 : am_at 65 43 = some (.aload 0, 44) := am_kq65 27 _ _ _ rfl
theorem k65_44 : am_at 65 44 = some (.getfield 732, 47) := am_kq65 28 _ _ _ rfl
theorem k65_47 : am_at 65 47 = some (.iload 2, 48) := am_kq65 29 _ _ _ rfl
theorem k65_48 : am_at 65 48 = some (.iaload, 49) := am_kq65 30 _ _ _ rfl
theorem k65_49 : am_at 65 49 = some (.bipush 9, 51) := am_kq65 31 _ _ _ rfl
theorem k65_51 : am_at 65 51 = some (.if_icmp .eq 67, 54) := am_kq65 32 _ _ _ rfl
theorem k65_54 : am_at 65 54 = some (.aload 0, 55) := am_kq65 33 _ _ _ rfl
theorem k65_55 : am_at 65 55 = some (.getfield 735, 58) := am_kq65 34 _ _ _ rfl
theorem k65_58 : am_at 65 58 = some (.iload 2, 59) := am_kq65 35 _ _ _ rfl
theorem k65_59 : am_at 65 59 = some (.dup2, 60) := am_kq65 36 _ _ _ rfl
theorem k65_60 : am_at 65 60 = some (.iaload, 61) := am_kq65 37 _ _ _ rfl
theorem k65_61 : am_at 65 61 = some (.iload 1, 62) := am_kq65 38 _ _ _ rfl
theorem k65_62 : am_at 65 62 = some (.iadd, 63) := am_kq65 39 _ _ _ rfl
theorem k65_63 : am_at 65 63 = some (.iastore, 64) := am_kq65 40 _ _ _ rfl
theorem k65_64 : am_at 65 64 = some (.goto 90, 67) := am_kq65 41 _ _ _ rfl
theorem k65_67 : am_at 65 67 = some (.aload 0, 68) := am_kq65 42 _ _ _ rfl
theorem k65_68 : am_at 65 68 = some (.getfield 734, 71) := am_kq65 43 _ _ _ rfl
theorem k65_71 : am_at 65 71 = some (.iload 2, 72) := am_kq65 44 _ _ _ rfl
theorem k65_72 : am_at 65 72 = some (.iaload, 73) := am_kq65 45 _ _ _ rfl
theorem k65_73 : am_at 65 73 = some (.aload 0, 74) := am_kq65 46 _ _ _ rfl
theorem k65_74 : am_at 65 74 = some (.bipush 1, 75) := am_kq65 47 _ _ _ rfl
theorem k65_75 : am_at 65 75 = some (.invokestatic 63, 78) := am_kq65 48 _ _ _ rfl
theorem k65_78 : am_at 65 78 = some (.bipush 1, 79) := am_kq65 49 _ _ _ rfl
theorem k65_79 : am_at 65 79 = some (.iadd, 80) := am_kq65 50 _ _ _ rfl
theorem k65_80 : am_at 65 80 = some (.if_icmp .ne 90, 83) := am_kq65 51 _ _ _ rfl
theorem k65_83 : am_at 65 83 = some (.aload 0, 84) := am_kq65 52 _ _ _ rfl
theorem k65_84 : am_at 65 84 = some (.getfield 735, 87) := am_kq65 53 _ _ _ rfl
theorem k65_87 : am_at 65 87 = some (.iload 2, 88) := am_kq65 54 _ _ _ rfl
theorem k65_88 : am_at 65 88 = some (.iload 1, 89) := am_kq65 55 _ _ _ rfl
theorem k65_89 : am_at 65 89 = some (.iastore, 90) := am_kq65 56 _ _ _ rfl
theorem k65_90 : am_at 65 90 = some (.return_, 91) := am_kq65 57 _ _ _ rfl
set_option maxRecDepth 20000 in
theorem am_kq66 (i pc : Nat) (x : Instr) (nx : Nat) (hi : am_t66[i]? = some (pc, x, nx)) : am_at 66 pc = some (x, nx) := am_kB 66 am_t66 rfl (by decide +kernel) i pc x nx hi
theorem k66_0 : am_at 66 0 = some (.aload 0, 1) := am_kq66 0 _ _ _ rfl
theorem k66_1 : am_at 66 1 = some (.bipush 1, 2) := am_kq66 1 _ _ _ rfl
theorem k66_2 : am_at 66 2 = some (.invokestatic 63, 5) := am_kq66 2 _ _ _ rfl
theorem k66_5 : am_at 66 5 = some (.istore 2, 6) := am_kq66 3 _ _ _ rfl
theorem k66_6 : am_at 66 6 = some (.aload 0, 7) := am_kq66 4 _ _ _ rfl
theorem k66_7 : am_at 66 7 = some (.bipush 2, 8) := am_kq66 5 _ _ _ rfl
theorem k66_8 : am_at 66 8 = some (.invokestatic 63, 11) := am_kq66 6 _ _ _ rfl
theorem k66_11 : am_at 66 11 = some (.istore 3, 12) := am_kq66 7 _ _ _ rfl
theorem k66_12 : am_at 66 12 = some (.aload 0, 13) := am_kq66 8 _ _ _ rfl
theorem k66_13 : am_at 66 13 = some (.getfield 734, 16) := am_kq66 9 _ _ _ rfl
theorem k66_16 : am_at 66 16 = some (.iload 1, 17) := am_kq66 10 _ _ _ rfl
theorem k66_17 : am_at 66 17 = some (.dup2, 18) := am_kq66 11 _ _ _ rfl
theorem k66_18 : am_at 66 18 = some (.iaload, 19) := am_kq66 12 _ _ _ rfl
theorem k66_19 : am_at 66 19 = some (.dup_x2, 20) := am_kq66 13 _ _ _ rfl
theorem k66_20 : am_at 66 20 = some (.bipush 1, 21) := am_kq66 14 _ _ _ rfl
theorem k66_21 : am_at 66 21 = some (.iadd, 22) := am_kq66 15 _ _ _ rfl
theorem k66_22 : am_at 66 22 = some (.iastore, 23) := am_kq66 16 _ _ _ rfl
theorem k66_23 : am_at 66 23 = some (.istore 4, 25) := am_kq66 17 _ _ _ rfl
theorem k66_25 : am_at 66 25 = some (.iload 4, 27) := am_kq66 18 _ _ _ rfl
theorem k66_27 : am_at 66 27 = some (.iload 2, 28) := am_kq66 19 _ _ _ rfl
theorem k66_28 : am_at 66 28 = some (.if_icmp .ge 41, 31) := am_kq66 20 _ _ _ rfl
theorem k66_31 : am_at 66 31 = some (.aload 0, 32) := am_kq66 21 _ _ _ rfl
theorem k66_32 : am_at 66 32 = some (.bipush 1, 33) := am_kq66 22 _ _ _ rfl
theorem k66_33 : am_at 66 33 = some (.iload 4, 35) := am_kq66 23 _ _ _ rfl
theorem k66_35 : am_at 66 35 = some (.invokestatic 64, 38) := am_kq66 24 _ _ _ rfl
theorem k66_38 : am_at 66 38 = some (.goto 88, 41) := am_kq66 25 _ _ _ rfl
theorem k66_41 : am_at 66 41 = some (.iload 4, 43) := am_kq66 26 _ _ _ rfl
theorem k66_43 : am_at 66 43 = some (.iload 2, 44) := am_kq66 27 _ _ _ rfl
theorem k66_44 : am_at 66 44 = some (.if_icmp .ne 56, 47) := am_kq66 28 _ _ _ rfl
theorem k66_47 : am_at 66 47 = some (.aload 0, 48) := am_kq66 29 _ _ _ rfl
theorem k66_48 : am_at 66 48 = some (.bipush 0, 49) := am_kq66 30 _ _ _ rfl
theorem k66_49 : am_at 66 49 = some (.bipush 0, 50) := am_kq66 31 _ _ _ rfl
theorem k66_50 : am_at 66 50 = some (.invokestatic 64, 53) := am_kq66 32 _ _ _ rfl
theorem k66_53 : am_at 66 53 = some (.goto 88, 56) := am_kq66 33 _ _ _ rfl
theorem k66_56 : am_at 66 56 = some (.iload 4, 58) := am_kq66 34 _ _ _ rfl
theorem k66_58 : am_at 66 58 = some (.iload 2, 59) := am_kq66 35 _ _ _ rfl
theorem k66_59 : am_at 66 59 = some (.iload 3, 60) := am_kq66 36 _ _ _ rfl
theorem k66_60 : am_at 66 60 = some (.iadd, 61) := am_kq66 37 _ _ _ rfl
theorem k66_61 : am_at 66 61 = some (.if_icmp .gt 78, 64) := am_kq66 38 _ _ _ rfl
theorem k66_64 : am_at 66 64 = some (.aload 0, 65) := am_kq66 39 _ _ _ rfl
theorem k66_65 : am_at 66 65 = some (.bipush 2, 66) := am_kq66 40 _ _ _ rfl
theorem k66_66 : am_at 66 66 = some (.iload 3, 67) := am_kq66 41 _ _ _ rfl
theorem k66_67 : am_at 66 67 = some (.iload 4, 69) := am_kq66 42 _ _ _ rfl
theorem k66_69 : am_at 66 69 = some (.iload 2, 70) := am_kq66 43 _ _ _ rfl
theorem k66_70 : am_at 66 70 = some (.isub, 71) := am_kq66 44 _ _ _ rfl
theorem k66_71 : am_at 66 71 = some (.isub, 72) := am_kq66 45 _ _ _ rfl
theorem k66_72 : am_at 66 72 = some (.invokestatic 64, 75) := am_kq66 46 _ _ _ rfl
theorem k66_75 : am_at 66 75 = some (.goto 88, 78) := am_kq66 47 _ _ _ rfl
theorem k66_78 : am_at 66 78 = some (.aload 0, 79) := am_kq66 48 _ _ _ rfl
theorem k66_79 : am_at 66 79 = some (.aload 0, 80) := am_kq66 49 _ _ _ rfl
theorem k66_80 : am_at 66 80 = some (.getfield 735, 83) := am_kq66 50 _ _ _ rfl
theorem k66_83 : am_at 66 83 = some (.iload 1, 84) := am_kq66 51 _ _ _ rfl
theorem k66_84 : am_at 66 84 = some (.iaload, 85) := am_kq66 52 _ _ _ rfl
theorem k66_85 : am_at 66 85 = some (.invokestatic 65, 88) := am_kq66 53 _ _ _ rfl
theorem k66_88 : am_at 66 88 = some (.return_, 89) := am_kq66 54 _ _ _ rfl
set_option maxRecDepth 20000 in
theorem am_kq67 (i pc : Nat) (x : Instr) (nx : Nat) (hi : am_t67[i]? = some (pc, x, nx)) : am_at 67 pc = some (x, nx) := am_kB 67 am_t67 rfl (by decide +kernel) i pc x nx hi
theorem k67_0 : am_at 67 0 = some (.aload 0, 1) := am_kq67 0 _ _ _ rfl
theorem k67_1 : am_at 67 1 = some (.getfield 743, 4) := am_kq67 1 _ _ _ rfl
theorem k67_4 : am_at 67 4 = some (.bipush 1, 5) := am_kq67 2 _ _ _ rfl
theorem k67_5 : am_at 67 5 = some (.isub, 6) := am_kq67 3 _ _ _ rfl
theorem k67_6 : am_at 67 6 = some (.istore 1, 7) := am_kq67 4 _ _ _ rfl
theorem k67_7 : am_at 67 7 = some (.aload 0, 8) := am_kq67 5 _ _ _ rfl
theorem k67_8 : am_at 67 8 = some (.getfield 732, 11) := am_kq67 6 _ _ _ rfl
theorem k67_11 : am_at 67 11 = some (.iload 1, 12) := am_kq67 7 _ _ _ rfl
theorem k67_12 : am_at 67 12 = some (.iaload, 13) := am_kq67 8 _ _ _ rfl
theorem k67_13 : am_at 67 13 = some (.bipush 9, 15) := am_kq67 9 _ _ _ rfl
theorem k67_15 : am_at 67 15 = some (.if_icmp .ne 25, 18) := am_kq67 10 _ _ _ rfl
theorem k67_18 : am_at 67 18 = some (.aload 0, 19) := am_kq67 11 _ _ _ rfl
theorem k67_19 : am_at 67 19 = some (.iload 1, 20) := am_kq67 12 _ _ _ rfl
theorem k67_20 : am_at 67 20 = some (.invokestatic 66, 23) := am_kq67 13 _ _ _ rfl
theorem k67_23 : am_at 67 23 = some (.bipush 1, 24) := am_kq67 14 _ _ _ rfl
theorem k67_24 : am_at 67 24 = some (.ireturn, 25) := am_kq67 15 _ _ _ rfl
theorem k67_25 : am_at 67 25 = some (.aload 0, 26) := am_kq67 16 _ _ _ rfl
theorem k67_26 : am_at 67 26 = some (.getfield 738, 29) := am_kq67 17 _ _ _ rfl
theorem k67_29 : am_at 67 29 = some (.iload 1, 30) := am_kq67 18 _ _ _ rfl
theorem k67_30 : am_at 67 30 = some (.iaload, 31) := am_kq67 19 _ _ _ rfl
theorem k67_31 : am_at 67 31 = some (.istore 2, 32) := am_kq67 20 _ _ _ rfl
theorem k67_32 : am_at 67 32 = some (.aload 0, 33) := am_kq67 21 _ _ _ rfl
theorem k67_33 : am_at 67 33 = some (.getfield 734, 36) := am_kq67 22 _ _ _ rfl
theorem k67_36 : am_at 67 36 = some (.iload 1, 37) := am_kq67 23 _ _ _ rfl
theorem k67_37 : am_at 67 37 = some (.iaload, 38) := am_kq67 24 _ _ _ rfl
theorem k67_38 : am_at 67 38 = some (.istore 3, 39) := am_kq67 25 _ _ _ rfl
theorem k67_39 : am_at 67 39 = some (.iload 3, 40) := am_kq67 26 _ _ _ rfl
theorem k67_40 : am_at 67 40 = some (.aload 0, 41) := am_kq67 27 _ _ _ rfl
theorem k67_41 : am_at 67 41 = some (.getfield 724, 44) := am_kq67 28 _ _ _ rfl
theorem k67_44 : am_at 67 44 = some (.iload 2, 45) := am_kq67 29 _ _ _ rfl
theorem k67_45 : am_at 67 45 = some (.iaload, 46) := am_kq67 30 _ _ _ rfl
theorem k67_46 : am_at 67 46 = some (.if_icmp .lt 61, 49) := am_kq67 31 _ _ _ rfl
theorem k67_49 : am_at 67 49 = some (.aload 0, 50) := am_kq67 32 _ _ _ rfl
theorem k67_50 : am_at 67 50 = some (.aload 0, 51) := am_kq67 33 _ _ _ rfl
theorem k67_51 : am_at 67 51 = some (.getfield 735, 54) := am_kq67 34 _ _ _ rfl
theorem k67_54 : am_at 67 54 = some (.iload 1, 55) := am_kq67 35 _ _ _ rfl
theorem k67_55 : am_at 67 55 = some (.iaload, 56) := am_kq67 36 _ _ _ rfl
theorem k67_56 : am_at 67 56 = some (.invokestatic 65, 59) := am_kq67 37 _ _ _ rfl
theorem k67_59 : am_at 67 59 = some (.bipush 1, 60) := am_kq67 38 _ _ _ rfl
theorem k67_60 : am_at 67 60 = some (.ireturn, 61) := am_kq67 39 _ _ _ rfl
theorem k67_61 : am_at 67 61 = some (.aload 0, 62) := am_kq67 40 _ _ _ rfl
theorem k67_62 : am_at 67 62 = some (.getfield 745, 65) := am_kq67 41 _ _ _ rfl
theorem k67_65 : am_at 67 65 = some (.bipush 300, 68) := am_kq67 42 _ _ _ rfl
theorem k67_68 : am_at 67 68 = some (.if_icmp .ne 78, 71) := am_kq67 43 _ _ _ rfl
theorem k67_71 : am_at 67 71 = some (.aload 0, 72) := am_kq67 44 _ _ _ rfl
theorem k67_72 : am_at 67 72 = some (.bipush (-11), 74) := am_kq67 45 _ _ _ rfl
theorem k67_74 : am_at 67 74 = some (.invokestatic 68, 77) := am_kq67 46 _ _ _ rfl
theorem k67_77 : am_at 67 77 = some (.ireturn, 78) := am_kq67 47 _ _ _ rfl
theorem k67_78 : am_at 67 78 = some (.aload 0, 79) := am_kq67 48 _ _ _ rfl
theorem k67_79 : am_at 67 79 = some (.dup, 80) := am_kq67 49 _ _ _ rfl
theorem k67_80 : am_at 67 80 = some (.getfield 745, 83) := am_kq67 50 _ _ _ rfl
theorem k67_83 : am_at 67 83 = some (.bipush 1, 84) := am_kq67 51 _ _ _ rfl
theorem k67_84 : am_at 67 84 = some (.iadd, 85) := am_kq67 52 _ _ _ rfl
theorem k67_85 : am_at 67 85 = some (.putfield 745, 88) := am_kq67 53 _ _ _ rfl
theorem k67_88 : am_at 67 88 = some (.aload 0, 89) := am_kq67 54 _ _ _ rfl
theorem k67_89 : am_at 67 89 = some (.getfield 740, 92) := am_kq67 55 _ _ _ rfl
theorem k67_92 : am_at 67 92 = some (.bipush 9, 94) := am_kq67 56 _ _ _ rfl
theorem k67_94 : am_at 67 94 = some (.dup2, 95) := am_kq67 57 _ _ _ rfl
theorem k67_95 : am_at 67 95 = some (.iaload, 96) := am_kq67 58 _ _ _ rfl
theorem k67_96 : am_at 67 96 = some (.bipush 1, 97) := am_kq67 59 _ _ _ rfl
theorem k67_97 : am_at 67 97 = some (.iadd, 98) := am_kq67 60 _ _ _ rfl
theorem k67_98 : am_at 67 98 = some (.iastore, 99) := am_kq67 61 _ _ _ rfl
theorem k67_99 : am_at 67 99 = some (.aload 0, 100) := am_kq67 62 _ _ _ rfl
theorem k67_100 : am_at 67 100 = some (.getfield 734, 103) := am_kq67 63 _ _ _ rfl
theorem k67_103 : am_at 67 103 = some (.iload 1, 104) := am_kq67 64 _ _ _ rfl
theorem k67_104 : am_at 67 104 = some (.dup2, 105) := am_kq67 65 _ _ _ rfl
theorem k67_105 : am_at 67 105 = some (.iaload, 106) := am_kq67 66 _ _ _ rfl
theorem k67_106 : am_at 67 106 = some (.bipush 1, 107) := am_kq67 67 _ _ _ rfl
theorem k67_107 : am_at 67 107 = some (.iadd, 108) := am_kq67 68 _ _ _ rfl
theorem k67_108 : am_at 67 108 = some (.iastore, 109) := am_kq67 69 _ _ _ rfl
theorem k67_109 : am_at 67 109 = some (.aload 0, 110) := am_kq67 70 _ _ _ rfl
theorem k67_110 : am_at 67 110 = some (.iload 1, 111) := am_kq67 71 _ _ _ rfl
theorem k67_111 : am_at 67 111 = some (.aload 0, 112) := am_kq67 72 _ _ _ rfl
theorem k67_112 : am_at 67 112 = some (.getfield 722, 115) := am_kq67 73 _ _ _ rfl
theorem k67_115 : am_at 67 115 = some (.bipush 8, 117) := am_kq67 74 _ _ _ rfl
theorem k67_117 : am_at 67 117 = some (.iload 2, 118) := am_kq67 75 _ _ _ rfl
theorem k67_118 : am_at 67 118 = some (.imul, 119) := am_kq67 76 _ _ _ rfl
theorem k67_119 : am_at 67 119 = some (.iload 3, 120) := am_kq67 77 _ _ _ rfl
theorem k67_120 : am_at 67 120 = some (.iadd, 121) := am_kq67 78 _ _ _ rfl
theorem k67_121 : am_at 67 121 = some (.iaload, 122) := am_kq67 79 _ _ _ rfl
theorem k67_122 : am_at 67 122 = some (.aload 0, 123) := am_kq67 80 _ _ _ rfl
theorem k67_123 : am_at 67 123 = some (.getfield 723, 126) := am_kq67 81 _ _ _ rfl
theorem k67_126 : am_at 67 126 = some (.bipush 8, 128) := am_kq67 82 _ _ _ rfl
theorem k67_128 : am_at 67 128 = some (.iload 2, 129) := am_kq67 83 _ _ _ rfl
theorem k67_129 : am_at 67 129 = some (.imul, 130) := am_kq67 84 _ _ _ rfl
theorem k67_130 : am_at 67 130 = some (.iload 3, 131) := am_kq67 85 _ _ _ rfl
theorem k67_131 : am_at 67 131 = some (.iadd, 132) := am_kq67 86 _ _ _ rfl
theorem k67_132 : am_at 67 132 = some (.iaload, 133) := am_kq67 87 _ _ _ rfl
theorem k67_133 : am_at 67 133 = some (.invokestatic 69, 136) := am_kq67 88 _ _ _ rfl
theorem k67_136 : am_at 67 136 = some (.ireturn, 137) := am_kq67 89 _ _ _ rfl
set_option maxRecDepth 20000 in
theorem am_kq68 (i pc : Nat) (x : Instr) (nx : Nat) (hi : am_t68[i]? = some (pc, x, nx)) : am_at 68 pc = some (x, nx) := am_kB 68 am_t68 rfl (by decide +kernel) i pc x nx hi
theorem k68_0 : am_at 68 0 = some (.aload 0, 1) := am_kq68 0 _ _ _ rfl
theorem k68_1 : am_at 68 1 = some (.iload 1, 2) := am_kq68 1 _ _ _ rfl
theorem k68_2 : am_at 68 2 = some (.putfield 744, 5) := am_kq68 2 _ _ _ rfl
theorem k68_5 : am_at 68 5 = some (.bipush 0, 6) := am_kq68 3 _ _ _ rfl
theorem k68_6 : am_at 68 6 = some (.ireturn, 7) := am_kq68 4 _ _ _ rfl
set_option maxRecDepth 20000 in
theorem am_kq69 (i pc : Nat) (x : Instr) (nx : Nat) (hi : am_t69[i]? = some (pc, x, nx)) : am_at 69 pc = some (x, nx) := am_kB 69 am_t69 rfl (by decide +kernel) i pc x nx hi
theorem k69_0 : am_at 69 0 = some (.aload 0, 1) := am_kq69 0 _ _ _ rfl
theorem k69_1 : am_at 69 1 = some (.getfield 732, 4) := am_kq69 1 _ _ _ rfl
theorem k69_4 : am_at 69 4 = some (.iload 1, 5) := am_kq69 2 _ _ _ rfl
theorem k69_5 : am_at 69 5 = some (.iaload, 6) := am_kq69 3 _ _ _ rfl
theorem k69_6 : am_at 69 6 = some (.istore 4, 8) := am_kq69 4 _ _ _ rfl
theorem k69_8 : am_at 69 8 = some (.iload 4, 10) := am_kq69 5 _ _ _ rfl
theorem k69_10 : am_at 69 10 = some (.ifCond .ne 37, 13) := am_kq69 6 _ _ _ rfl
theorem k69_13 : am_at 69 13 = some (.aload 0, 14) := am_kq69 7 _ _ _ rfl
theorem k69_14 : am_at 69 14 = some (.getfield 733, 17) := am_kq69 8 _ _ _ rfl
theorem k69_17 : am_at 69 17 = some (.iload 1, 18) := am_kq69 9 _ _ _ rfl
theorem k69_18 : am_at 69 18 = some (.iaload, 19) := am_kq69 10 _ _ _ rfl
theorem k69_19 : am_at 69 19 = some (.bipush 1, 20) := am_kq69 11 _ _ _ rfl
theorem k69_20 : am_at 69 20 = some (.iadd, 21) := am_kq69 12 _ _ _ rfl
theorem k69_21 : am_at 69 21 = some (.aload 0, 22) := am_kq69 13 _ _ _ rfl
theorem k69_22 : am_at 69 22 = some (.bipush 0, 23) := am_kq69 14 _ _ _ rfl
theorem k69_23 : am_at 69 23 = some (.invokestatic 63, 26) := am_kq69 15 _ _ _ rfl
theorem k69_26 : am_at 69 26 = some (.if_icmp .lt 33, 29) := am_kq69 16 _ _ _ rfl
theorem k69_29 : am_at 69 29 = some (.bipush 1, 30) := am_kq69 17 _ _ _ rfl
theorem k69_30 : am_at 69 30 = some (.goto 48, 33) := am_kq69 18 _ _ _ rfl
theorem k69_33 : am_at 69 33 = some (.bipush 0, 34) := am_kq69 19 _ _ _ rfl
theorem k69_34 : am_at 69 34 = some (.goto 48, 37) := am_kq69 20 _ _ _ rfl
theorem k69_37 : am_at 69 37 = some (.iload 4, 39) := am_kq69 21 _ _ _ rfl
theorem k69_39 : am_at 69 39 = some (.bipush 3, 40) := am_kq69 22 _ _ _ rfl
theorem k69_40 : am_at 69 40 = some (.if_icmp .eq 47, 43) := am_kq69 23 _ _ _ rfl
theorem k69_43 : am_at 69 43 = some (.bipush 1, 44) := am_kq69 24 _ _ _ rfl
theorem k69_44 : am_at 69 44 = some (.goto 48, 47) := am_kq69 25 _ _ _ rfl
theorem k69_47 : am_at 69 47 = some (.bipush 0, 48) := am_kq69 26 _ _ _ rfl
theorem k69_48 : am_at 69 48 = some (.istore 5, 50) := am_kq69 27 _ _ _ rfl
theorem k69_50 : am_at 69 50 = some (.iload 2, 51) := am_kq69 28 _ _ _ rfl
theorem k69_51 : am_at 69 51 = some (.tableswitch 392 0 8 #[100, 109, 121, 159, 187, 215, 233, 283, 362], 100) := am_kq69 29 _ _ _ rfl
theorem k69_100 : am_at 69 100 = some (.aload 0, 101) := am_kq69 30 _ _ _ rfl
theorem k69_101 : am_at 69 101 = some (.getfield 735, 104) := am_kq69 31 _ _ _ rfl
theorem k69_104 : am_at 69 104 = some (.iload 1, 105) := am_kq69 32 _ _ _ rfl
theorem k69_105 : am_at 69 105 = some (.iload 3, 106) := am_kq69 33 _ _ _ rfl
theorem k69_106 : am_at 69 106 = some (.iastore, 107) := am_kq69 34 _ _ _ rfl
theorem k69_107 : am_at 69 107 = some (.bipush 1, 108) := am_kq69 35 _ _ _ rfl
theorem k69_108 : am_at 69 108 = some (.ireturn, 109) := am_kq69 36 _ _ _ rfl
theorem k69_109 : am_at 69 109 = some (.aload 0, 110) := am_kq69 37 _ _ _ rfl
theorem k69_110 : am_at 69 110 = some (.getfield 735, 113) := am_kq69 38 _ _ _ rfl
theorem k69_113 : am_at 69 113 = some (.iload 1, 114) := am_kq69 39 _ _ _ rfl
theorem k69_114 : am_at 69 114 = some (.dup2, 115) := am_kq69 40 _ _ _ rfl
theorem k69_115 : am_at 69 115 = some (.iaload, 116) := am_kq69 41 _ _ _ rfl
theorem k69_116 : am_at 69 116 = some (.iload 3, 117) := am_kq69 42 _ _ _ rfl
theorem k69_117 : am_at 69 117 = some (.iadd, 118) := am_kq69 43 _ _ _ rfl
theorem k69_118 : am_at 69 118 = some (.iastore, 119) := am_kq69 44 _ _ _ rfl
theorem k69_119 : am_at 69 119 = some (.bipush 1, 120) := am_kq69 45 _ _ _ rfl
theorem k69_120 : am_at 69 120 = some (.ireturn, 121) := am_kq69 46 _ _ _ rfl
theorem k69_121 : am_at 69 121 = some (.aload 0, 122) := am_kq69 47 _ _ _ rfl
theorem k69_122 : am_at 69 122 = some (.aload 0, 123) := am_kq69 48 _ _ _ rfl
theorem k69_123 : am_at 69 123 = some (.getfield 736, 126) := am_kq69 49 _ _ _ rfl
theorem k69_126 : am_at 69 126 = some (.iload 1, 127) := am_kq69 50 _ _ _ rfl
theorem k69_127 : am_at 69 127 = some (.iaload, 128) := am_kq69 51 _ _ _ rfl
theorem k69_128 : am_at 69 128 = some (.iload 3, 129) := am_kq69 52 _ _ _ rfl
theorem k69_129 : am_at 69 129 = some (.invokestatic 47, 132) := am_kq69 53 _ _ _ rfl
theorem k69_132 : am_at 69 132 = some (.lstore 6, 134) := am_kq69 54 _ _ _ rfl
theorem k69_134 : am_at 69 134 = some (.lload 6, 136) := am_kq69 55 _ _ _ rfl
theorem k69_136 : am_at 69 136 = some (.sipush 549755813888, 139) := am_kq69 56 _ _ _ rfl
theorem k69_139 : am_at 69 139 = some (.lcmp, 140) := am_kq69 57 _ _ _ rfl
theorem k69_140 : am_at 69 140 = some (.ifCond .le 145, 143) := am_kq69 58 _ _ _ rfl
theorem k69_143 : am_at 69 143 = some (.bipush 0, 144) := am_kq69 59 _ _ _ rfl
theorem k69_144 : am_at 69 144 = some (.ireturn, 145) := am_kq69 60 _ _ _ rfl
theorem k69_145 : am_at 69 145 = some (.aload 0, 146) := am_kq69 61 _ _ _ rfl
theorem k69_146 : am_at 69 146 = some (.getfield 735, 149) := am_kq69 62 _ _ _ rfl
theorem k69_149 : am_at 69 149 = some (.iload 1, 150) := am_kq69 63 _ _ _ rfl
theorem k69_150 : am_at 69 150 = some (.dup2, 151) := am_kq69 64 _ _ _ rfl
theorem k69_151 : am_at 69 151 = some (.iaload, 152) := am_kq69 65 _ _ _ rfl
theorem k69_152 : am_at 69 152 = some (.lload 6, 154) := am_kq69 66 _ _ _ rfl
theorem k69_154 : am_at 69 154 = some (.l2i, 155) := am_kq69 67 _ _ _ rfl
theorem k69_155 : am_at 69 155 = some (.iadd, 156) := am_kq69 68 _ _ _ rfl
theorem k69_156 : am_at 69 156 = some (.iastore, 157) := am_kq69 69 _ _ _ rfl
theorem k69_157 : am_at 69 157 = some (.bipush 1, 158) := am_kq69 70 _ _ _ rfl
theorem k69_158 : am_at 69 158 = some (.ireturn, 159) := am_kq69 71 _ _ _ rfl
theorem k69_159 : am_at 69 159 = some (.aload 0, 160) := am_kq69 72 _ _ _ rfl
theorem k69_160 : am_at 69 160 = some (.aload 0, 161) := am_kq69 73 _ _ _ rfl
theorem k69_161 : am_at 69 161 = some (.getfield 736, 164) := am_kq69 74 _ _ _ rfl
theorem k69_164 : am_at 69 164 = some (.iload 1, 165) := am_kq69 75 _ _ _ rfl
theorem k69_165 : am_at 69 165 = some (.iaload, 166) := am_kq69 76 _ _ _ rfl
theorem k69_166 : am_at 69 166 = some (.iload 3, 167) := am_kq69 77 _ _ _ rfl
theorem k69_167 : am_at 69 167 = some (.aload 0, 168) := am_kq69 78 _ _ _ rfl
theorem k69_168 : am_at 69 168 = some (.getfield 735, 171) := am_kq69 79 _ _ _ rfl
theorem k69_171 : am_at 69 171 = some (.iload 1, 172) := am_kq69 80 _ _ _ rfl
theorem k69_172 : am_at 69 172 = some (.iaload, 173) := am_kq69 81 _ _ _ rfl
theorem k69_173 : am_at 69 173 = some (.invokestatic 48, 176) := am_kq69 82 _ _ _ rfl
theorem k69_176 : am_at 69 176 = some (.sipush 1, 177) := am_kq69 83 _ _ _ rfl
theorem k69_177 : am_at 69 177 = some (.lcmp, 178) := am_kq69 84 _ _ _ rfl
theorem k69_178 : am_at 69 178 = some (.ifCond .ne 185, 181) := am_kq69 85 _ _ _ rfl
theorem k69_181 : am_at 69 181 = some (.bipush 1, 182) := am_kq69 86 _ _ _ rfl
theorem k69_182 : am_at 69 182 = some (.goto 186, 185) := am_kq69 87 _ _ _ rfl
theorem k69_185 : am_at 69 185 = some (.bipush 0, 186) := am_kq69 88 _ _ _ rfl
theorem k69_186 : am_at 69 186 = some (.ireturn, 187) := am_kq69 89 _ _ _ rfl
theorem k69_187 : am_at 69 187 = some (.iload 5, 189) := am_kq69 90 _ _ _ rfl
theorem k69_189 : am_at 69 189 = some (.ifCond .eq 199, 192) := am_kq69 91 _ _ _ rfl
theorem k69_192 : am_at 69 192 = some (.aload 0, 193) := am_kq69 92 _ _ _ rfl
theorem k69_193 : am_at 69 193 = some (.bipush (-10), 195) := am_kq69 93 _ _ _ rfl
theorem k69_195 : am_at 69 195 = some (.invokestatic 68, 198) := am_kq69 94 _ _ _ rfl
theorem k69_198 : am_at 69 198 = some (.ireturn, 199) := am_kq69 95 _ _ _ rfl
theorem k69_199 : am_at 69 199 = some (.aload 0, 200) := am_kq69 96 _ _ _ rfl
theorem k69_200 : am_at 69 200 = some (.iload 4, 202) := am_kq69 97 _ _ _ rfl
theorem k69_202 : am_at 69 202 = some (.aload 0, 203) := am_kq69 98 _ _ _ rfl
theorem k69_203 : am_at 69 203 = some (.getfield 733, 206) := am_kq69 99 _ _ _ rfl
theorem k69_206 : am_at 69 206 = some (.iload 1, 207) := am_kq69 100 _ _ _ rfl
theorem k69_207 : am_at 69 207 = some (.iaload, 208) := am_kq69 101 _ _ _ rfl
theorem k69_208 : am_at 69 208 = some (.bipush 1, 209) := am_kq69 102 _ _ _ rfl
theorem k69_209 : am_at 69 209 = some (.iadd, 210) := am_kq69 103 _ _ _ rfl
theorem k69_210 : am_at 69 210 = some (.invokestatic 64, 213) := am_kq69 104 _ _ _ rfl
theorem k69_213 : am_at 69 213 = some (.bipush 1, 214) := am_kq69 105 _ _ _ rfl
theorem k69_214 : am_at 69 214 = some (.ireturn, 215) := am_kq69 106 _ _ _ rfl
theorem k69_215 : am_at 69 215 = some (.aload 0, 216) := am_kq69 107 _ _ _ rfl
theorem k69_216 : am_at 69 216 = some (.getfield 735, 219) := am_kq69 108 _ _ _ rfl
theorem k69_219 : am_at 69 219 = some (.iload 1, 220) := am_kq69 109 _ _ _ rfl
theorem k69_220 : am_at 69 220 = some (.iload 5, 222) := am_kq69 110 _ _ _ rfl
theorem k69_222 : am_at 69 222 = some (.ifCond .eq 229, 225) := am_kq69 111 _ _ _ rfl
theorem k69_225 : am_at 69 225 = some (.bipush 0, 226) := am_kq69 112 _ _ _ rfl
theorem k69_226 : am_at 69 226 = some (.goto 230, 229) := am_kq69 113 _ _ _ rfl
theorem k69_229 : am_at 69 229 = some (.bipush 1, 230) := am_kq69 114 _ _ _ rfl
theorem k69_230 : am_at 69 230 = some (.iastore, 231) := am_kq69 115 _ _ _ rfl
theorem k69_231 : am_at 69 231 = some (.bipush 1, 232) := am_kq69 116 _ _ _ rfl
theorem k69_232 : am_at 69 232 = some (.ireturn, 233) := am_kq69 117 _ _ _ rfl
theorem k69_233 : am_at 69 233 = some (.bipush 19, 235) := am_kq69 118 _ _ _ rfl
theorem k69_235 : am_at 69 235 = some (.istore 8, 237) := am_kq69 119 _ _ _ rfl
theorem k69_237 : am_at 69 237 = some (.iload 8, 239) := am_kq69 120 _ _ _ rfl
theorem k69_239 : am_at 69 239 = some (.ifCond .le 264, 242) := am_kq69 121 _ _ _ rfl
theorem k69_242 : am_at 69 242 = some (.aload 0, 243) := am_kq69 122 _ _ _ rfl
theorem k69_243 : am_at 69 243 = some (.getfield 739, 246) := am_kq69 123 _ _ _ rfl
theorem k69_246 : am_at 69 246 = some (.iload 8, 248) := am_kq69 124 _ _ _ rfl
theorem k69_248 : am_at 69 248 = some (.aload 0, 249) := am_kq69 125 _ _ _ rfl
theorem k69_249 : am_at 69 249 = some (.getfield 739, 252) := am_kq69 126 _ _ _ rfl
theorem k69_252 : am_at 69 252 = some (.iload 8, 254) := am_kq69 127 _ _ _ rfl
theorem k69_254 : am_at 69 254 = some (.bipush 1, 255) := am_kq69 128 _ _ _ rfl
theorem k69_255 : am_at 69 255 = some (.isub, 256) := am_kq69 129 _ _ _ rfl
theorem k69_256 : am_at 69 256 = some (.iaload, 257) := am_kq69 130 _ _ _ rfl
theorem k69_257 : am_at 69 257 = some (.iastore, 258) := am_kq69 131 _ _ _ rfl
theorem k69_258 : am_at 69 258 = some (.iinc 8 (-1), 261) := am_kq69 132 _ _ _ rfl
theorem k69_261 : am_at 69 261 = some (.goto 237, 264) := am_kq69 133 _ _ _ rfl
theorem k69_264 : am_at 69 264 = some (.aload 0, 265) := am_kq69 134 _ _ _ rfl
theorem k69_265 : am_at 69 265 = some (.getfield 739, 268) := am_kq69 135 _ _ _ rfl
theorem k69_268 : am_at 69 268 = some (.bipush 0, 269) := am_kq69 136 _ _ _ rfl
theorem k69_269 : am_at 69 269 = some (.iload 3, 270) := am_kq69 137 _ _ _ rfl
theorem k69_270 : am_at 69 270 = some (.iastore, 271) := am_kq69 138 _ _ _ rfl
theorem k69_271 : am_at 69 271 = some (.aload 0, 272) := am_kq69 139 _ _ _ rfl
theorem k69_272 : am_at 69 272 = some (.getfield 740, 275) := am_kq69 140 _ _ _ rfl
theorem k69_275 : am_at 69 275 = some (.bipush 3, 276) := am_kq69 141 _ _ _ rfl
theorem k69_276 : am_at 69 276 = some (.dup2, 277) := am_kq69 142 _ _ _ rfl
theorem k69_277 : am_at 69 277 = some (.iaload, 278) := am_kq69 143 _ _ _ rfl
theorem k69_278 : am_at 69 278 = some (.bipush 1, 279) := am_kq69 144 _ _ _ rfl
theorem k69_279 : am_at 69 279 = some (.iadd, 280) := am_kq69 145 _ _ _ rfl
theorem k69_280 : am_at 69 280 = some (.iastore, 281) := am_kq69 146 _ _ _ rfl
theorem k69_281 : am_at 69 281 = some (.bipush 1, 282) := am_kq69 147 _ _ _ rfl
theorem k69_282 : am_at 69 282 = some (.ireturn, 283) := am_kq69 148 _ _ _ rfl
theorem k69_283 : am_at 69 283 = some (.aload 0, 284) := am_kq69 149 _ _ _ rfl
theorem k69_284 : am_at 69 284 = some (.getfield 716, 287) := am_kq69 150 _ _ _ rfl
theorem k69_287 : am_at 69 287 = some (.iload 3, 288) := am_kq69 151 _ _ _ rfl
theorem k69_288 : am_at 69 288 = some (.iaload, 289) := am_kq69 152 _ _ _ rfl
theorem k69_289 : am_at 69 289 = some (.ifCond .ne 299, 292) := am_kq69 153 _ _ _ rfl
theorem k69_292 : am_at 69 292 = some (.aload 0, 293) := am_kq69 154 _ _ _ rfl
theorem k69_293 : am_at 69 293 = some (.bipush (-2), 295) := am_kq69 155 _ _ _ rfl
theorem k69_295 : am_at 69 295 = some (.invokestatic 68, 298) := am_kq69 156 _ _ _ rfl
theorem k69_298 : am_at 69 298 = some (.ireturn, 299) := am_kq69 157 _ _ _ rfl
theorem k69_299 : am_at 69 299 = some (.aload 0, 300) := am_kq69 158 _ _ _ rfl
theorem k69_300 : am_at 69 300 = some (.getfield 742, 303) := am_kq69 159 _ _ _ rfl
theorem k69_303 : am_at 69 303 = some (.bipush 12, 305) := am_kq69 160 _ _ _ rfl
theorem k69_305 : am_at 69 305 = some (.if_icmp .ne 315, 308) := am_kq69 161 _ _ _ rfl
theorem k69_308 : am_at 69 308 = some (.aload 0, 309) := am_kq69 162 _ _ _ rfl
theorem k69_309 : am_at 69 309 = some (.bipush (-11), 311) := am_kq69 163 _ _ _ rfl
theorem k69_311 : am_at 69 311 = some (.invokestatic 68, 314) := am_kq69 164 _ _ _ rfl
theorem k69_314 : am_at 69 314 = some (.ireturn, 315) := am_kq69 165 _ _ _ rfl
theorem k69_315 : am_at 69 315 = some (.aload 0, 316) := am_kq69 166 _ _ _ rfl
theorem k69_316 : am_at 69 316 = some (.iload 3, 317) := am_kq69 167 _ _ _ rfl
theorem k69_317 : am_at 69 317 = some (.aload 0, 318) := am_kq69 168 _ _ _ rfl
theorem k69_318 : am_at 69 318 = some (.getfield 736, 321) := am_kq69 169 _ _ _ rfl
theorem k69_321 : am_at 69 321 = some (.iload 1, 322) := am_kq69 170 _ _ _ rfl
theorem k69_322 : am_at 69 322 = some (.iaload, 323) := am_kq69 171 _ _ _ rfl
theorem k69_323 : am_at 69 323 = some (.aload 0, 324) := am_kq69 172 _ _ _ rfl
theorem k69_324 : am_at 69 324 = some (.getfield 716, 327) := am_kq69 173 _ _ _ rfl
theorem k69_327 : am_at 69 327 = some (.aload 0, 328) := am_kq69 174 _ _ _ rfl
theorem k69_328 : am_at 69 328 = some (.getfield 730, 331) := am_kq69 175 _ _ _ rfl
theorem k69_331 : am_at 69 331 = some (.aload 0, 332) := am_kq69 176 _ _ _ rfl
theorem k69_332 : am_at 69 332 = some (.getfield 742, 335) := am_kq69 177 _ _ _ rfl
theorem k69_335 : am_at 69 335 = some (.bipush 1, 336) := am_kq69 178 _ _ _ rfl
theorem k69_336 : am_at 69 336 = some (.isub, 337) := am_kq69 179 _ _ _ rfl
theorem k69_337 : am_at 69 337 = some (.iaload, 338) := am_kq69 180 _ _ _ rfl
theorem k69_338 : am_at 69 338 = some (.iaload, 339) := am_kq69 181 _ _ _ rfl
theorem k69_339 : am_at 69 339 = some (.bipush 2, 340) := am_kq69 182 _ _ _ rfl
theorem k69_340 : am_at 69 340 = some (.if_icmp .ne 352, 343) := am_kq69 183 _ _ _ rfl
theorem k69_343 : am_at 69 343 = some (.aload 0, 344) := am_kq69 184 _ _ _ rfl
theorem k69_344 : am_at 69 344 = some (.getfield 737, 347) := am_kq69 185 _ _ _ rfl
theorem k69_347 : am_at 69 347 = some (.iload 1, 348) := am_kq69 186 _ _ _ rfl
theorem k69_348 : am_at 69 348 = some (.iaload, 349) := am_kq69 187 _ _ _ rfl
theorem k69_349 : am_at 69 349 = some (.goto 358, 352) := am_kq69 188 _ _ _ rfl
theorem k69_352 : am_at 69 352 = some (.aload 0, 353) := am_kq69 189 _ _ _ rfl
theorem k69_353 : am_at 69 353 = some (.getfield 736, 356) := am_kq69 190 _ _ _ rfl
theorem k69_356 : am_at 69 356 = some (.iload 1, 357) := am_kq69 191 _ _ _ rfl
theorem k69_357 : am_at 69 357 = some (.iaload, 358) := am_kq69 192 _ _ _ rfl
theorem k69_358 : am_at 69 358 = some (.invokestatic 60, 361) := am_kq69 193 _ _ _ rfl
theorem k69_361 : am_at 69 361 = some (.ireturn, 362) := am_kq69 194 _ _ _ rfl
theorem k69_362 : am_at 69 362 = some (.aload 0, 363) := am_kq69 195 _ _ _ rfl
theorem k69_363 : am_at 69 363 = some (.aload 0, 364) := am_kq69 196 _ _ _ rfl
theorem k69_364 : am_at 69 364 = some (.getfield 736, 367) := am_kq69 197 _ _ _ rfl
theorem k69_367 : am_at 69 367 = some (.iload 1, 368) := am_kq69 198 _ _ _ rfl
theorem k69_368 : am_at 69 368 = some (.iaload, 369) := am_kq69 199 _ _ _ rfl
theorem k69_369 : am_at 69 369 = some (.iload 3, 370) := am_kq69 200 _ _ _ rfl
set_option maxRecDepth 20000 in
theorem k69_370 : am_at 69 370 = some (.invokestatic 44, 373) := am_kq69 201 _ _ _ rfl
set_option maxRecDepth 20000 in
theorem k69_373 : am_at 69 373 = some (.bipush 1, 374) := am_kq69 202 _ _ _ rfl
set_option maxRecDepth 20000 in
theorem k69_374 : am_at 69 374 = some (.if_icmp .eq 386, 377) := am_kq69 203 _ _ _ rfl
set_option maxRecDepth 20000 in
theorem k69_377 : am_at 69 377 = some (.aload 0, 378) := am_kq69 204 _ _ _ rfl
set_option maxRecDepth 20000 in
theorem k69_378 : am_at 69 378 = some (.bipush (-2), 380) := am_kq69 205 _ _ _ rfl
set_option maxRecDepth 20000 in
theorem k69_380 : am_at 69 380 = some (.invokestatic 68, 383) := am_kq69 206 _ _ _ rfl
set_option maxRecDepth 20000 in
theorem k69_383 : am_at 69 383 = some (.ifCond .eq 390, 386) := am_kq69 207 _ _ _ rfl
set_option maxRecDepth 20000 in
theorem k69_386 : am_at 69 386 = some (.bipush 1, 387) := am_kq69 208 _ _ _ rfl
set_option maxRecDepth 20000 in
theorem k69_387 : am_at 69 387 = some (.goto 391, 390) := am_kq69 209 _ _ _ rfl
set_option maxRecDepth 20000 in
theorem k69_390 : am_at 69 390 = some (.bipush 0, 391) := am_kq69 210 _ _ _ rfl
set_option maxRecDepth 20000 in
theorem k69_391 : am_at 69 391 = some (.ireturn, 392) := am_kq69 211 _ _ _ rfl
set_option maxRecDepth 20000 in
theorem k69_392 : am_at 69 392 = some (.aload 0, 393) := am_kq69 212 _ _ _ rfl
set_option maxRecDepth 20000 in
theorem k69_393 : am_at 69 393 = some (.getfield 716, 396) := am_kq69 213 _ _ _ rfl
set_option maxRecDepth 20000 in
theorem k69_396 : am_at 69 396 = some (.aload 0, 397) := am_kq69 214 _ _ _ rfl
set_option maxRecDepth 20000 in
theorem k69_397 : am_at 69 397 = some (.getfield 730, 400) := am_kq69 215 _ _ _ rfl
set_option maxRecDepth 20000 in
theorem k69_400 : am_at 69 400 = some (.aload 0, 401) := am_kq69 216 _ _ _ rfl
set_option maxRecDepth 20000 in
theorem k69_401 : am_at 69 401 = some (.getfield 742, 404) := am_kq69 217 _ _ _ rfl
set_option maxRecDepth 20000 in
theorem k69_404 : am_at 69 404 = some (.bipush 1, 405) := am_kq69 218 _ _ _ rfl
set_option maxRecDepth 20000 in
theorem k69_405 : am_at 69 405 = some (.isub, 406) := am_kq69 219 _ _ _ rfl
set_option maxRecDepth 20000 in
theorem k69_406 : am_at 69 406 = some (.iaload, 407) := am_kq69 220 _ _ _ rfl
set_option maxRecDepth 20000 in
theorem k69_407 : am_at 69 407 = some (.iaload, 408) := am_kq69 221 _ _ _ rfl
set_option maxRecDepth 20000 in
theorem k69_408 : am_at 69 408 = some (.bipush 2, 409) := am_kq69 222 _ _ _ rfl
set_option maxRecDepth 20000 in
theorem k69_409 : am_at 69 409 = some (.if_icmp .ge 414, 412) := am_kq69 223 _ _ _ rfl
set_option maxRecDepth 20000 in
theorem k69_412 : am_at 69 412 = some (.bipush 1, 413) := am_kq69 224 _ _ _ rfl
set_option maxRecDepth 20000 in
theorem k69_413 : am_at 69 413 = some (.ireturn, 414) := am_kq69 225 _ _ _ rfl
set_option maxRecDepth 20000 in
theorem k69_414 : am_at 69 414 = some (.aload 0, 415) := am_kq69 226 _ _ _ rfl
set_option maxRecDepth 20000 in
theorem k69_415 : am_at 69 415 = some (.getfield 736, 418) := am_kq69 227 _ _ _ rfl
set_option maxRecDepth 20000 in
theorem k69_418 : am_at 69 418 = some (.iload 1, 419) := am_kq69 228 _ _ _ rfl
set_option maxRecDepth 20000 in
theorem k69_419 : am_at 69 419 = some (.iaload, 420) := am_kq69 229 _ _ _ rfl
set_option maxRecDepth 20000 in
theorem k69_420 : am_at 69 420 = some (.istore 8, 422) := am_kq69 230 _ _ _ rfl
set_option maxRecDepth 20000 in
theorem k69_422 : am_at 69 422 = some (.aload 0, 423) := am_kq69 231 _ _ _ rfl
set_option maxRecDepth 20000 in
theorem k69_423 : am_at 69 423 = some (.getfield 736, 426) := am_kq69 232 _ _ _ rfl
set_option maxRecDepth 20000 in
theorem k69_426 : am_at 69 426 = some (.iload 1, 427) := am_kq69 233 _ _ _ rfl
set_option maxRecDepth 20000 in
theorem k69_427 : am_at 69 427 = some (.aload 0, 428) := am_kq69 234 _ _ _ rfl
set_option maxRecDepth 20000 in
theorem k69_428 : am_at 69 428 = some (.getfield 737, 431) := am_kq69 235 _ _ _ rfl
set_option maxRecDepth 20000 in
theorem k69_431 : am_at 69 431 = some (.iload 1, 432) := am_kq69 236 _ _ _ rfl
set_option maxRecDepth 20000 in
theorem k69_432 : am_at 69 432 = some (.iaload, 433) := am_kq69 237 _ _ _ rfl
set_option maxRecDepth 20000 in
theorem k69_433 : am_at 69 433 = some (.iastore, 434) := am_kq69 238 _ _ _ rfl
set_option maxRecDepth 20000 in
theorem k69_434 : am_at 69 434 = some (.aload 0, 435) := am_kq69 239 _ _ _ rfl
set_option maxRecDepth 20000 in
theorem k69_435 : am_at 69 435 = some (.getfield 737, 438) := am_kq69 240 _ _ _ rfl
set_option maxRecDepth 20000 in
theorem k69_438 : am_at 69 438 = some (.iload 1, 439) := am_kq69 241 _ _ _ rfl
set_option maxRecDepth 20000 in
theorem k69_439 : am_at 69 439 = some (.iload 8, 441) := am_kq69 242 _ _ _ rfl
set_option maxRecDepth 20000 in
theorem k69_441 : am_at 69 441 = some (.iastore, 442) := am_kq69 243 _ _ _ rfl
set_option maxRecDepth 20000 in
theorem k69_442 : am_at 69 442 = some (.bipush 1, 443) := am_kq69 244 _ _ _ rfl
set_option maxRecDepth 20000 in
theorem k69_443 : am_at 69 443 = some (.ireturn, 444) := am_kq69 245 _ _ _ rfl
set_option maxRecDepth 20000 in
theorem am_kq70 (i pc : Nat) (x : Instr) (nx : Nat) (hi : am_t70[i]? = some (pc, x, nx)) : am_at 70 pc = some (x, nx) := am_kB 70 am_t70 rfl (by decide +kernel) i pc x nx hi
theorem k70_0 : am_at 70 0 = some (.iload 1, 1) := am_kq70 0 _ _ _ rfl
theorem k70_1 : am_at 70 1 = some (.bipush 0, 2) := am_kq70 1 _ _ _ rfl
theorem k70_2 : am_at 70 2 = some (.bipush 4, 3) := am_kq70 2 _ _ _ rfl
theorem k70_3 : am_at 70 3 = some (.invokestatic 31, 6) := am_kq70 3 _ _ _ rfl
theorem k70_6 : am_at 70 6 = some (.ifCond .eq 44, 9) := am_kq70 4 _ _ _ rfl
theorem k70_9 : am_at 70 9 = some (.aload 0, 10) := am_kq70 5 _ _ _ rfl
theorem k70_10 : am_at 70 10 = some (.getfield 716, 13) := am_kq70 6 _ _ _ rfl
theorem k70_13 : am_at 70 13 = some (.iload 1, 14) := am_kq70 7 _ _ _ rfl
theorem k70_14 : am_at 70 14 = some (.iaload, 15) := am_kq70 8 _ _ _ rfl
theorem k70_15 : am_at 70 15 = some (.ifCond .eq 44, 18) := am_kq70 9 _ _ _ rfl
theorem k70_18 : am_at 70 18 = some (.aload 0, 19) := am_kq70 10 _ _ _ rfl
theorem k70_19 : am_at 70 19 = some (.iload 2, 20) := am_kq70 11 _ _ _ rfl
theorem k70_20 : am_at 70 20 = some (.invokestatic 33, 23) := am_kq70 12 _ _ _ rfl
theorem k70_23 : am_at 70 23 = some (.ifCond .eq 44, 26) := am_kq70 13 _ _ _ rfl
theorem k70_26 : am_at 70 26 = some (.aload 0, 27) := am_kq70 14 _ _ _ rfl
theorem k70_27 : am_at 70 27 = some (.getfield 716, 30) := am_kq70 15 _ _ _ rfl
theorem k70_30 : am_at 70 30 = some (.iload 1, 31) := am_kq70 16 _ _ _ rfl
theorem k70_31 : am_at 70 31 = some (.iaload, 32) := am_kq70 17 _ _ _ rfl
theorem k70_32 : am_at 70 32 = some (.bipush 2, 33) := am_kq70 18 _ _ _ rfl
theorem k70_33 : am_at 70 33 = some (.if_icmp .ne 48, 36) := am_kq70 19 _ _ _ rfl
theorem k70_36 : am_at 70 36 = some (.aload 0, 37) := am_kq70 20 _ _ _ rfl
theorem k70_37 : am_at 70 37 = some (.iload 3, 38) := am_kq70 21 _ _ _ rfl
theorem k70_38 : am_at 70 38 = some (.invokestatic 33, 41) := am_kq70 22 _ _ _ rfl
theorem k70_41 : am_at 70 41 = some (.ifCond .ne 48, 44) := am_kq70 23 _ _ _ rfl
theorem k70_44 : am_at 70 44 = some (.sipush 1099511627774, 47) := am_kq70 24 _ _ _ rfl
theorem k70_47 : am_at 70 47 = some (.lreturn, 48) := am_kq70 25 _ _ _ rfl
theorem k70_48 : am_at 70 48 = some (.aload 0, 49) := am_kq70 26 _ _ _ rfl
theorem k70_49 : am_at 70 49 = some (.bipush 0, 50) := am_kq70 27 _ _ _ rfl
theorem k70_50 : am_at 70 50 = some (.putfield 742, 53) := am_kq70 28 _ _ _ rfl
theorem k70_53 : am_at 70 53 = some (.aload 0, 54) := am_kq70 29 _ _ _ rfl
theorem k70_54 : am_at 70 54 = some (.bipush 0, 55) := am_kq70 30 _ _ _ rfl
theorem k70_55 : am_at 70 55 = some (.putfield 743, 58) := am_kq70 31 _ _ _ rfl
theorem k70_58 : am_at 70 58 = some (.aload 0, 59) := am_kq70 32 _ _ _ rfl
theorem k70_59 : am_at 70 59 = some (.bipush 0, 60) := am_kq70 33 _ _ _ rfl
theorem k70_60 : am_at 70 60 = some (.putfield 745, 63) := am_kq70 34 _ _ _ rfl
theorem k70_63 : am_at 70 63 = some (.aload 0, 64) := am_kq70 35 _ _ _ rfl
theorem k70_64 : am_at 70 64 = some (.iload 1, 65) := am_kq70 36 _ _ _ rfl
theorem k70_65 : am_at 70 65 = some (.iload 2, 66) := am_kq70 37 _ _ _ rfl
theorem k70_66 : am_at 70 66 = some (.aload 0, 67) := am_kq70 38 _ _ _ rfl
theorem k70_67 : am_at 70 67 = some (.getfield 716, 70) := am_kq70 39 _ _ _ rfl
theorem k70_70 : am_at 70 70 = some (.iload 1, 71) := am_kq70 40 _ _ _ rfl
theorem k70_71 : am_at 70 71 = some (.iaload, 72) := am_kq70 41 _ _ _ rfl
theorem k70_72 : am_at 70 72 = some (.bipush 2, 73) := am_kq70 42 _ _ _ rfl
theorem k70_73 : am_at 70 73 = some (.if_icmp .ne 80, 76) := am_kq70 43 _ _ _ rfl
theorem k70_76 : am_at 70 76 = some (.iload 3, 77) := am_kq70 44 _ _ _ rfl
theorem k70_77 : am_at 70 77 = some (.goto 81, 80) := am_kq70 45 _ _ _ rfl
theorem k70_80 : am_at 70 80 = some (.iload 2, 81) := am_kq70 46 _ _ _ rfl
theorem k70_81 : am_at 70 81 = some (.invokestatic 60, 84) := am_kq70 47 _ _ _ rfl
theorem k70_84 : am_at 70 84 = some (.istore 4, 86) := am_kq70 48 _ _ _ rfl
theorem k70_86 : am_at 70 86 = some (.iload 4, 88) := am_kq70 49 _ _ _ rfl
theorem k70_88 : am_at 70 88 = some (.ifCond .eq 107, 91) := am_kq70 50 _ _ _ rfl
theorem k70_91 : am_at 70 91 = some (.aload 0, 92) := am_kq70 51 _ _ _ rfl
theorem k70_92 : am_at 70 92 = some (.getfield 743, 95) := am_kq70 52 _ _ _ rfl
theorem k70_95 : am_at 70 95 = some (.ifCond .le 107, 98) := am_kq70 53 _ _ _ rfl
theorem k70_98 : am_at 70 98 = some (.aload 0, 99) := am_kq70 54 _ _ _ rfl
theorem k70_99 : am_at 70 99 = some (.invokestatic 67, 102) := am_kq70 55 _ _ _ rfl
theorem k70_102 : am_at 70 102 = some (.istore 4, 104) := am_kq70 56 _ _ _ rfl
theorem k70_104 : am_at 70 104 = some (.goto 86, 107) := am_kq70 57 _ _ _ rfl
theorem k70_107 : am_at 70 107 = some (.iload 4, 109) := am_kq70 58 _ _ _ rfl
theorem k70_109 : am_at 70 109 = some (.ifCond .ne 122, 112) := am_kq70 59 _ _ _ rfl
theorem k70_112 : am_at 70 112 = some (.sipush 1099511627776, 115) := am_kq70 60 _ _ _ rfl
theorem k70_115 : am_at 70 115 = some (.aload 0, 116) := am_kq70 61 _ _ _ rfl
theorem k70_116 : am_at 70 116 = some (.getfield 744, 119) := am_kq70 62 _ _ _ rfl
theorem k70_119 : am_at 70 119 = some (.i2l, 120) := am_kq70 63 _ _ _ rfl
theorem k70_120 : am_at 70 120 = some (.ladd, 121) := am_kq70 64 _ _ _ rfl
theorem k70_121 : am_at 70 121 = some (.lreturn, 122) := am_kq70 65 _ _ _ rfl
theorem k70_122 : am_at 70 122 = some (.aload 0, 123) := am_kq70 66 _ _ _ rfl
theorem k70_123 : am_at 70 123 = some (.getfield 740, 126) := am_kq70 67 _ _ _ rfl
theorem k70_126 : am_at 70 126 = some (.bipush 8, 128) := am_kq70 68 _ _ _ rfl
theorem k70_128 : am_at 70 128 = some (.dup2, 129) := am_kq70 69 _ _ _ rfl
theorem k70_129 : am_at 70 129 = some (.iaload, 130) := am_kq70 70 _ _ _ rfl
theorem k70_130 : am_at 70 130 = some (.bipush 1, 131) := am_kq70 71 _ _ _ rfl
theorem k70_131 : am_at 70 131 = some (.iadd, 132) := am_kq70 72 _ _ _ rfl
theorem k70_132 : am_at 70 132 = some (.iastore, 133) := am_kq70 73 _ _ _ rfl
theorem k70_133 : am_at 70 133 = some (.aload 0, 134) := am_kq70 74 _ _ _ rfl
theorem k70_134 : am_at 70 134 = some (.getfield 746, 137) := am_kq70 75 _ _ _ rfl
theorem k70_137 : am_at 70 137 = some (.lreturn, 138) := am_kq70 76 _ _ _ rfl
set_option maxRecDepth 20000 in
theorem am_kq71 (i pc : Nat) (x : Instr) (nx : Nat) (hi : am_t71[i]? = some (pc, x, nx)) : am_at 71 pc = some (x, nx) := am_kB 71 am_t71 rfl (by decide +kernel) i pc x nx hi
theorem k71_0 : am_at 71 0 = some (.aload 0, 1) := am_kq71 0 _ _ _ rfl
theorem k71_1 : am_at 71 1 = some (.iload 1, 2) := am_kq71 1 _ _ _ rfl
theorem k71_2 : am_at 71 2 = some (.invokestatic 32, 5) := am_kq71 2 _ _ _ rfl
theorem k71_5 : am_at 71 5 = some (.ifCond .eq 38, 8) := am_kq71 3 _ _ _ rfl
theorem k71_8 : am_at 71 8 = some (.iload 2, 9) := am_kq71 4 _ _ _ rfl
theorem k71_9 : am_at 71 9 = some (.bipush 0, 10) := am_kq71 5 _ _ _ rfl
theorem k71_10 : am_at 71 10 = some (.aload 0, 11) := am_kq71 6 _ _ _ rfl
theorem k71_11 : am_at 71 11 = some (.getfield 707, 14) := am_kq71 7 _ _ _ rfl
theorem k71_14 : am_at 71 14 = some (.iload 1, 15) := am_kq71 8 _ _ _ rfl
theorem k71_15 : am_at 71 15 = some (.iaload, 16) := am_kq71 9 _ _ _ rfl
theorem k71_16 : am_at 71 16 = some (.bipush 1, 17) := am_kq71 10 _ _ _ rfl
theorem k71_17 : am_at 71 17 = some (.isub, 18) := am_kq71 11 _ _ _ rfl
theorem k71_18 : am_at 71 18 = some (.invokestatic 31, 21) := am_kq71 12 _ _ _ rfl
theorem k71_21 : am_at 71 21 = some (.ifCond .eq 38, 24) := am_kq71 13 _ _ _ rfl
theorem k71_24 : am_at 71 24 = some (.aload 0, 25) := am_kq71 14 _ _ _ rfl
theorem k71_25 : am_at 71 25 = some (.getfield 706, 28) := am_kq71 15 _ _ _ rfl
theorem k71_28 : am_at 71 28 = some (.bipush 12, 30) := am_kq71 16 _ _ _ rfl
theorem k71_30 : am_at 71 30 = some (.iload 1, 31) := am_kq71 17 _ _ _ rfl
theorem k71_31 : am_at 71 31 = some (.imul, 32) := am_kq71 18 _ _ _ rfl
theorem k71_32 : am_at 71 32 = some (.iload 2, 33) := am_kq71 19 _ _ _ rfl
theorem k71_33 : am_at 71 33 = some (.iadd, 34) := am_kq71 20 _ _ _ rfl
theorem k71_34 : am_at 71 34 = some (.iaload, 35) := am_kq71 21 _ _ _ rfl
theorem k71_35 : am_at 71 35 = some (.goto 40, 38) := am_kq71 22 _ _ _ rfl
theorem k71_38 : am_at 71 38 = some (.bipush (-2), 40) := am_kq71 23 _ _ _ rfl
theorem k71_40 : am_at 71 40 = some (.ireturn, 41) := am_kq71 24 _ _ _ rfl
set_option maxRecDepth 20000 in
theorem am_kq72 (i pc : Nat) (x : Instr) (nx : Nat) (hi : am_t72[i]? = some (pc, x, nx)) : am_at 72 pc = some (x, nx) := am_kB 72 am_t72 rfl (by decide +kernel) i pc x nx hi
theorem k72_0 : am_at 72 0 = some (.aload 0, 1) := am_kq72 0 _ _ _ rfl
theorem k72_1 : am_at 72 1 = some (.iload 1, 2) := am_kq72 1 _ _ _ rfl
theorem k72_2 : am_at 72 2 = some (.invokestatic 32, 5) := am_kq72 2 _ _ _ rfl
theorem k72_5 : am_at 72 5 = some (.ifCond .ne 11, 8) := am_kq72 3 _ _ _ rfl
theorem k72_8 : am_at 72 8 = some (.bipush (-2), 10) := am_kq72 4 _ _ _ rfl
theorem k72_10 : am_at 72 10 = some (.ireturn, 11) := am_kq72 5 _ _ _ rfl
theorem k72_11 : am_at 72 11 = some (.iload 2, 12) := am_kq72 6 _ _ _ rfl
theorem k72_12 : am_at 72 12 = some (.bipush 0, 13) := am_kq72 7 _ _ _ rfl
theorem k72_13 : am_at 72 13 = some (.bipush 5, 14) := am_kq72 8 _ _ _ rfl
theorem k72_14 : am_at 72 14 = some (.invokestatic 31, 17) := am_kq72 9 _ _ _ rfl
theorem k72_17 : am_at 72 17 = some (.ifCond .ne 22, 20) := am_kq72 10 _ _ _ rfl
theorem k72_20 : am_at 72 20 = some (.bipush (-1), 21) := am_kq72 11 _ _ _ rfl
theorem k72_21 : am_at 72 21 = some (.ireturn, 22) := am_kq72 12 _ _ _ rfl
theorem k72_22 : am_at 72 22 = some (.aload 0, 23) := am_kq72 13 _ _ _ rfl
theorem k72_23 : am_at 72 23 = some (.iload 1, 24) := am_kq72 14 _ _ _ rfl
theorem k72_24 : am_at 72 24 = some (.iload 2, 25) := am_kq72 15 _ _ _ rfl
theorem k72_25 : am_at 72 25 = some (.invokestatic 39, 28) := am_kq72 16 _ _ _ rfl
theorem k72_28 : am_at 72 28 = some (.istore 3, 29) := am_kq72 17 _ _ _ rfl
theorem k72_29 : am_at 72 29 = some (.iload 3, 30) := am_kq72 18 _ _ _ rfl
theorem k72_30 : am_at 72 30 = some (.ifCond .ge 37, 33) := am_kq72 19 _ _ _ rfl
theorem k72_33 : am_at 72 33 = some (.bipush (-1), 34) := am_kq72 20 _ _ _ rfl
theorem k72_34 : am_at 72 34 = some (.goto 41, 37) := am_kq72 21 _ _ _ rfl
theorem k72_37 : am_at 72 37 = some (.iload 3, 38) := am_kq72 22 _ _ _ rfl
theorem k72_38 : am_at 72 38 = some (.bipush 6, 40) := am_kq72 23 _ _ _ rfl
theorem k72_40 : am_at 72 40 = some (.idiv, 41) := am_kq72 24 _ _ _ rfl
theorem k72_41 : am_at 72 41 = some (.ireturn, 42) := am_kq72 25 _ _ _ rfl
set_option maxRecDepth 20000 in
theorem am_kq73 (i pc : Nat) (x : Instr) (nx : Nat) (hi : am_t73[i]? = some (pc, x, nx)) : am_at 73 pc = some (x, nx) := am_kB 73 am_t73 rfl (by decide +kernel) i pc x nx hi
theorem k73_0 : am_at 73 0 = some (.aload 0, 1) := am_kq73 0 _ _ _ rfl
theorem k73_1 : am_at 73 1 = some (.iload 1, 2) := am_kq73 1 _ _ _ rfl
theorem k73_2 : am_at 73 2 = some (.invokestatic 33, 5) := am_kq73 2 _ _ _ rfl
theorem k73_5 : am_at 73 5 = some (.ifCond .ne 11, 8) := am_kq73 3 _ _ _ rfl
theorem k73_8 : am_at 73 8 = some (.bipush (-2), 10) := am_kq73 4 _ _ _ rfl
theorem k73_10 : am_at 73 10 = some (.ireturn, 11) := am_kq73 5 _ _ _ rfl
theorem k73_11 : am_at 73 11 = some (.iload 2, 12) := am_kq73 6 _ _ _ rfl
theorem k73_12 : am_at 73 12 = some (.tableswitch 61 0 2 #[40, 47, 54], 40) := am_kq73 7 _ _ _ rfl
theorem k73_40 : am_at 73 40 = some (.aload 0, 41) := am_kq73 8 _ _ _ rfl
theorem k73_41 : am_at 73 41 = some (.getfield 712, 44) := am_kq73 9 _ _ _ rfl
theorem k73_44 : am_at 73 44 = some (.iload 1, 45) := am_kq73 10 _ _ _ rfl
theorem k73_45 : am_at 73 45 = some (.iaload, 46) := am_kq73 11 _ _ _ rfl
theorem k73_46 : am_at 73 46 = some (.ireturn, 47) := am_kq73 12 _ _ _ rfl
theorem k73_47 : am_at 73 47 = some (.aload 0, 48) := am_kq73 13 _ _ _ rfl
theorem k73_48 : am_at 73 48 = some (.getfield 713, 51) := am_kq73 14 _ _ _ rfl
theorem k73_51 : am_at 73 51 = some (.iload 1, 52) := am_kq73 15 _ _ _ rfl
theorem k73_52 : am_at 73 52 = some (.iaload, 53) := am_kq73 16 _ _ _ rfl
theorem k73_53 : am_at 73 53 = some (.ireturn, 54) := am_kq73 17 _ _ _ rfl
theorem k73_54 : am_at 73 54 = some (.aload 0, 55) := am_kq73 18 _ _ _ rfl
theorem k73_55 : am_at 73 55 = some (.getfield 714, 58) := am_kq73 19 _ _ _ rfl
theorem k73_58 : am_at 73 58 = some (.iload 1, 59) := am_kq73 20 _ _ _ rfl
theorem k73_59 : am_at 73 59 = some (.iaload, 60) := am_kq73 21 _ _ _ rfl
theorem k73_60 : am_at 73 60 = some (.ireturn, 61) := am_kq73 22 _ _ _ rfl
theorem k73_61 : am_at 73 61 = some (.bipush (-2), 63) := am_kq73 23 _ _ _ rfl
theorem k73_63 : am_at 73 63 = some (.ireturn, 64) := am_kq73 24 _ _ _ rfl
set_option maxRecDepth 20000 in
theorem am_kq74 (i pc : Nat) (x : Instr) (nx : Nat) (hi : am_t74[i]? = some (pc, x, nx)) : am_at 74 pc = some (x, nx) := am_kB 74 am_t74 rfl (by decide +kernel) i pc x nx hi
theorem k74_0 : am_at 74 0 = some (.iload 1, 1) := am_kq74 0 _ _ _ rfl
theorem k74_1 : am_at 74 1 = some (.bipush 0, 2) := am_kq74 1 _ _ _ rfl
theorem k74_2 : am_at 74 2 = some (.bipush 19, 4) := am_kq74 2 _ _ _ rfl
theorem k74_4 : am_at 74 4 = some (.invokestatic 31, 7) := am_kq74 3 _ _ _ rfl
theorem k74_7 : am_at 74 7 = some (.ifCond .eq 29, 10) := am_kq74 4 _ _ _ rfl
theorem k74_10 : am_at 74 10 = some (.iload 1, 11) := am_kq74 5 _ _ _ rfl
theorem k74_11 : am_at 74 11 = some (.aload 0, 12) := am_kq74 6 _ _ _ rfl
theorem k74_12 : am_at 74 12 = some (.getfield 740, 15) := am_kq74 7 _ _ _ rfl
theorem k74_15 : am_at 74 15 = some (.bipush 3, 16) := am_kq74 8 _ _ _ rfl
theorem k74_16 : am_at 74 16 = some (.iaload, 17) := am_kq74 9 _ _ _ rfl
theorem k74_17 : am_at 74 17 = some (.if_icmp .ge 29, 20) := am_kq74 10 _ _ _ rfl
theorem k74_20 : am_at 74 20 = some (.aload 0, 21) := am_kq74 11 _ _ _ rfl
theorem k74_21 : am_at 74 21 = some (.getfield 739, 24) := am_kq74 12 _ _ _ rfl
theorem k74_24 : am_at 74 24 = some (.iload 1, 25) := am_kq74 13 _ _ _ rfl
theorem k74_25 : am_at 74 25 = some (.iaload, 26) := am_kq74 14 _ _ _ rfl
theorem k74_26 : am_at 74 26 = some (.goto 31, 29) := am_kq74 15 _ _ _ rfl
theorem k74_29 : am_at 74 29 = some (.bipush (-2), 31) := am_kq74 16 _ _ _ rfl
theorem k74_31 : am_at 74 31 = some (.ireturn, 32) := am_kq74 17 _ _ _ rfl
set_option maxRecDepth 20000 in
theorem am_kq75 (i pc : Nat) (x : Instr) (nx : Nat) (hi : am_t75[i]? = some (pc, x, nx)) : am_at 75 pc = some (x, nx) := am_kB 75 am_t75 rfl (by decide +kernel) i pc x nx hi
theorem k75_0 : am_at 75 0 = some (.bipush 0, 1) := am_kq75 0 _ _ _ rfl
theorem k75_1 : am_at 75 1 = some (.istore 2, 2) := am_kq75 1 _ _ _ rfl
theorem k75_2 : am_at 75 2 = some (.iload 1, 3) := am_kq75 2 _ _ _ rfl
theorem k75_3 : am_at 75 3 = some (.tableswitch 134 0 6 #[44, 72, 77, 134, 134, 134, 105], 44) := am_kq75 3 _ _ _ rfl
theorem k75_44 : am_at 75 44 = some (.bipush 0, 45) := am_kq75 4 _ _ _ rfl
theorem k75_45 : am_at 75 45 = some (.istore 3, 46) := am_kq75 5 _ _ _ rfl
theorem k75_46 : am_at 75 46 = some (.iload 3, 47) := am_kq75 6 _ _ _ rfl
theorem k75_47 : am_at 75 47 = some (.bipush 12, 49) := am_kq75 7 _ _ _ rfl
theorem k75_49 : am_at 75 49 = some (.if_icmp .ge 70, 52) := am_kq75 8 _ _ _ rfl
theorem k75_52 : am_at 75 52 = some (.aload 0, 53) := am_kq75 9 _ _ _ rfl
theorem k75_53 : am_at 75 53 = some (.getfield 704, 56) := am_kq75 10 _ _ _ rfl
theorem k75_56 : am_at 75 56 = some (.iload 3, 57) := am_kq75 11 _ _ _ rfl
theorem k75_57 : am_at 75 57 = some (.baload, 58) := am_kq75 12 _ _ _ rfl
theorem k75_58 : am_at 75 58 = some (.ifCond .eq 64, 61) := am_kq75 13 _ _ _ rfl
theorem k75_61 : am_at 75 61 = some (.iinc 2 1, 64) := am_kq75 14 _ _ _ rfl
theorem k75_64 : am_at 75 64 = some (.iinc 3 1, 67) := am_kq75 15 _ _ _ rfl
theorem k75_67 : am_at 75 67 = some (.goto 46, 70) := am_kq75 16 _ _ _ rfl
theorem k75_70 : am_at 75 70 = some (.iload 2, 71) := am_kq75 17 _ _ _ rfl
theorem k75_71 : am_at 75 71 = some (.ireturn, 72) := am_kq75 18 _ _ _ rfl
theorem k75_72 : am_at 75 72 = some (.aload 0, 73) := am_kq75 19 _ _ _ rfl
theorem k75_73 : am_at 75 73 = some (.getfield 741, 76) := am_kq75 20 _ _ _ rfl
theorem k75_76 : am_at 75 76 = some (.ireturn, 77) := am_kq75 21 _ _ _ rfl
theorem k75_77 : am_at 75 77 = some (.bipush 0, 78) := am_kq75 22 _ _ _ rfl
theorem k75_78 : am_at 75 78 = some (.istore 3, 79) := am_kq75 23 _ _ _ rfl
theorem k75_79 : am_at 75 79 = some (.iload 3, 80) := am_kq75 24 _ _ _ rfl
theorem k75_80 : am_at 75 80 = some (.bipush 16, 82) := am_kq75 25 _ _ _ rfl
theorem k75_82 : am_at 75 82 = some (.if_icmp .ge 103, 85) := am_kq75 26 _ _ _ rfl
theorem k75_85 : am_at 75 85 = some (.aload 0, 86) := am_kq75 27 _ _ _ rfl
theorem k75_86 : am_at 75 86 = some (.getfield 717, 89) := am_kq75 28 _ _ _ rfl
theorem k75_89 : am_at 75 89 = some (.iload 3, 90) := am_kq75 29 _ _ _ rfl
theorem k75_90 : am_at 75 90 = some (.iaload, 91) := am_kq75 30 _ _ _ rfl
theorem k75_91 : am_at 75 91 = some (.ifCond .lt 97, 94) := am_kq75 31 _ _ _ rfl
theorem k75_94 : am_at 75 94 = some (.iinc 2 1, 97) := am_kq75 32 _ _ _ rfl
theorem k75_97 : am_at 75 97 = some (.iinc 3 1, 100) := am_kq75 33 _ _ _ rfl
theorem k75_100 : am_at 75 100 = some (.goto 79, 103) := am_kq75 34 _ _ _ rfl
theorem k75_103 : am_at 75 103 = some (.iload 2, 104) := am_kq75 35 _ _ _ rfl
theorem k75_104 : am_at 75 104 = some (.ireturn, 105) := am_kq75 36 _ _ _ rfl
theorem k75_105 : am_at 75 105 = some (.bipush 0, 106) := am_kq75 37 _ _ _ rfl
theorem k75_106 : am_at 75 106 = some (.istore 3, 107) := am_kq75 38 _ _ _ rfl
theorem k75_107 : am_at 75 107 = some (.iload 3, 108) := am_kq75 39 _ _ _ rfl
theorem k75_108 : am_at 75 108 = some (.bipush 720, 111) := am_kq75 40 _ _ _ rfl
theorem k75_111 : am_at 75 111 = some (.if_icmp .ge 132, 114) := am_kq75 41 _ _ _ rfl
theorem k75_114 : am_at 75 114 = some (.aload 0, 115) := am_kq75 42 _ _ _ rfl
theorem k75_115 : am_at 75 115 = some (.getfield 725, 118) := am_kq75 43 _ _ _ rfl
theorem k75_118 : am_at 75 118 = some (.iload 3, 119) := am_kq75 44 _ _ _ rfl
theorem k75_119 : am_at 75 119 = some (.baload, 120) := am_kq75 45 _ _ _ rfl
theorem k75_120 : am_at 75 120 = some (.ifCond .eq 126, 123) := am_kq75 46 _ _ _ rfl
theorem k75_123 : am_at 75 123 = some (.iinc 2 1, 126) := am_kq75 47 _ _ _ rfl
theorem k75_126 : am_at 75 126 = some (.iinc 3 1, 129) := am_kq75 48 _ _ _ rfl
theorem k75_129 : am_at 75 129 = some (.goto 107, 132) := am_kq75 49 _ _ _ rfl
theorem k75_132 : am_at 75 132 = some (.iload 2, 133) := am_kq75 50 _ _ _ rfl
theorem k75_133 : am_at 75 133 = some (.ireturn, 134) := am_kq75 51 _ _ _ rfl
theorem k75_134 : am_at 75 134 = some (.iload 1, 135) := am_kq75 52 _ _ _ rfl
theorem k75_135 : am_at 75 135 = some (.bipush 0, 136) := am_kq75 53 _ _ _ rfl
theorem k75_136 : am_at 75 136 = some (.bipush 9, 138) := am_kq75 54 _ _ _ rfl
theorem k75_138 : am_at 75 138 = some (.invokestatic 31, 141) := am_kq75 55 _ _ _ rfl
theorem k75_141 : am_at 75 141 = some (.ifCond .eq 153, 144) := am_kq75 56 _ _ _ rfl
theorem k75_144 : am_at 75 144 = some (.aload 0, 145) := am_kq75 57 _ _ _ rfl
theorem k75_145 : am_at 75 145 = some (.getfield 740, 148) := am_kq75 58 _ _ _ rfl
theorem k75_148 : am_at 75 148 = some (.iload 1, 149) := am_kq75 59 _ _ _ rfl
theorem k75_149 : am_at 75 149 = some (.iaload, 150) := am_kq75 60 _ _ _ rfl
theorem k75_150 : am_at 75 150 = some (.goto 154, 153) := am_kq75 61 _ _ _ rfl
theorem k75_153 : am_at 75 153 = some (.bipush (-1), 154) := am_kq75 62 _ _ _ rfl
theorem k75_154 : am_at 75 154 = some (.ireturn, 155) := am_kq75 63 _ _ _ rfl
set_option maxRecDepth 20000 in
theorem am_kq76 (i pc : Nat) (x : Instr) (nx : Nat) (hi : am_t76[i]? = some (pc, x, nx)) : am_at 76 pc = some (x, nx) := am_kB 76 am_t76 rfl (by decide +kernel) i pc x nx hi
theorem k76_0 : am_at 76 0 = some (.aload 0, 1) := am_kq76 0 _ _ _ rfl
theorem k76_1 : am_at 76 1 = some (.monitorenter, 4) := am_kq76 1 _ _ _ rfl
theorem k76_4 : am_at 76 4 = some (.aload 0, 5) := am_kq76 2 _ _ _ rfl
theorem k76_5 : am_at 76 5 = some (.bipush 8, 7) := am_kq76 3 _ _ _ rfl
theorem k76_7 : am_at 76 7 = some (.newarray .int, 9) := am_kq76 4 _ _ _ rfl
theorem k76_9 : am_at 76 9 = some (.putfield 320, 12) := am_kq76 5 _ _ _ rfl
theorem k76_12 : am_at 76 12 = some (.aload 0, 13) := am_kq76 6 _ _ _ rfl
theorem k76_13 : am_at 76 13 = some (.bipush 64, 15) := am_kq76 7 _ _ _ rfl
theorem k76_15 : am_at 76 15 = some (.newarray .int, 17) := am_kq76 8 _ _ _ rfl
theorem k76_17 : am_at 76 17 = some (.putfield 321, 20) := am_kq76 9 _ _ _ rfl
theorem k76_20 : am_at 76 20 = some (.aload 0, 21) := am_kq76 10 _ _ _ rfl
theorem k76_21 : am_at 76 21 = some (.bipush 64, 23) := am_kq76 11 _ _ _ rfl
theorem k76_23 : am_at 76 23 = some (.newarray .int, 25) := am_kq76 12 _ _ _ rfl
theorem k76_25 : am_at 76 25 = some (.putfield 322, 28) := am_kq76 13 _ _ _ rfl
theorem k76_28 : am_at 76 28 = some (.return_, 29) := am_kq76 14 _ _ _ rfl
set_option maxRecDepth 20000 in
theorem am_kq77 (i pc : Nat) (x : Instr) (nx : Nat) (hi : am_t77[i]? = some (pc, x, nx)) : am_at 77 pc = some (x, nx) := am_kB 77 am_t77 rfl (by decide +kernel) i pc x nx hi
theorem k77_0 : am_at 77 0 = some (.aload 0, 1) := am_kq77 0 _ _ _ rfl
theorem k77_1 : am_at 77 1 = some (.getfield 320, 4) := am_kq77 1 _ _ _ rfl
theorem k77_4 : am_at 77 4 = some (.iload 1, 5) := am_kq77 2 _ _ _ rfl
theorem k77_5 : am_at 77 5 = some (.iaload, 6) := am_kq77 3 _ _ _ rfl
theorem k77_6 : am_at 77 6 = some (.bipush 8, 8) := am_kq77 4 _ _ _ rfl
theorem k77_8 : am_at 77 8 = some (.if_icmp .ne 14, 11) := am_kq77 5 _ _ _ rfl
theorem k77_11 : am_at 77 11 = some (.bipush (-3), 13) := am_kq77 6 _ _ _ rfl
theorem k77_13 : am_at 77 13 = some (.ireturn, 14) := am_kq77 7 _ _ _ rfl
theorem k77_14 : am_at 77 14 = some (.aload 0, 15) := am_kq77 8 _ _ _ rfl
theorem k77_15 : am_at 77 15 = some (.getfield 321, 18) := am_kq77 9 _ _ _ rfl
theorem k77_18 : am_at 77 18 = some (.iload 1, 19) := am_kq77 10 _ _ _ rfl
theorem k77_19 : am_at 77 19 = some (.bipush 8, 21) := am_kq77 11 _ _ _ rfl
theorem k77_21 : am_at 77 21 = some (.imul, 22) := am_kq77 12 _ _ _ rfl
theorem k77_22 : am_at 77 22 = some (.aload 0, 23) := am_kq77 13 _ _ _ rfl
theorem k77_23 : am_at 77 23 = some (.getfield 320, 26) := am_kq77 14 _ _ _ rfl
theorem k77_26 : am_at 77 26 = some (.iload 1, 27) := am_kq77 15 _ _ _ rfl
theorem k77_27 : am_at 77 27 = some (.iaload, 28) := am_kq77 16 _ _ _ rfl
theorem k77_28 : am_at 77 28 = some (.iadd, 29) := am_kq77 17 _ _ _ rfl
theorem k77_29 : am_at 77 29 = some (.iload 2, 30) := am_kq77 18 _ _ _ rfl
theorem k77_30 : am_at 77 30 = some (.iastore, 31) := am_kq77 19 _ _ _ rfl
theorem k77_31 : am_at 77 31 = some (.aload 0, 32) := am_kq77 20 _ _ _ rfl
theorem k77_32 : am_at 77 32 = some (.getfield 322, 35) := am_kq77 21 _ _ _ rfl
theorem k77_35 : am_at 77 35 = some (.iload 1, 36) := am_kq77 22 _ _ _ rfl
theorem k77_36 : am_at 77 36 = some (.bipush 8, 38) := am_kq77 23 _ _ _ rfl
theorem k77_38 : am_at 77 38 = some (.imul, 39) := am_kq77 24 _ _ _ rfl
theorem k77_39 : am_at 77 39 = some (.aload 0, 40) := am_kq77 25 _ _ _ rfl
theorem k77_40 : am_at 77 40 = some (.getfield 320, 43) := am_kq77 26 _ _ _ rfl
theorem k77_43 : am_at 77 43 = some (.iload 1, 44) := am_kq77 27 _ _ _ rfl
theorem k77_44 : am_at 77 44 = some (.iaload, 45) := am_kq77 28 _ _ _ rfl
theorem k77_45 : am_at 77 45 = some (.iadd, 46) := am_kq77 29 _ _ _ rfl
theorem k77_46 : am_at 77 46 = some (.iload 3, 47) := am_kq77 30 _ _ _ rfl
theorem k77_47 : am_at 77 47 = some (.iastore, 48) := am_kq77 31 _ _ _ rfl
theorem k77_48 : am_at 77 48 = some (.aload 0, 49) := am_kq77 32 _ _ _ rfl
theorem k77_49 : am_at 77 49 = some (.getfield 320, 52) := am_kq77 33 _ _ _ rfl
theorem k77_52 : am_at 77 52 = some (.iload 1, 53) := am_kq77 34 _ _ _ rfl
theorem k77_53 : am_at 77 53 = some (.dup2, 54) := am_kq77 35 _ _ _ rfl
theorem k77_54 : am_at 77 54 = some (.iaload, 55) := am_kq77 36 _ _ _ rfl
theorem k77_55 : am_at 77 55 = some (.bipush 1, 56) := am_kq77 37 _ _ _ rfl
theorem k77_56 : am_at 77 56 = some (.iadd, 57) := am_kq77 38 _ _ _ rfl
theorem k77_57 : am_at 77 57 = some (.iastore, 58) := am_kq77 39 _ _ _ rfl
theorem k77_58 : am_at 77 58 = some (.aload 0, 59) := am_kq77 40 _ _ _ rfl
theorem k77_59 : am_at 77 59 = some (.getfield 320, 62) := am_kq77 41 _ _ _ rfl
theorem k77_62 : am_at 77 62 = some (.iload 1, 63) := am_kq77 42 _ _ _ rfl
theorem k77_63 : am_at 77 63 = some (.iaload, 64) := am_kq77 43 _ _ _ rfl
theorem k77_64 : am_at 77 64 = some (.ireturn, 65) := am_kq77 44 _ _ _ rfl
set_option maxRecDepth 20000 in
theorem am_kq78 (i pc : Nat) (x : Instr) (nx : Nat) (hi : am_t78[i]? = some (pc, x, nx)) : am_at 78 pc = some (x, nx) := am_kB 78 am_t78 rfl (by decide +kernel) i pc x nx hi
theorem k78_0 : am_at 78 0 = some (.aload 0, 1) := am_kq78 0 _ _ _ rfl
theorem k78_1 : am_at 78 1 = some (.getfield 320, 4) := am_kq78 1 _ _ _ rfl
theorem k78_4 : am_at 78 4 = some (.iload 1, 5) := am_kq78 2 _ _ _ rfl
theorem k78_5 : am_at 78 5 = some (.iaload, 6) := am_kq78 3 _ _ _ rfl
theorem k78_6 : am_at 78 6 = some (.istore 2, 7) := am_kq78 4 _ _ _ rfl
theorem k78_7 : am_at 78 7 = some (.aload 0, 8) := am_kq78 5 _ _ _ rfl
theorem k78_8 : am_at 78 8 = some (.getfield 320, 11) := am_kq78 6 _ _ _ rfl
theorem k78_11 : am_at 78 11 = some (.iload 1, 12) := am_kq78 7 _ _ _ rfl
theorem k78_12 : am_at 78 12 = some (.bipush 0, 13) := am_kq78 8 _ _ _ rfl
theorem k78_13 : am_at 78 13 = some (.iastore, 14) := am_kq78 9 _ _ _ rfl
theorem k78_14 : am_at 78 14 = some (.iload 2, 15) := am_kq78 10 _ _ _ rfl
theorem k78_15 : am_at 78 15 = some (.ireturn, 16) := am_kq78 11 _ _ _ rfl
set_option maxRecDepth 20000 in
theorem am_kq79 (i pc : Nat) (x : Instr) (nx : Nat) (hi : am_t79[i]? = some (pc, x, nx)) : am_at 79 pc = some (x, nx) := am_kB 79 am_t79 rfl (by decide +kernel) i pc x nx hi
theorem k79_0 : am_at 79 0 = some (.aload 0, 1) := am_kq79 0 _ _ _ rfl
theorem k79_1 : am_at 79 1 = some (.getfield 320, 4) := am_kq79 1 _ _ _ rfl
theorem k79_4 : am_at 79 4 = some (.iload 1, 5) := am_kq79 2 _ _ _ rfl
theorem k79_5 : am_at 79 5 = some (.iaload, 6) := am_kq79 3 _ _ _ rfl
theorem k79_6 : am_at 79 6 = some (.ireturn, 7) := am_kq79 4 _ _ _ rfl
set_option maxRecDepth 20000 in
theorem am_kq80 (i pc : Nat) (x : Instr) (nx : Nat) (hi : am_t80[i]? = some (pc, x, nx)) : am_at 80 pc = some (x, nx) := am_kB 80 am_t80 rfl (by decide +kernel) i pc x nx hi
theorem k80_0 : am_at 80 0 = some (.aload 0, 1) := am_kq80 0 _ _ _ rfl
theorem k80_1 : am_at 80 1 = some (.getfield 321, 4) := am_kq80 1 _ _ _ rfl
theorem k80_4 : am_at 80 4 = some (.iload 1, 5) := am_kq80 2 _ _ _ rfl
theorem k80_5 : am_at 80 5 = some (.bipush 8, 7) := am_kq80 3 _ _ _ rfl
theorem k80_7 : am_at 80 7 = some (.imul, 8) := am_kq80 4 _ _ _ rfl
theorem k80_8 : am_at 80 8 = some (.iload 2, 9) := am_kq80 5 _ _ _ rfl
theorem k80_9 : am_at 80 9 = some (.iadd, 10) := am_kq80 6 _ _ _ rfl
theorem k80_10 : am_at 80 10 = some (.iaload, 11) := am_kq80 7 _ _ _ rfl
theorem k80_11 : am_at 80 11 = some (.ireturn, 12) := am_kq80 8 _ _ _ rfl
set_option maxRecDepth 20000 in
theorem am_kq81 (i pc : Nat) (x : Instr) (nx : Nat) (hi : am_t81[i]? = some (pc, x, nx)) : am_at 81 pc = some (x, nx) := am_kB 81 am_t81 rfl (by decide +kernel) i pc x nx hi
theorem k81_0 : am_at 81 0 = some (.aload 0, 1) := am_kq81 0 _ _ _ rfl
theorem k81_1 : am_at 81 1 = some (.getfield 322, 4) := am_kq81 1 _ _ _ rfl
theorem k81_4 : am_at 81 4 = some (.iload 1, 5) := am_kq81 2 _ _ _ rfl
theorem k81_5 : am_at 81 5 = some (.bipush 8, 7) := am_kq81 3 _ _ _ rfl
theorem k81_7 : am_at 81 7 = some (.imul, 8) := am_kq81 4 _ _ _ rfl
theorem k81_8 : am_at 81 8 = some (.iload 2, 9) := am_kq81 5 _ _ _ rfl
theorem k81_9 : am_at 81 9 = some (.iadd, 10) := am_kq81 6 _ _ _ rfl
theorem k81_10 : am_at 81 10 = some (.iaload, 11) := am_kq81 7 _ _ _ rfl
theorem k81_11 : am_at 81 11 = some (.ireturn, 12) := am_kq81 8 _ _ _ rfl
set_option maxRecDepth 20000 in
theorem am_kq82 (i pc : Nat) (x : Instr) (nx : Nat) (hi : am_t82[i]? = some (pc, x, nx)) : am_at 82 pc = some (x, nx) := am_kB 82 am_t82 rfl (by decide +kernel) i pc x nx hi
theorem k82_0 : am_at 82 0 = some (.aload 0, 1) := am_kq82 0 _ _ _ rfl
theorem k82_1 : am_at 82 1 = some (.monitorenter, 4) := am_kq82 1 _ _ _ rfl
theorem k82_4 : am_at 82 4 = some (.aload 0, 5) := am_kq82 2 _ _ _ rfl
theorem k82_5 : am_at 82 5 = some (.bipush 36, 7) := am_kq82 3 _ _ _ rfl
theorem k82_7 : am_at 82 7 = some (.newarray .int, 9) := am_kq82 4 _ _ _ rfl
theorem k82_9 : am_at 82 9 = some (.putfield 64, 12) := am_kq82 5 _ _ _ rfl
theorem k82_12 : am_at 82 12 = some (.aload 0, 13) := am_kq82 6 _ _ _ rfl
theorem k82_13 : am_at 82 13 = some (.bipush 144, 16) := am_kq82 7 _ _ _ rfl
theorem k82_16 : am_at 82 16 = some (.newarray .int, 18) := am_kq82 8 _ _ _ rfl
theorem k82_18 : am_at 82 18 = some (.putfield 65, 21) := am_kq82 9 _ _ _ rfl
theorem k82_21 : am_at 82 21 = some (.aload 0, 22) := am_kq82 10 _ _ _ rfl
theorem k82_22 : am_at 82 22 = some (.bipush 12, 24) := am_kq82 11 _ _ _ rfl
theorem k82_24 : am_at 82 24 = some (.newarray .int, 26) := am_kq82 12 _ _ _ rfl
theorem k82_26 : am_at 82 26 = some (.putfield 66, 29) := am_kq82 13 _ _ _ rfl
theorem k82_29 : am_at 82 29 = some (.aload 0, 30) := am_kq82 14 _ _ _ rfl
theorem k82_30 : am_at 82 30 = some (.bipush 72, 32) := am_kq82 15 _ _ _ rfl
theorem k82_32 : am_at 82 32 = some (.newarray .int, 34) := am_kq82 16 _ _ _ rfl
theorem k82_34 : am_at 82 34 = some (.putfield 67, 37) := am_kq82 17 _ _ _ rfl
theorem k82_37 : am_at 82 37 = some (.aload 0, 38) := am_kq82 18 _ _ _ rfl
theorem k82_38 : am_at 82 38 = some (.bipush 72, 40) := am_kq82 19 _ _ _ rfl
theorem k82_40 : am_at 82 40 = some (.newarray .int, 42) := am_kq82 20 _ _ _ rfl
theorem k82_42 : am_at 82 42 = some (.putfield 68, 45) := am_kq82 21 _ _ _ rfl
theorem k82_45 : am_at 82 45 = some (.aload 0, 46) := am_kq82 22 _ _ _ rfl
theorem k82_46 : am_at 82 46 = some (.bipush 1, 47) := am_kq82 23 _ _ _ rfl
theorem k82_47 : am_at 82 47 = some (.putfield 69, 50) := am_kq82 24 _ _ _ rfl
theorem k82_50 : am_at 82 50 = some (.aload 0, 51) := am_kq82 25 _ _ _ rfl
theorem k82_51 : am_at 82 51 = some (.bipush 12, 53) := am_kq82 26 _ _ _ rfl
theorem k82_53 : am_at 82 53 = some (.newarray .int, 55) := am_kq82 27 _ _ _ rfl
theorem k82_55 : am_at 82 55 = some (.putfield 70, 58) := am_kq82 28 _ _ _ rfl
theorem k82_58 : am_at 82 58 = some (.aload 0, 59) := am_kq82 29 _ _ _ rfl
theorem k82_59 : am_at 82 59 = some (.bipush 12, 61) := am_kq82 30 _ _ _ rfl
theorem k82_61 : am_at 82 61 = some (.newarray .int, 63) := am_kq82 31 _ _ _ rfl
theorem k82_63 : am_at 82 63 = some (.putfield 71, 66) := am_kq82 32 _ _ _ rfl
theorem k82_66 : am_at 82 66 = some (.bipush 0, 67) := am_kq82 33 _ _ _ rfl
theorem k82_67 : am_at 82 67 = some (.istore 1, 68) := am_kq82 34 _ _ _ rfl
theorem k82_68 : am_at 82 68 = some (.iload 1, 69) := am_kq82 35 _ _ _ rfl
theorem k82_69 : am_at 82 69 = some (.aload 0, 70) := am_kq82 36 _ _ _ rfl
theorem k82_70 : am_at 82 70 = some (.getfield 64, 73) := am_kq82 37 _ _ _ rfl
theorem k82_73 : am_at 82 73 = some (.arraylength, 74) := am_kq82 38 _ _ _ rfl
theorem k82_74 : am_at 82 74 = some (.if_icmp .ge 90, 77) := am_kq82 39 _ _ _ rfl
theorem k82_77 : am_at 82 77 = some (.aload 0, 78) := am_kq82 40 _ _ _ rfl
theorem k82_78 : am_at 82 78 = some (.getfield 64, 81) := am_kq82 41 _ _ _ rfl
theorem k82_81 : am_at 82 81 = some (.iload 1, 82) := am_kq82 42 _ _ _ rfl
theorem k82_82 : am_at 82 82 = some (.bipush (-1), 83) := am_kq82 43 _ _ _ rfl
theorem k82_83 : am_at 82 83 = some (.iastore, 84) := am_kq82 44 _ _ _ rfl
theorem k82_84 : am_at 82 84 = some (.iinc 1 1, 87) := am_kq82 45 _ _ _ rfl
theorem k82_87 : am_at 82 87 = some (.goto 68, 90) := am_kq82 46 _ _ _ rfl
theorem k82_90 : am_at 82 90 = some (.aload 0, 91) := am_kq82 47 _ _ _ rfl
theorem k82_91 : am_at 82 91 = some (.getfield 66, 94) := am_kq82 48 _ _ _ rfl
theorem k82_94 : am_at 82 94 = some (.bipush 0, 95) := am_kq82 49 _ _ _ rfl
theorem k82_95 : am_at 82 95 = some (.bipush 1, 96) := am_kq82 50 _ _ _ rfl
theorem k82_96 : am_at 82 96 = some (.iastore, 97) := am_kq82 51 _ _ _ rfl
theorem k82_97 : am_at 82 97 = some (.return_, 98) := am_kq82 52 _ _ _ rfl
set_option maxRecDepth 20000 in
theorem am_kq83 (i pc : Nat) (x : Instr) (nx : Nat) (hi : am_t83[i]? = some (pc, x, nx)) : am_at 83 pc = some (x, nx) := am_kB 83 am_t83 rfl (by decide +kernel) i pc x nx hi
theorem k83_0 : am_at 83 0 = some (.iload 0, 1) := am_kq83 0 _ _ _ rfl
theorem k83_1 : am_at 83 1 = some (.bipush 0, 2) := am_kq83 1 _ _ _ rfl
theorem k83_2 : am_at 83 2 = some (.bipush 11, 4) := am_kq83 2 _ _ _ rfl
theorem k83_4 : am_at 83 4 = some (.invokestatic 27, 7) := am_kq83 3 _ _ _ rfl
theorem k83_7 : am_at 83 7 = some (.ifCond .eq 30, 10) := am_kq83 4 _ _ _ rfl
theorem k83_10 : am_at 83 10 = some (.iload 1, 11) := am_kq83 5 _ _ _ rfl
theorem k83_11 : am_at 83 11 = some (.bipush (-1), 12) := am_kq83 6 _ _ _ rfl
theorem k83_12 : am_at 83 12 = some (.bipush 11, 14) := am_kq83 7 _ _ _ rfl
theorem k83_14 : am_at 83 14 = some (.invokestatic 27, 17) := am_kq83 8 _ _ _ rfl
theorem k83_17 : am_at 83 17 = some (.ifCond .eq 30, 20) := am_kq83 9 _ _ _ rfl
theorem k83_20 : am_at 83 20 = some (.iload 2, 21) := am_kq83 10 _ _ _ rfl
theorem k83_21 : am_at 83 21 = some (.bipush (-1), 22) := am_kq83 11 _ _ _ rfl
theorem k83_22 : am_at 83 22 = some (.bipush 11, 24) := am_kq83 12 _ _ _ rfl
theorem k83_24 : am_at 83 24 = some (.invokestatic 27, 27) := am_kq83 13 _ _ _ rfl
theorem k83_27 : am_at 83 27 = some (.ifCond .ne 32, 30) := am_kq83 14 _ _ _ rfl
theorem k83_30 : am_at 83 30 = some (.bipush 0, 31) := am_kq83 15 _ _ _ rfl
theorem k83_31 : am_at 83 31 = some (.ireturn, 32) := am_kq83 16 _ _ _ rfl
theorem k83_32 : am_at 83 32 = some (.iload 1, 33) := am_kq83 17 _ _ _ rfl
theorem k83_33 : am_at 83 33 = some (.bipush (-1), 34) := am_kq83 18 _ _ _ rfl
theorem k83_34 : am_at 83 34 = some (.if_icmp .eq 52, 37) := am_kq83 19 _ _ _ rfl
theorem k83_37 : am_at 83 37 = some (.iload 0, 38) := am_kq83 20 _ _ _ rfl
theorem k83_38 : am_at 83 38 = some (.iload 1, 39) := am_kq83 21 _ _ _ rfl
theorem k83_39 : am_at 83 39 = some (.if_icmp .eq 56, 42) := am_kq83 22 _ _ _ rfl
theorem k83_42 : am_at 83 42 = some (.iload 0, 43) := am_kq83 23 _ _ _ rfl
theorem k83_43 : am_at 83 43 = some (.iload 2, 44) := am_kq83 24 _ _ _ rfl
theorem k83_44 : am_at 83 44 = some (.if_icmp .eq 56, 47) := am_kq83 25 _ _ _ rfl
theorem k83_47 : am_at 83 47 = some (.iload 1, 48) := am_kq83 26 _ _ _ rfl
theorem k83_48 : am_at 83 48 = some (.iload 2, 49) := am_kq83 27 _ _ _ rfl
theorem k83_49 : am_at 83 49 = some (.if_icmp .eq 56, 52) := am_kq83 28 _ _ _ rfl
theorem k83_52 : am_at 83 52 = some (.bipush 1, 53) := am_kq83 29 _ _ _ rfl
theorem k83_53 : am_at 83 53 = some (.goto 57, 56) := am_kq83 30 _ _ _ rfl
theorem k83_56 : am_at 83 56 = some (.bipush 0, 57) := am_kq83 31 _ _ _ rfl
theorem k83_57 : am_at 83 57 = some (.ireturn, 58) := am_kq83 32 _ _ _ rfl
set_option maxRecDepth 20000 in
theorem am_kq84 (i pc : Nat) (x : Instr) (nx : Nat) (hi : am_t84[i]? = some (pc, x, nx)) : am_at 84 pc = some (x, nx) := am_kB 84 am_t84 rfl (by decide +kernel) i pc x nx hi
theorem k84_0 : am_at 84 0 = some (.aload 0, 1) := am_kq84 0 _ _ _ rfl
theorem k84_1 : am_at 84 1 = some (.getfield 69, 4) := am_kq84 1 _ _ _ rfl
theorem k84_4 : am_at 84 4 = some (.ireturn, 5) := am_kq84 2 _ _ _ rfl
set_option maxRecDepth 20000 in
theorem am_kq85 (i pc : Nat) (x : Instr) (nx : Nat) (hi : am_t85[i]? = some (pc, x, nx)) : am_at 85 pc = some (x, nx) := am_kB 85 am_t85 rfl (by decide +kernel) i pc x nx hi
theorem k85_0 : am_at 85 0 = some (.iload 1, 1) := am_kq85 0 _ _ _ rfl
theorem k85_1 : am_at 85 1 = some (.bipush 0, 2) := am_kq85 1 _ _ _ rfl
theorem k85_2 : am_at 85 2 = some (.bipush 11, 4) := am_kq85 2 _ _ _ rfl
theorem k85_4 : am_at 85 4 = some (.invokestatic 27, 7) := am_kq85 3 _ _ _ rfl
theorem k85_7 : am_at 85 7 = some (.ifCond .eq 23, 10) := am_kq85 4 _ _ _ rfl
theorem k85_10 : am_at 85 10 = some (.aload 0, 11) := am_kq85 5 _ _ _ rfl
theorem k85_11 : am_at 85 11 = some (.getfield 66, 14) := am_kq85 6 _ _ _ rfl
theorem k85_14 : am_at 85 14 = some (.iload 1, 15) := am_kq85 7 _ _ _ rfl
theorem k85_15 : am_at 85 15 = some (.iaload, 16) := am_kq85 8 _ _ _ rfl
theorem k85_16 : am_at 85 16 = some (.ifCond .le 23, 19) := am_kq85 9 _ _ _ rfl
theorem k85_19 : am_at 85 19 = some (.bipush 1, 20) := am_kq85 10 _ _ _ rfl
theorem k85_20 : am_at 85 20 = some (.goto 24, 23) := am_kq85 11 _ _ _ rfl
theorem k85_23 : am_at 85 23 = some (.bipush 0, 24) := am_kq85 12 _ _ _ rfl
theorem k85_24 : am_at 85 24 = some (.ireturn, 25) := am_kq85 13 _ _ _ rfl
set_option maxRecDepth 20000 in
theorem am_kq86 (i pc : Nat) (x : Instr) (nx : Nat) (hi : am_t86[i]? = some (pc, x, nx)) : am_at 86 pc = some (x, nx) := am_kB 86 am_t86 rfl (by decide +kernel) i pc x nx hi
theorem k86_0 : am_at 86 0 = some (.aload 0, 1) := am_kq86 0 _ _ _ rfl
theorem k86_1 : am_at 86 1 = some (.iload 1, 2) := am_kq86 1 _ _ _ rfl
theorem k86_2 : am_at 86 2 = some (.iload 2, 3) := am_kq86 2 _ _ _ rfl
theorem k86_3 : am_at 86 3 = some (.invokestatic 87, 6) := am_kq86 3 _ _ _ rfl
theorem k86_6 : am_at 86 6 = some (.ifCond .eq 28, 9) := am_kq86 4 _ _ _ rfl
theorem k86_9 : am_at 86 9 = some (.aload 0, 10) := am_kq86 5 _ _ _ rfl
theorem k86_10 : am_at 86 10 = some (.iload 1, 11) := am_kq86 6 _ _ _ rfl
theorem k86_11 : am_at 86 11 = some (.iload 3, 12) := am_kq86 7 _ _ _ rfl
theorem k86_12 : am_at 86 12 = some (.invokestatic 87, 15) := am_kq86 8 _ _ _ rfl
theorem k86_15 : am_at 86 15 = some (.ifCond .eq 28, 18) := am_kq86 9 _ _ _ rfl
theorem k86_18 : am_at 86 18 = some (.aload 0, 19) := am_kq86 10 _ _ _ rfl
theorem k86_19 : am_at 86 19 = some (.iload 1, 20) := am_kq86 11 _ _ _ rfl
theorem k86_20 : am_at 86 20 = some (.iload 4, 22) := am_kq86 12 _ _ _ rfl
theorem k86_22 : am_at 86 22 = some (.invokestatic 87, 25) := am_kq86 13 _ _ _ rfl
theorem k86_25 : am_at 86 25 = some (.ifCond .ne 31, 28) := am_kq86 14 _ _ _ rfl
theorem k86_28 : am_at 86 28 = some (.bipush (-2), 30) := am_kq86 15 _ _ _ rfl
theorem k86_30 : am_at 86 30 = some (.ireturn, 31) := am_kq86 16 _ _ _ rfl
theorem k86_31 : am_at 86 31 = some (.aload 0, 32) := am_kq86 17 _ _ _ rfl
theorem k86_32 : am_at 86 32 = some (.iload 2, 33) := am_kq86 18 _ _ _ rfl
theorem k86_33 : am_at 86 33 = some (.iload 1, 34) := am_kq86 19 _ _ _ rfl
theorem k86_34 : am_at 86 34 = some (.invokestatic 91, 37) := am_kq86 20 _ _ _ rfl
theorem k86_37 : am_at 86 37 = some (.ifCond .ne 59, 40) := am_kq86 21 _ _ _ rfl
theorem k86_40 : am_at 86 40 = some (.aload 0, 41) := am_kq86 22 _ _ _ rfl
theorem k86_41 : am_at 86 41 = some (.iload 3, 42) := am_kq86 23 _ _ _ rfl
theorem k86_42 : am_at 86 42 = some (.iload 1, 43) := am_kq86 24 _ _ _ rfl
theorem k86_43 : am_at 86 43 = some (.invokestatic 91, 46) := am_kq86 25 _ _ _ rfl
theorem k86_46 : am_at 86 46 = some (.ifCond .ne 59, 49) := am_kq86 26 _ _ _ rfl
theorem k86_49 : am_at 86 49 = some (.aload 0, 50) := am_kq86 27 _ _ _ rfl
theorem k86_50 : am_at 86 50 = some (.iload 4, 52) := am_kq86 28 _ _ _ rfl
theorem k86_52 : am_at 86 52 = some (.iload 1, 53) := am_kq86 29 _ _ _ rfl
theorem k86_53 : am_at 86 53 = some (.invokestatic 91, 56) := am_kq86 30 _ _ _ rfl
theorem k86_56 : am_at 86 56 = some (.ifCond .eq 62, 59) := am_kq86 31 _ _ _ rfl
theorem k86_59 : am_at 86 59 = some (.bipush (-4), 61) := am_kq86 32 _ _ _ rfl
theorem k86_61 : am_at 86 61 = some (.ireturn, 62) := am_kq86 33 _ _ _ rfl
theorem k86_62 : am_at 86 62 = some (.aload 0, 63) := am_kq86 34 _ _ _ rfl
theorem k86_63 : am_at 86 63 = some (.getfield 64, 66) := am_kq86 35 _ _ _ rfl
theorem k86_66 : am_at 86 66 = some (.iload 1, 67) := am_kq86 36 _ _ _ rfl
theorem k86_67 : am_at 86 67 = some (.bipush 3, 68) := am_kq86 37 _ _ _ rfl
theorem k86_68 : am_at 86 68 = some (.imul, 69) := am_kq86 38 _ _ _ rfl
theorem k86_69 : am_at 86 69 = some (.iaload, 70) := am_kq86 39 _ _ _ rfl
theorem k86_70 : am_at 86 70 = some (.istore 5, 72) := am_kq86 40 _ _ _ rfl
theorem k86_72 : am_at 86 72 = some (.aload 0, 73) := am_kq86 41 _ _ _ rfl
theorem k86_73 : am_at 86 73 = some (.getfield 64, 76) := am_kq86 42 _ _ _ rfl
theorem k86_76 : am_at 86 76 = some (.iload 1, 77) := am_kq86 43 _ _ _ rfl
theorem k86_77 : am_at 86 77 = some (.bipush 3, 78) := am_kq86 44 _ _ _ rfl
theorem k86_78 : am_at 86 78 = some (.imul, 79) := am_kq86 45 _ _ _ rfl
theorem k86_79 : am_at 86 79 = some (.bipush 1, 80) := am_kq86 46 _ _ _ rfl
theorem k86_80 : am_at 86 80 = some (.iadd, 81) := am_kq86 47 _ _ _ rfl
theorem k86_81 : am_at 86 81 = some (.iaload, 82) := am_kq86 48 _ _ _ rfl
theorem k86_82 : am_at 86 82 = some (.istore 6, 84) := am_kq86 49 _ _ _ rfl
theorem k86_84 : am_at 86 84 = some (.aload 0, 85) := am_kq86 50 _ _ _ rfl
theorem k86_85 : am_at 86 85 = some (.getfield 64, 88) := am_kq86 51 _ _ _ rfl
theorem k86_88 : am_at 86 88 = some (.iload 1, 89) := am_kq86 52 _ _ _ rfl
theorem k86_89 : am_at 86 89 = some (.bipush 3, 90) := am_kq86 53 _ _ _ rfl
theorem k86_90 : am_at 86 90 = some (.imul, 91) := am_kq86 54 _ _ _ rfl
theorem k86_91 : am_at 86 91 = some (.bipush 2, 92) := am_kq86 55 _ _ _ rfl
theorem k86_92 : am_at 86 92 = some (.iadd, 93) := am_kq86 56 _ _ _ rfl
theorem k86_93 : am_at 86 93 = some (.iaload, 94) := am_kq86 57 _ _ _ rfl
theorem k86_94 : am_at 86 94 = some (.istore 7, 96) := am_kq86 58 _ _ _ rfl
theorem k86_96 : am_at 86 96 = some (.aload 0, 97) := am_kq86 59 _ _ _ rfl
theorem k86_97 : am_at 86 97 = some (.iload 1, 98) := am_kq86 60 _ _ _ rfl
theorem k86_98 : am_at 86 98 = some (.iload 2, 99) := am_kq86 61 _ _ _ rfl
theorem k86_99 : am_at 86 99 = some (.iload 3, 100) := am_kq86 62 _ _ _ rfl
theorem k86_100 : am_at 86 100 = some (.iload 4, 102) := am_kq86 63 _ _ _ rfl
theorem k86_102 : am_at 86 102 = some (.invokestatic 88, 105) := am_kq86 64 _ _ _ rfl
theorem k86_105 : am_at 86 105 = some (.aload 0, 106) := am_kq86 65 _ _ _ rfl
theorem k86_106 : am_at 86 106 = some (.iload 1, 107) := am_kq86 66 _ _ _ rfl
theorem k86_107 : am_at 86 107 = some (.invokestatic 89, 110) := am_kq86 67 _ _ _ rfl
theorem k86_110 : am_at 86 110 = some (.ifCond .ne 127, 113) := am_kq86 68 _ _ _ rfl
theorem k86_113 : am_at 86 113 = some (.aload 0, 114) := am_kq86 69 _ _ _ rfl
theorem k86_114 : am_at 86 114 = some (.iload 1, 115) := am_kq86 70 _ _ _ rfl
theorem k86_115 : am_at 86 115 = some (.iload 5, 117) := am_kq86 71 _ _ _ rfl
theorem k86_117 : am_at 86 117 = some (.iload 6, 119) := am_kq86 72 _ _ _ rfl
theorem k86_119 : am_at 86 119 = some (.iload 7, 121) := am_kq86 73 _ _ _ rfl
theorem k86_121 : am_at 86 121 = some (.invokestatic 88, 124) := am_kq86 74 _ _ _ rfl
theorem k86_124 : am_at 86 124 = some (.bipush (-5), 126) := am_kq86 75 _ _ _ rfl
theorem k86_126 : am_at 86 126 = some (.ireturn, 127) := am_kq86 76 _ _ _ rfl
theorem k86_127 : am_at 86 127 = some (.aload 0, 128) := am_kq86 77 _ _ _ rfl
theorem k86_128 : am_at 86 128 = some (.getfield 66, 131) := am_kq86 78 _ _ _ rfl
theorem k86_131 : am_at 86 131 = some (.iload 1, 132) := am_kq86 79 _ _ _ rfl
theorem k86_132 : am_at 86 132 = some (.iaload, 133) := am_kq86 80 _ _ _ rfl
theorem k86_133 : am_at 86 133 = some (.ifCond .ne 146, 136) := am_kq86 81 _ _ _ rfl
theorem k86_136 : am_at 86 136 = some (.aload 0, 137) := am_kq86 82 _ _ _ rfl
theorem k86_137 : am_at 86 137 = some (.dup, 138) := am_kq86 83 _ _ _ rfl
theorem k86_138 : am_at 86 138 = some (.getfield 69, 141) := am_kq86 84 _ _ _ rfl
theorem k86_141 : am_at 86 141 = some (.bipush 1, 142) := am_kq86 85 _ _ _ rfl
theorem k86_142 : am_at 86 142 = some (.iadd, 143) := am_kq86 86 _ _ _ rfl
theorem k86_143 : am_at 86 143 = some (.putfield 69, 146) := am_kq86 87 _ _ _ rfl
theorem k86_146 : am_at 86 146 = some (.aload 0, 147) := am_kq86 88 _ _ _ rfl
theorem k86_147 : am_at 86 147 = some (.iload 1, 148) := am_kq86 89 _ _ _ rfl
theorem k86_148 : am_at 86 148 = some (.invokestatic 90, 151) := am_kq86 90 _ _ _ rfl
theorem k86_151 : am_at 86 151 = some (.aload 0, 152) := am_kq86 91 _ _ _ rfl
theorem k86_152 : am_at 86 152 = some (.getfield 66, 155) := am_kq86 92 _ _ _ rfl
theorem k86_155 : am_at 86 155 = some (.iload 1, 156) := am_kq86 93 _ _ _ rfl
theorem k86_156 : am_at 86 156 = some (.iaload, 157) := am_kq86 94 _ _ _ rfl
theorem k86_157 : am_at 86 157 = some (.ireturn, 158) := am_kq86 95 _ _ _ rfl
set_option maxRecDepth 20000 in
theorem am_kq87 (i pc : Nat) (x : Instr) (nx : Nat) (hi : am_t87[i]? = some (pc, x, nx)) : am_at 87 pc = some (x, nx) := am_kB 87 am_t87 rfl (by decide +kernel) i pc x nx hi
theorem k87_0 : am_at 87 0 = some (.iload 2, 1) := am_kq87 0 _ _ _ rfl
theorem k87_1 : am_at 87 1 = some (.bipush (-1), 2) := am_kq87 1 _ _ _ rfl
theorem k87_2 : am_at 87 2 = some (.if_icmp .eq 18, 5) := am_kq87 2 _ _ _ rfl
theorem k87_5 : am_at 87 5 = some (.iload 2, 6) := am_kq87 3 _ _ _ rfl
theorem k87_6 : am_at 87 6 = some (.iload 1, 7) := am_kq87 4 _ _ _ rfl
theorem k87_7 : am_at 87 7 = some (.if_icmp .eq 18, 10) := am_kq87 5 _ _ _ rfl
theorem k87_10 : am_at 87 10 = some (.aload 0, 11) := am_kq87 6 _ _ _ rfl
theorem k87_11 : am_at 87 11 = some (.iload 2, 12) := am_kq87 7 _ _ _ rfl
theorem k87_12 : am_at 87 12 = some (.invokestatic 85, 15) := am_kq87 8 _ _ _ rfl
theorem k87_15 : am_at 87 15 = some (.ifCond .eq 22, 18) := am_kq87 9 _ _ _ rfl
theorem k87_18 : am_at 87 18 = some (.bipush 1, 19) := am_kq87 10 _ _ _ rfl
theorem k87_19 : am_at 87 19 = some (.goto 23, 22) := am_kq87 11 _ _ _ rfl
theorem k87_22 : am_at 87 22 = some (.bipush 0, 23) := am_kq87 12 _ _ _ rfl
theorem k87_23 : am_at 87 23 = some (.ireturn, 24) := am_kq87 13 _ _ _ rfl
set_option maxRecDepth 20000 in
theorem am_kq88 (i pc : Nat) (x : Instr) (nx : Nat) (hi : am_t88[i]? = some (pc, x, nx)) : am_at 88 pc = some (x, nx) := am_kB 88 am_t88 rfl (by decide +kernel) i pc x nx hi
theorem k88_0 : am_at 88 0 = some (.aload 0, 1) := am_kq88 0 _ _ _ rfl
theorem k88_1 : am_at 88 1 = some (.getfield 64, 4) := am_kq88 1 _ _ _ rfl
theorem k88_4 : am_at 88 4 = some (.iload 1, 5) := am_kq88 2 _ _ _ rfl
theorem k88_5 : am_at 88 5 = some (.bipush 3, 6) := am_kq88 3 _ _ _ rfl
theorem k88_6 : am_at 88 6 = some (.imul, 7) := am_kq88 4 _ _ _ rfl
theorem k88_7 : am_at 88 7 = some (.iload 2, 8) := am_kq88 5 _ _ _ rfl
theorem k88_8 : am_at 88 8 = some (.iastore, 9) := am_kq88 6 _ _ _ rfl
theorem k88_9 : am_at 88 9 = some (.aload 0, 10) := am_kq88 7 _ _ _ rfl
theorem k88_10 : am_at 88 10 = some (.getfield 64, 13) := am_kq88 8 _ _ _ rfl
theorem k88_13 : am_at 88 13 = some (.iload 1, 14) := am_kq88 9 _ _ _ rfl
theorem k88_14 : am_at 88 14 = some (.bipush 3, 15) := am_kq88 10 _ _ _ rfl
theorem k88_15 : am_at 88 15 = some (.imul, 16) := am_kq88 11 _ _ _ rfl
theorem k88_16 : am_at 88 16 = some (.bipush 1, 17) := am_kq88 12 _ _ _ rfl
theorem k88_17 : am_at 88 17 = some (.iadd, 18) := am_kq88 13 _ _ _ rfl
theorem k88_18 : am_at 88 18 = some (.iload 3, 19) := am_kq88 14 _ _ _ rfl
theorem k88_19 : am_at 88 19 = some (.iastore, 20) := am_kq88 15 _ _ _ rfl
theorem k88_20 : am_at 88 20 = some (.aload 0, 21) := am_kq88 16 _ _ _ rfl
theorem k88_21 : am_at 88 21 = some (.getfield 64, 24) := am_kq88 17 _ _ _ rfl
theorem k88_24 : am_at 88 24 = some (.iload 1, 25) := am_kq88 18 _ _ _ rfl
theorem k88_25 : am_at 88 25 = some (.bipush 3, 26) := am_kq88 19 _ _ _ rfl
theorem k88_26 : am_at 88 26 = some (.imul, 27) := am_kq88 20 _ _ _ rfl
theorem k88_27 : am_at 88 27 = some (.bipush 2, 28) := am_kq88 21 _ _ _ rfl
theorem k88_28 : am_at 88 28 = some (.iadd, 29) := am_kq88 22 _ _ _ rfl
theorem k88_29 : am_at 88 29 = some (.iload 4, 31) := am_kq88 23 _ _ _ rfl
theorem k88_31 : am_at 88 31 = some (.iastore, 32) := am_kq88 24 _ _ _ rfl
theorem k88_32 : am_at 88 32 = some (.return_, 33) := am_kq88 25 _ _ _ rfl
set_option maxRecDepth 20000 in
theorem am_kq89 (i pc : Nat) (x : Instr) (nx : Nat) (hi : am_t89[i]? = some (pc, x, nx)) : am_at 89 pc = some (x, nx) := am_kB 89 am_t89 rfl (by decide +kernel) i pc x nx hi
theorem k89_0 : am_at 89 0 = some (.bipush 0, 1) := am_kq89 0 _ _ _ rfl
theorem k89_1 : am_at 89 1 = some (.istore 2, 2) := am_kq89 1 _ _ _ rfl
theorem k89_2 : am_at 89 2 = some (.iload 2, 3) := am_kq89 2 _ _ _ rfl
theorem k89_3 : am_at 89 3 = some (.bipush 12, 5) := am_kq89 3 _ _ _ rfl
theorem k89_5 : am_at 89 5 = some (.if_icmp .ge 33, 8) := am_kq89 4 _ _ _ rfl
theorem k89_8 : am_at 89 8 = some (.aload 0, 9) := am_kq89 5 _ _ _ rfl
theorem k89_9 : am_at 89 9 = some (.iload 2, 10) := am_kq89 6 _ _ _ rfl
theorem k89_10 : am_at 89 10 = some (.iload 1, 11) := am_kq89 7 _ _ _ rfl
theorem k89_11 : am_at 89 11 = some (.invokestatic 91, 14) := am_kq89 8 _ _ _ rfl
theorem k89_14 : am_at 89 14 = some (.ifCond .eq 27, 17) := am_kq89 9 _ _ _ rfl
theorem k89_17 : am_at 89 17 = some (.aload 0, 18) := am_kq89 10 _ _ _ rfl
theorem k89_18 : am_at 89 18 = some (.iload 2, 19) := am_kq89 11 _ _ _ rfl
theorem k89_19 : am_at 89 19 = some (.invokestatic 92, 22) := am_kq89 12 _ _ _ rfl
theorem k89_22 : am_at 89 22 = some (.ifCond .ne 27, 25) := am_kq89 13 _ _ _ rfl
theorem k89_25 : am_at 89 25 = some (.bipush 0, 26) := am_kq89 14 _ _ _ rfl
theorem k89_26 : am_at 89 26 = some (.ireturn, 27) := am_kq89 15 _ _ _ rfl
theorem k89_27 : am_at 89 27 = some (.iinc 2 1, 30) := am_kq89 16 _ _ _ rfl
theorem k89_30 : am_at 89 30 = some (.goto 2, 33) := am_kq89 17 _ _ _ rfl
theorem k89_33 : am_at 89 33 = some (.bipush 1, 34) := am_kq89 18 _ _ _ rfl
theorem k89_34 : am_at 89 34 = some (.ireturn, 35) := am_kq89 19 _ _ _ rfl
set_option maxRecDepth 20000 in
theorem am_kq90 (i pc : Nat) (x : Instr) (nx : Nat) (hi : am_t90[i]? = some (pc, x, nx)) : am_at 90 pc = some (x, nx) := am_kB 90 am_t90 rfl (by decide +kernel) i pc x nx hi
theorem k90_0 : am_at 90 0 = some (.bipush 0, 1) := am_kq90 0 _ _ _ rfl
theorem k90_1 : am_at 90 1 = some (.istore 2, 2) := am_kq90 1 _ _ _ rfl
theorem k90_2 : am_at 90 2 = some (.iload 2, 3) := am_kq90 2 _ _ _ rfl
theorem k90_3 : am_at 90 3 = some (.bipush 12, 5) := am_kq90 3 _ _ _ rfl
theorem k90_5 : am_at 90 5 = some (.if_icmp .ge 56, 8) := am_kq90 4 _ _ _ rfl
theorem k90_8 : am_at 90 8 = some (.aload 0, 9) := am_kq90 5 _ _ _ rfl
theorem k90_9 : am_at 90 9 = some (.iload 2, 10) := am_kq90 6 _ _ _ rfl
theorem k90_10 : am_at 90 10 = some (.iload 1, 11) := am_kq90 7 _ _ _ rfl
theorem k90_11 : am_at 90 11 = some (.invokestatic 91, 14) := am_kq90 8 _ _ _ rfl
theorem k90_14 : am_at 90 14 = some (.ifCond .eq 50, 17) := am_kq90 9 _ _ _ rfl
theorem k90_17 : am_at 90 17 = some (.aload 0, 18) := am_kq90 10 _ _ _ rfl
theorem k90_18 : am_at 90 18 = some (.getfield 66, 21) := am_kq90 11 _ _ _ rfl
theorem k90_21 : am_at 90 21 = some (.iload 2, 22) := am_kq90 12 _ _ _ rfl
theorem k90_22 : am_at 90 22 = some (.aload 0, 23) := am_kq90 13 _ _ _ rfl
theorem k90_23 : am_at 90 23 = some (.iload 2, 24) := am_kq90 14 _ _ _ rfl
theorem k90_24 : am_at 90 24 = some (.invokestatic 92, 27) := am_kq90 15 _ _ _ rfl
theorem k90_27 : am_at 90 27 = some (.iastore, 28) := am_kq90 16 _ _ _ rfl
theorem k90_28 : am_at 90 28 = some (.aload 0, 29) := am_kq90 17 _ _ _ rfl
theorem k90_29 : am_at 90 29 = some (.getfield 70, 32) := am_kq90 18 _ _ _ rfl
theorem k90_32 : am_at 90 32 = some (.bipush 0, 33) := am_kq90 19 _ _ _ rfl
theorem k90_33 : am_at 90 33 = some (.aload 0, 34) := am_kq90 20 _ _ _ rfl
theorem k90_34 : am_at 90 34 = some (.getfield 65, 37) := am_kq90 21 _ _ _ rfl
theorem k90_37 : am_at 90 37 = some (.iload 2, 38) := am_kq90 22 _ _ _ rfl
theorem k90_38 : am_at 90 38 = some (.bipush 12, 40) := am_kq90 23 _ _ _ rfl
theorem k90_40 : am_at 90 40 = some (.imul, 41) := am_kq90 24 _ _ _ rfl
theorem k90_41 : am_at 90 41 = some (.aload 0, 42) := am_kq90 25 _ _ _ rfl
theorem k90_42 : am_at 90 42 = some (.getfield 66, 45) := am_kq90 26 _ _ _ rfl
theorem k90_45 : am_at 90 45 = some (.iload 2, 46) := am_kq90 27 _ _ _ rfl
theorem k90_46 : am_at 90 46 = some (.iaload, 47) := am_kq90 28 _ _ _ rfl
theorem k90_47 : am_at 90 47 = some (.dsub, 50) := am_kq90 29 _ _ _ rfl
theorem k90_50 : am_at 90 50 = some (.iinc 2 1, 53) := am_kq90 30 _ _ _ rfl
theorem k90_53 : am_at 90 53 = some (.goto 2, 56) := am_kq90 31 _ _ _ rfl
theorem k90_56 : am_at 90 56 = some (.return_, 57) := am_kq90 32 _ _ _ rfl
set_option maxRecDepth 20000 in
theorem am_kq91 (i pc : Nat) (x : Instr) (nx : Nat) (hi : am_t91[i]? = some (pc, x, nx)) : am_at 91 pc = some (x, nx) := am_kB 91 am_t91 rfl (by decide +kernel) i pc x nx hi
theorem k91_0 : am_at 91 0 = some (.iload 1, 1) := am_kq91 0 _ _ _ rfl
theorem k91_1 : am_at 91 1 = some (.iload 2, 2) := am_kq91 1 _ _ _ rfl
theorem k91_2 : am_at 91 2 = some (.if_icmp .eq 22, 5) := am_kq91 2 _ _ _ rfl
theorem k91_5 : am_at 91 5 = some (.aload 0, 6) := am_kq91 3 _ _ _ rfl
theorem k91_6 : am_at 91 6 = some (.iload 1, 7) := am_kq91 4 _ _ _ rfl
theorem k91_7 : am_at 91 7 = some (.invokestatic 85, 10) := am_kq91 5 _ _ _ rfl
theorem k91_10 : am_at 91 10 = some (.ifCond .eq 26, 13) := am_kq91 6 _ _ _ rfl
theorem k91_13 : am_at 91 13 = some (.aload 0, 14) := am_kq91 7 _ _ _ rfl
theorem k91_14 : am_at 91 14 = some (.iload 1, 15) := am_kq91 8 _ _ _ rfl
theorem k91_15 : am_at 91 15 = some (.iload 2, 16) := am_kq91 9 _ _ _ rfl
theorem k91_16 : am_at 91 16 = some (.invokestatic 99, 19) := am_kq91 10 _ _ _ rfl
theorem k91_19 : am_at 91 19 = some (.ifCond .lt 26, 22) := am_kq91 11 _ _ _ rfl
theorem k91_22 : am_at 91 22 = some (.bipush 1, 23) := am_kq91 12 _ _ _ rfl
theorem k91_23 : am_at 91 23 = some (.goto 27, 26) := am_kq91 13 _ _ _ rfl
theorem k91_26 : am_at 91 26 = some (.bipush 0, 27) := am_kq91 14 _ _ _ rfl
theorem k91_27 : am_at 91 27 = some (.ireturn, 28) := am_kq91 15 _ _ _ rfl
set_option maxRecDepth 20000 in
theorem am_kq92 (i pc : Nat) (x : Instr) (nx : Nat) (hi : am_t92[i]? = some (pc, x, nx)) : am_at 92 pc = some (x, nx) := am_kB 92 am_t92 rfl (by decide +kernel) i pc x nx hi
theorem k92_0 : am_at 92 0 = some (.aload 0, 1) := am_kq92 0 _ _ _ rfl
theorem k92_1 : am_at 92 1 = some (.iload 1, 2) := am_kq92 1 _ _ _ rfl
theorem k92_2 : am_at 92 2 = some (.invokestatic 93, 5) := am_kq92 2 _ _ _ rfl
theorem k92_5 : am_at 92 5 = some (.istore 2, 6) := am_kq92 3 _ _ _ rfl
theorem k92_6 : am_at 92 6 = some (.aload 0, 7) := am_kq92 4 _ _ _ rfl
theorem k92_7 : am_at 92 7 = some (.iload 2, 8) := am_kq92 5 _ _ _ rfl
theorem k92_8 : am_at 92 8 = some (.invokestatic 95, 11) := am_kq92 6 _ _ _ rfl
theorem k92_11 : am_at 92 11 = some (.aload 0, 12) := am_kq92 7 _ _ _ rfl
theorem k92_12 : am_at 92 12 = some (.getfield 70, 15) := am_kq92 8 _ _ _ rfl
theorem k92_15 : am_at 92 15 = some (.bipush 0, 16) := am_kq92 9 _ _ _ rfl
theorem k92_16 : am_at 92 16 = some (.iload 1, 17) := am_kq92 10 _ _ _ rfl
theorem k92_17 : am_at 92 17 = some (.iastore, 18) := am_kq92 11 _ _ _ rfl
theorem k92_18 : am_at 92 18 = some (.bipush 1, 19) := am_kq92 12 _ _ _ rfl
theorem k92_19 : am_at 92 19 = some (.istore 3, 20) := am_kq92 13 _ _ _ rfl
theorem k92_20 : am_at 92 20 = some (.iload 2, 21) := am_kq92 14 _ _ _ rfl
theorem k92_21 : am_at 92 21 = some (.bipush 1, 22) := am_kq92 15 _ _ _ rfl
theorem k92_22 : am_at 92 22 = some (.iload 1, 23) := am_kq92 16 _ _ _ rfl
theorem k92_23 : am_at 92 23 = some (.ishl, 24) := am_kq92 17 _ _ _ rfl
theorem k92_24 : am_at 92 24 = some (.bipush (-1), 25) := am_kq92 18 _ _ _ rfl
theorem k92_25 : am_at 92 25 = some (.ixor, 26) := am_kq92 19 _ _ _ rfl
theorem k92_26 : am_at 92 26 = some (.iand, 27) := am_kq92 20 _ _ _ rfl
theorem k92_27 : am_at 92 27 = some (.istore 4, 29) := am_kq92 21 _ _ _ rfl
theorem k92_29 : am_at 92 29 = some (.iload 4, 31) := am_kq92 22 _ _ _ rfl
theorem k92_31 : am_at 92 31 = some (.ifCond .eq 82, 34) := am_kq92 23 _ _ _ rfl
theorem k92_34 : am_at 92 34 = some (.iload 3, 35) := am_kq92 24 _ _ _ rfl
theorem k92_35 : am_at 92 35 = some (.bipush 12, 37) := am_kq92 25 _ _ _ rfl
theorem k92_37 : am_at 92 37 = some (.if_icmp .ge 82, 40) := am_kq92 26 _ _ _ rfl
theorem k92_40 : am_at 92 40 = some (.aload 0, 41) := am_kq92 27 _ _ _ rfl
theorem k92_41 : am_at 92 41 = some (.iload 3, 42) := am_kq92 28 _ _ _ rfl
theorem k92_42 : am_at 92 42 = some (.iload 4, 44) := am_kq92 29 _ _ _ rfl
theorem k92_44 : am_at 92 44 = some (.invokestatic 97, 47) := am_kq92 30 _ _ _ rfl
theorem k92_47 : am_at 92 47 = some (.istore 5, 49) := am_kq92 31 _ _ _ rfl
theorem k92_49 : am_at 92 49 = some (.iload 5, 51) := am_kq92 32 _ _ _ rfl
theorem k92_51 : am_at 92 51 = some (.bipush (-1), 52) := am_kq92 33 _ _ _ rfl
theorem k92_52 : am_at 92 52 = some (.if_icmp .ne 57, 55) := am_kq92 34 _ _ _ rfl
theorem k92_55 : am_at 92 55 = some (.bipush 0, 56) := am_kq92 35 _ _ _ rfl
theorem k92_56 : am_at 92 56 = some (.ireturn, 57) := am_kq92 36 _ _ _ rfl
theorem k92_57 : am_at 92 57 = some (.aload 0, 58) := am_kq92 37 _ _ _ rfl
theorem k92_58 : am_at 92 58 = some (.getfield 70, 61) := am_kq92 38 _ _ _ rfl
theorem k92_61 : am_at 92 61 = some (.iload 3, 62) := am_kq92 39 _ _ _ rfl
theorem k92_62 : am_at 92 62 = some (.iload 5, 64) := am_kq92 40 _ _ _ rfl
theorem k92_64 : am_at 92 64 = some (.iastore, 65) := am_kq92 41 _ _ _ rfl
theorem k92_65 : am_at 92 65 = some (.iinc 3 1, 68) := am_kq92 42 _ _ _ rfl
theorem k92_68 : am_at 92 68 = some (.iload 4, 70) := am_kq92 43 _ _ _ rfl
theorem k92_70 : am_at 92 70 = some (.bipush 1, 71) := am_kq92 44 _ _ _ rfl
theorem k92_71 : am_at 92 71 = some (.iload 5, 73) := am_kq92 45 _ _ _ rfl
theorem k92_73 : am_at 92 73 = some (.ishl, 74) := am_kq92 46 _ _ _ rfl
theorem k92_74 : am_at 92 74 = some (.bipush (-1), 75) := am_kq92 47 _ _ _ rfl
theorem k92_75 : am_at 92 75 = some (.ixor, 76) := am_kq92 48 _ _ _ rfl
theorem k92_76 : am_at 92 76 = some (.iand, 77) := am_kq92 49 _ _ _ rfl
theorem k92_77 : am_at 92 77 = some (.istore 4, 79) := am_kq92 50 _ _ _ rfl
theorem k92_79 : am_at 92 79 = some (.goto 29, 82) := am_kq92 51 _ _ _ rfl
theorem k92_82 : am_at 92 82 = some (.iload 3, 83) := am_kq92 52 _ _ _ rfl
theorem k92_83 : am_at 92 83 = some (.ireturn, 84) := am_kq92 53 _ _ _ rfl
set_option maxRecDepth 20000 in
theorem am_kq93 (i pc : Nat) (x : Instr) (nx : Nat) (hi : am_t93[i]? = some (pc, x, nx)) : am_at 93 pc = some (x, nx) := am_kB 93 am_t93 rfl (by decide +kernel) i pc x nx hi
theorem k93_0 : am_at 93 0 = some (.bipush 1, 1) := am_kq93 0 _ _ _ rfl
theorem k93_1 : am_at 93 1 = some (.iload 1, 2) := am_kq93 1 _ _ _ rfl
theorem k93_2 : am_at 93 2 = some (.ishl, 3) := am_kq93 2 _ _ _ rfl
theorem k93_3 : am_at 93 3 = some (.istore 2, 4) := am_kq93 3 _ _ _ rfl
theorem k93_4 : am_at 93 4 = some (.bipush 0, 5) := am_kq93 4 _ _ _ rfl
theorem k93_5 : am_at 93 5 = some (.istore 3, 6) := am_kq93 5 _ _ _ rfl
theorem k93_6 : am_at 93 6 = some (.iload 3, 7) := am_kq93 6 _ _ _ rfl
theorem k93_7 : am_at 93 7 = some (.bipush 12, 9) := am_kq93 7 _ _ _ rfl
theorem k93_9 : am_at 93 9 = some (.if_icmp .ge 65, 12) := am_kq93 8 _ _ _ rfl
theorem k93_12 : am_at 93 12 = some (.iload 2, 13) := am_kq93 9 _ _ _ rfl
theorem k93_13 : am_at 93 13 = some (.istore 4, 15) := am_kq93 10 _ _ _ rfl
theorem k93_15 : am_at 93 15 = some (.bipush 0, 16) := am_kq93 11 _ _ _ rfl
theorem k93_16 : am_at 93 16 = some (.istore 5, 18) := am_kq93 12 _ _ _ rfl
theorem k93_18 : am_at 93 18 = some (.iload 5, 20) := am_kq93 13 _ _ _ rfl
theorem k93_20 : am_at 93 20 = some (.bipush 12, 22) := am_kq93 14 _ _ _ rfl
theorem k93_22 : am_at 93 22 = some (.if_icmp .ge 50, 25) := am_kq93 15 _ _ _ rfl
theorem k93_25 : am_at 93 25 = some (.iload 4, 27) := am_kq93 16 _ _ _ rfl
theorem k93_27 : am_at 93 27 = some (.iload 5, 29) := am_kq93 17 _ _ _ rfl
theorem k93_29 : am_at 93 29 = some (.invokestatic 29, 32) := am_kq93 18 _ _ _ rfl
theorem k93_32 : am_at 93 32 = some (.ifCond .eq 44, 35) := am_kq93 19 _ _ _ rfl
theorem k93_35 : am_at 93 35 = some (.iload 2, 36) := am_kq93 20 _ _ _ rfl
theorem k93_36 : am_at 93 36 = some (.aload 0, 37) := am_kq93 21 _ _ _ rfl
theorem k93_37 : am_at 93 37 = some (.iload 5, 39) := am_kq93 22 _ _ _ rfl
theorem k93_39 : am_at 93 39 = some (.invokestatic 94, 42) := am_kq93 23 _ _ _ rfl
theorem k93_42 : am_at 93 42 = some (.ior, 43) := am_kq93 24 _ _ _ rfl
theorem k93_43 : am_at 93 43 = some (.istore 2, 44) := am_kq93 25 _ _ _ rfl
theorem k93_44 : am_at 93 44 = some (.iinc 5 1, 47) := am_kq93 26 _ _ _ rfl
theorem k93_47 : am_at 93 47 = some (.goto 18, 50) := am_kq93 27 _ _ _ rfl
theorem k93_50 : am_at 93 50 = some (.iload 2, 51) := am_kq93 28 _ _ _ rfl
theorem k93_51 : am_at 93 51 = some (.iload 4, 53) := am_kq93 29 _ _ _ rfl
theorem k93_53 : am_at 93 53 = some (.if_icmp .ne 59, 56) := am_kq93 30 _ _ _ rfl
theorem k93_56 : am_at 93 56 = some (.goto 65, 59) := am_kq93 31 _ _ _ rfl
theorem k93_59 : am_at 93 59 = some (.iinc 3 1, 62) := am_kq93 32 _ _ _ rfl
theorem k93_62 : am_at 93 62 = some (.goto 6, 65) := am_kq93 33 _ _ _ rfl
theorem k93_65 : am_at 93 65 = some (.iload 2, 66) := am_kq93 34 _ _ _ rfl
theorem k93_66 : am_at 93 66 = some (.ireturn, 67) := am_kq93 35 _ _ _ rfl
set_option maxRecDepth 20000 in
theorem am_kq94 (i pc : Nat) (x : Instr) (nx : Nat) (hi : am_t94[i]? = some (pc, x, nx)) : am_at 94 pc = some (x, nx) := am_kB 94 am_t94 rfl (by decide +kernel) i pc x nx hi
theorem k94_0 : am_at 94 0 = some (.bipush 0, 1) := am_kq94 0 _ _ _ rfl
theorem k94_1 : am_at 94 1 = some (.istore 2, 2) := am_kq94 1 _ _ _ rfl
theorem k94_2 : am_at 94 2 = some (.iload 1, 3) := am_kq94 2 _ _ _ rfl
theorem k94_3 : am_at 94 3 = some (.bipush 3, 4) := am_kq94 3 _ _ _ rfl
theorem k94_4 : am_at 94 4 = some (.imul, 5) := am_kq94 4 _ _ _ rfl
theorem k94_5 : am_at 94 5 = some (.istore 3, 6) := am_kq94 5 _ _ _ rfl
theorem k94_6 : am_at 94 6 = some (.iload 3, 7) := am_kq94 6 _ _ _ rfl
theorem k94_7 : am_at 94 7 = some (.iload 1, 8) := am_kq94 7 _ _ _ rfl
theorem k94_8 : am_at 94 8 = some (.bipush 1, 9) := am_kq94 8 _ _ _ rfl
theorem k94_9 : am_at 94 9 = some (.iadd, 10) := am_kq94 9 _ _ _ rfl
theorem k94_10 : am_at 94 10 = some (.bipush 3, 11) := am_kq94 10 _ _ _ rfl
theorem k94_11 : am_at 94 11 = some (.imul, 12) := am_kq94 11 _ _ _ rfl
theorem k94_12 : am_at 94 12 = some (.if_icmp .ge 42, 15) := am_kq94 12 _ _ _ rfl
theorem k94_15 : am_at 94 15 = some (.aload 0, 16) := am_kq94 13 _ _ _ rfl
theorem k94_16 : am_at 94 16 = some (.getfield 64, 19) := am_kq94 14 _ _ _ rfl
theorem k94_19 : am_at 94 19 = some (.iload 3, 20) := am_kq94 15 _ _ _ rfl
theorem k94_20 : am_at 94 20 = some (.iaload, 21) := am_kq94 16 _ _ _ rfl
theorem k94_21 : am_at 94 21 = some (.bipush (-1), 22) := am_kq94 17 _ _ _ rfl
theorem k94_22 : am_at 94 22 = some (.if_icmp .eq 36, 25) := am_kq94 18 _ _ _ rfl
theorem k94_25 : am_at 94 25 = some (.iload 2, 26) := am_kq94 19 _ _ _ rfl
theorem k94_26 : am_at 94 26 = some (.bipush 1, 27) := am_kq94 20 _ _ _ rfl
theorem k94_27 : am_at 94 27 = some (.aload 0, 28) := am_kq94 21 _ _ _ rfl
theorem k94_28 : am_at 94 28 = some (.getfield 64, 31) := am_kq94 22 _ _ _ rfl
theorem k94_31 : am_at 94 31 = some (.iload 3, 32) := am_kq94 23 _ _ _ rfl
theorem k94_32 : am_at 94 32 = some (.iaload, 33) := am_kq94 24 _ _ _ rfl
theorem k94_33 : am_at 94 33 = some (.ishl, 34) := am_kq94 25 _ _ _ rfl
theorem k94_34 : am_at 94 34 = some (.ior, 35) := am_kq94 26 _ _ _ rfl
theorem k94_35 : am_at 94 35 = some (.istore 2, 36) := am_kq94 27 _ _ _ rfl
theorem k94_36 : am_at 94 36 = some (.iinc 3 1, 39) := am_kq94 28 _ _ _ rfl
theorem k94_39 : am_at 94 39 = some (.goto 6, 42) := am_kq94 29 _ _ _ rfl
theorem k94_42 : am_at 94 42 = some (.iload 2, 43) := am_kq94 30 _ _ _ rfl
theorem k94_43 : am_at 94 43 = some (.ireturn, 44) := am_kq94 31 _ _ _ rfl
set_option maxRecDepth 20000 in
theorem am_kq95 (i pc : Nat) (x : Instr) (nx : Nat) (hi : am_t95[i]? = some (pc, x, nx)) : am_at 95 pc = some (x, nx) := am_kB 95 am_t95 rfl (by decide +kernel) i pc x nx hi
theorem k95_0 : am_at 95 0 = some (.bipush 0, 1) := am_kq95 0 _ _ _ rfl
theorem k95_1 : am_at 95 1 = some (.istore 2, 2) := am_kq95 1 _ _ _ rfl
theorem k95_2 : am_at 95 2 = some (.iload 2, 3) := am_kq95 2 _ _ _ rfl
theorem k95_3 : am_at 95 3 = some (.bipush 12, 5) := am_kq95 3 _ _ _ rfl
theorem k95_5 : am_at 95 5 = some (.if_icmp .ge 21, 8) := am_kq95 4 _ _ _ rfl
theorem k95_8 : am_at 95 8 = some (.aload 0, 9) := am_kq95 5 _ _ _ rfl
theorem k95_9 : am_at 95 9 = some (.getfield 71, 12) := am_kq95 6 _ _ _ rfl
theorem k95_12 : am_at 95 12 = some (.iload 2, 13) := am_kq95 7 _ _ _ rfl
theorem k95_13 : am_at 95 13 = some (.bipush 0, 14) := am_kq95 8 _ _ _ rfl
theorem k95_14 : am_at 95 14 = some (.iastore, 15) := am_kq95 9 _ _ _ rfl
theorem k95_15 : am_at 95 15 = some (.iinc 2 1, 18) := am_kq95 10 _ _ _ rfl
theorem k95_18 : am_at 95 18 = some (.goto 2, 21) := am_kq95 11 _ _ _ rfl
theorem k95_21 : am_at 95 21 = some (.bipush 0, 22) := am_kq95 12 _ _ _ rfl
theorem k95_22 : am_at 95 22 = some (.istore 2, 23) := am_kq95 13 _ _ _ rfl
theorem k95_23 : am_at 95 23 = some (.iload 2, 24) := am_kq95 14 _ _ _ rfl
theorem k95_24 : am_at 95 24 = some (.bipush 12, 26) := am_kq95 15 _ _ _ rfl
theorem k95_26 : am_at 95 26 = some (.if_icmp .ge 48, 29) := am_kq95 16 _ _ _ rfl
theorem k95_29 : am_at 95 29 = some (.iload 1, 30) := am_kq95 17 _ _ _ rfl
theorem k95_30 : am_at 95 30 = some (.iload 2, 31) := am_kq95 18 _ _ _ rfl
theorem k95_31 : am_at 95 31 = some (.invokestatic 29, 34) := am_kq95 19 _ _ _ rfl
theorem k95_34 : am_at 95 34 = some (.ifCond .eq 42, 37) := am_kq95 20 _ _ _ rfl
theorem k95_37 : am_at 95 37 = some (.aload 0, 38) := am_kq95 21 _ _ _ rfl
theorem k95_38 : am_at 95 38 = some (.iload 2, 39) := am_kq95 22 _ _ _ rfl
theorem k95_39 : am_at 95 39 = some (.invokestatic 96, 42) := am_kq95 23 _ _ _ rfl
theorem k95_42 : am_at 95 42 = some (.iinc 2 1, 45) := am_kq95 24 _ _ _ rfl
theorem k95_45 : am_at 95 45 = some (.goto 23, 48) := am_kq95 25 _ _ _ rfl
theorem k95_48 : am_at 95 48 = some (.return_, 49) := am_kq95 26 _ _ _ rfl
set_option maxRecDepth 20000 in
theorem am_kq96 (i pc : Nat) (x : Instr) (nx : Nat) (hi : am_t96[i]? = some (pc, x, nx)) : am_at 96 pc = some (x, nx) := am_kB 96 am_t96 rfl (by decide +kernel) i pc x nx hi
theorem k96_0 : am_at 96 0 = some (.bipush 1, 1) := am_kq96 0 _ _ _ rfl
theorem k96_1 : am_at 96 1 = some (.iload 1, 2) := am_kq96 1 _ _ _ rfl
theorem k96_2 : am_at 96 2 = some (.ishl, 3) := am_kq96 2 _ _ _ rfl
theorem k96_3 : am_at 96 3 = some (.istore 2, 4) := am_kq96 3 _ _ _ rfl
theorem k96_4 : am_at 96 4 = some (.iload 1, 5) := am_kq96 4 _ _ _ rfl
theorem k96_5 : am_at 96 5 = some (.bipush 3, 6) := am_kq96 5 _ _ _ rfl
theorem k96_6 : am_at 96 6 = some (.imul, 7) := am_kq96 6 _ _ _ rfl
theorem k96_7 : am_at 96 7 = some (.istore 3, 8) := am_kq96 7 _ _ _ rfl
theorem k96_8 : am_at 96 8 = some (.iload 3, 9) := am_kq96 8 _ _ _ rfl
theorem k96_9 : am_at 96 9 = some (.iload 1, 10) := am_kq96 9 _ _ _ rfl
theorem k96_10 : am_at 96 10 = some (.bipush 1, 11) := am_kq96 10 _ _ _ rfl
theorem k96_11 : am_at 96 11 = some (.iadd, 12) := am_kq96 11 _ _ _ rfl
theorem k96_12 : am_at 96 12 = some (.bipush 3, 13) := am_kq96 12 _ _ _ rfl
theorem k96_13 : am_at 96 13 = some (.imul, 14) := am_kq96 13 _ _ _ rfl
theorem k96_14 : am_at 96 14 = some (.if_icmp .ge 55, 17) := am_kq96 14 _ _ _ rfl
theorem k96_17 : am_at 96 17 = some (.aload 0, 18) := am_kq96 15 _ _ _ rfl
theorem k96_18 : am_at 96 18 = some (.getfield 64, 21) := am_kq96 16 _ _ _ rfl
theorem k96_21 : am_at 96 21 = some (.iload 3, 22) := am_kq96 17 _ _ _ rfl
theorem k96_22 : am_at 96 22 = some (.iaload, 23) := am_kq96 18 _ _ _ rfl
theorem k96_23 : am_at 96 23 = some (.istore 4, 25) := am_kq96 19 _ _ _ rfl
theorem k96_25 : am_at 96 25 = some (.iload 4, 27) := am_kq96 20 _ _ _ rfl
theorem k96_27 : am_at 96 27 = some (.bipush (-1), 28) := am_kq96 21 _ _ _ rfl
theorem k96_28 : am_at 96 28 = some (.if_icmp .eq 49, 31) := am_kq96 22 _ _ _ rfl
theorem k96_31 : am_at 96 31 = some (.aload 0, 32) := am_kq96 23 _ _ _ rfl
theorem k96_32 : am_at 96 32 = some (.getfield 71, 35) := am_kq96 24 _ _ _ rfl
theorem k96_35 : am_at 96 35 = some (.iload 4, 37) := am_kq96 25 _ _ _ rfl
theorem k96_37 : am_at 96 37 = some (.dup2, 38) := am_kq96 26 _ _ _ rfl
theorem k96_38 : am_at 96 38 = some (.iaload, 39) := am_kq96 27 _ _ _ rfl
theorem k96_39 : am_at 96 39 = some (.iload 2, 40) := am_kq96 28 _ _ _ rfl
theorem k96_40 : am_at 96 40 = some (.ior, 41) := am_kq96 29 _ _ _ rfl
theorem k96_41 : am_at 96 41 = some (.iastore, 42) := am_kq96 30 _ _ _ rfl
theorem k96_42 : am_at 96 42 = some (.iload 2, 43) := am_kq96 31 _ _ _ rfl
theorem k96_43 : am_at 96 43 = some (.bipush 1, 44) := am_kq96 32 _ _ _ rfl
theorem k96_44 : am_at 96 44 = some (.iload 4, 46) := am_kq96 33 _ _ _ rfl
theorem k96_46 : am_at 96 46 = some (.ishl, 47) := am_kq96 34 _ _ _ rfl
theorem k96_47 : am_at 96 47 = some (.ior, 48) := am_kq96 35 _ _ _ rfl
theorem k96_48 : am_at 96 48 = some (.istore 2, 49) := am_kq96 36 _ _ _ rfl
theorem k96_49 : am_at 96 49 = some (.iinc 3 1, 52) := am_kq96 37 _ _ _ rfl
theorem k96_52 : am_at 96 52 = some (.goto 8, 55) := am_kq96 38 _ _ _ rfl
theorem k96_55 : am_at 96 55 = some (.return_, 56) := am_kq96 39 _ _ _ rfl
set_option maxRecDepth 20000 in
theorem am_kq97 (i pc : Nat) (x : Instr) (nx : Nat) (hi : am_t97[i]? = some (pc, x, nx)) : am_at 97 pc = some (x, nx) := am_kB 97 am_t97 rfl (by decide +kernel) i pc x nx hi
theorem k97_0 : am_at 97 0 = some (.iload 1, 1) := am_kq97 0 _ _ _ rfl
theorem k97_1 : am_at 97 1 = some (.bipush 1, 2) := am_kq97 1 _ _ _ rfl
theorem k97_2 : am_at 97 2 = some (.isub, 3) := am_kq97 2 _ _ _ rfl
theorem k97_3 : am_at 97 3 = some (.istore 3, 4) := am_kq97 3 _ _ _ rfl
theorem k97_4 : am_at 97 4 = some (.iload 3, 5) := am_kq97 4 _ _ _ rfl
theorem k97_5 : am_at 97 5 = some (.ifCond .lt 84, 8) := am_kq97 5 _ _ _ rfl
theorem k97_8 : am_at 97 8 = some (.aload 0, 9) := am_kq97 6 _ _ _ rfl
theorem k97_9 : am_at 97 9 = some (.getfield 70, 12) := am_kq97 7 _ _ _ rfl
theorem k97_12 : am_at 97 12 = some (.iload 3, 13) := am_kq97 8 _ _ _ rfl
theorem k97_13 : am_at 97 13 = some (.iaload, 14) := am_kq97 9 _ _ _ rfl
theorem k97_14 : am_at 97 14 = some (.istore 4, 16) := am_kq97 10 _ _ _ rfl
theorem k97_16 : am_at 97 16 = some (.iload 4, 18) := am_kq97 11 _ _ _ rfl
theorem k97_18 : am_at 97 18 = some (.bipush 3, 19) := am_kq97 12 _ _ _ rfl
theorem k97_19 : am_at 97 19 = some (.imul, 20) := am_kq97 13 _ _ _ rfl
theorem k97_20 : am_at 97 20 = some (.istore 5, 22) := am_kq97 14 _ _ _ rfl
theorem k97_22 : am_at 97 22 = some (.iload 5, 24) := am_kq97 15 _ _ _ rfl
theorem k97_24 : am_at 97 24 = some (.iload 4, 26) := am_kq97 16 _ _ _ rfl
theorem k97_26 : am_at 97 26 = some (.bipush 1, 27) := am_kq97 17 _ _ _ rfl
theorem k97_27 : am_at 97 27 = some (.iadd, 28) := am_kq97 18 _ _ _ rfl
theorem k97_28 : am_at 97 28 = some (.bipush 3, 29) := am_kq97 19 _ _ _ rfl
theorem k97_29 : am_at 97 29 = some (.imul, 30) := am_kq97 20 _ _ _ rfl
theorem k97_30 : am_at 97 30 = some (.if_icmp .ge 78, 33) := am_kq97 21 _ _ _ rfl
theorem k97_33 : am_at 97 33 = some (.aload 0, 34) := am_kq97 22 _ _ _ rfl
theorem k97_34 : am_at 97 34 = some (.getfield 64, 37) := am_kq97 23 _ _ _ rfl
theorem k97_37 : am_at 97 37 = some (.iload 5, 39) := am_kq97 24 _ _ _ rfl
theorem k97_39 : am_at 97 39 = some (.iaload, 40) := am_kq97 25 _ _ _ rfl
theorem k97_40 : am_at 97 40 = some (.istore 6, 42) := am_kq97 26 _ _ _ rfl
theorem k97_42 : am_at 97 42 = some (.iload 6, 44) := am_kq97 27 _ _ _ rfl
theorem k97_44 : am_at 97 44 = some (.bipush (-1), 45) := am_kq97 28 _ _ _ rfl
theorem k97_45 : am_at 97 45 = some (.if_icmp .eq 72, 48) := am_kq97 29 _ _ _ rfl
theorem k97_48 : am_at 97 48 = some (.iload 2, 49) := am_kq97 30 _ _ _ rfl
theorem k97_49 : am_at 97 49 = some (.iload 6, 51) := am_kq97 31 _ _ _ rfl
theorem k97_51 : am_at 97 51 = some (.invokestatic 29, 54) := am_kq97 32 _ _ _ rfl
theorem k97_54 : am_at 97 54 = some (.ifCond .eq 72, 57) := am_kq97 33 _ _ _ rfl
theorem k97_57 : am_at 97 57 = some (.aload 0, 58) := am_kq97 34 _ _ _ rfl
theorem k97_58 : am_at 97 58 = some (.getfield 71, 61) := am_kq97 35 _ _ _ rfl
theorem k97_61 : am_at 97 61 = some (.iload 6, 63) := am_kq97 36 _ _ _ rfl
theorem k97_63 : am_at 97 63 = some (.iaload, 64) := am_kq97 37 _ _ _ rfl
theorem k97_64 : am_at 97 64 = some (.iload 2, 65) := am_kq97 38 _ _ _ rfl
theorem k97_65 : am_at 97 65 = some (.iand, 66) := am_kq97 39 _ _ _ rfl
theorem k97_66 : am_at 97 66 = some (.ifCond .ne 72, 69) := am_kq97 40 _ _ _ rfl
theorem k97_69 : am_at 97 69 = some (.iload 6, 71) := am_kq97 41 _ _ _ rfl
theorem k97_71 : am_at 97 71 = some (.ireturn, 72) := am_kq97 42 _ _ _ rfl
theorem k97_72 : am_at 97 72 = some (.iinc 5 1, 75) := am_kq97 43 _ _ _ rfl
theorem k97_75 : am_at 97 75 = some (.goto 22, 78) := am_kq97 44 _ _ _ rfl
theorem k97_78 : am_at 97 78 = some (.iinc 3 (-1), 81) := am_kq97 45 _ _ _ rfl
theorem k97_81 : am_at 97 81 = some (.goto 4, 84) := am_kq97 46 _ _ _ rfl
theorem k97_84 : am_at 97 84 = some (.bipush (-1), 85) := am_kq97 47 _ _ _ rfl
theorem k97_85 : am_at 97 85 = some (.ireturn, 86) := am_kq97 48 _ _ _ rfl
set_option maxRecDepth 20000 in
theorem am_kq98 (i pc : Nat) (x : Instr) (nx : Nat) (hi : am_t98[i]? = some (pc, x, nx)) : am_at 98 pc = some (x, nx) := am_kB 98 am_t98 rfl (by decide +kernel) i pc x nx hi
theorem k98_0 : am_at 98 0 = some (.iload 2, 1) := am_kq98 0 _ _ _ rfl
theorem k98_1 : am_at 98 1 = some (.bipush 0, 2) := am_kq98 1 _ _ _ rfl
theorem k98_2 : am_at 98 2 = some (.aload 0, 3) := am_kq98 2 _ _ _ rfl
theorem k98_3 : am_at 98 3 = some (.getfield 66, 6) := am_kq98 3 _ _ _ rfl
theorem k98_6 : am_at 98 6 = some (.iload 1, 7) := am_kq98 4 _ _ _ rfl
theorem k98_7 : am_at 98 7 = some (.iaload, 8) := am_kq98 5 _ _ _ rfl
theorem k98_8 : am_at 98 8 = some (.bipush 1, 9) := am_kq98 6 _ _ _ rfl
theorem k98_9 : am_at 98 9 = some (.isub, 10) := am_kq98 7 _ _ _ rfl
theorem k98_10 : am_at 98 10 = some (.invokestatic 27, 13) := am_kq98 8 _ _ _ rfl
theorem k98_13 : am_at 98 13 = some (.ifCond .eq 30, 16) := am_kq98 9 _ _ _ rfl
theorem k98_16 : am_at 98 16 = some (.aload 0, 17) := am_kq98 10 _ _ _ rfl
theorem k98_17 : am_at 98 17 = some (.getfield 65, 20) := am_kq98 11 _ _ _ rfl
theorem k98_20 : am_at 98 20 = some (.iload 1, 21) := am_kq98 12 _ _ _ rfl
theorem k98_21 : am_at 98 21 = some (.bipush 12, 23) := am_kq98 13 _ _ _ rfl
theorem k98_23 : am_at 98 23 = some (.imul, 24) := am_kq98 14 _ _ _ rfl
theorem k98_24 : am_at 98 24 = some (.iload 2, 25) := am_kq98 15 _ _ _ rfl
theorem k98_25 : am_at 98 25 = some (.iadd, 26) := am_kq98 16 _ _ _ rfl
theorem k98_26 : am_at 98 26 = some (.iaload, 27) := am_kq98 17 _ _ _ rfl
theorem k98_27 : am_at 98 27 = some (.goto 32, 30) := am_kq98 18 _ _ _ rfl
theorem k98_30 : am_at 98 30 = some (.bipush (-2), 32) := am_kq98 19 _ _ _ rfl
theorem k98_32 : am_at 98 32 = some (.ireturn, 33) := am_kq98 20 _ _ _ rfl
set_option maxRecDepth 20000 in
theorem am_kq99 (i pc : Nat) (x : Instr) (nx : Nat) (hi : am_t99[i]? = some (pc, x, nx)) : am_at 99 pc = some (x, nx) := am_kB 99 am_t99 rfl (by decide +kernel) i pc x nx hi
theorem k99_0 : am_at 99 0 = some (.bipush 0, 1) := am_kq99 0 _ _ _ rfl
theorem k99_1 : am_at 99 1 = some (.istore 3, 2) := am_kq99 1 _ _ _ rfl
theorem k99_2 : am_at 99 2 = some (.iload 3, 3) := am_kq99 2 _ _ _ rfl
theorem k99_3 : am_at 99 3 = some (.aload 0, 4) := am_kq99 3 _ _ _ rfl
theorem k99_4 : am_at 99 4 = some (.getfield 66, 7) := am_kq99 4 _ _ _ rfl
theorem k99_7 : am_at 99 7 = some (.iload 1, 8) := am_kq99 5 _ _ _ rfl
theorem k99_8 : am_at 99 8 = some (.iaload, 9) := am_kq99 6 _ _ _ rfl
theorem k99_9 : am_at 99 9 = some (.if_icmp .ge 35, 12) := am_kq99 7 _ _ _ rfl
theorem k99_12 : am_at 99 12 = some (.aload 0, 13) := am_kq99 8 _ _ _ rfl
theorem k99_13 : am_at 99 13 = some (.getfield 65, 16) := am_kq99 9 _ _ _ rfl
theorem k99_16 : am_at 99 16 = some (.iload 1, 17) := am_kq99 10 _ _ _ rfl
theorem k99_17 : am_at 99 17 = some (.bipush 12, 19) := am_kq99 11 _ _ _ rfl
theorem k99_19 : am_at 99 19 = some (.imul, 20) := am_kq99 12 _ _ _ rfl
theorem k99_20 : am_at 99 20 = some (.iload 3, 21) := am_kq99 13 _ _ _ rfl
theorem k99_21 : am_at 99 21 = some (.iadd, 22) := am_kq99 14 _ _ _ rfl
theorem k99_22 : am_at 99 22 = some (.iaload, 23) := am_kq99 15 _ _ _ rfl
theorem k99_23 : am_at 99 23 = some (.iload 2, 24) := am_kq99 16 _ _ _ rfl
theorem k99_24 : am_at 99 24 = some (.if_icmp .ne 29, 27) := am_kq99 17 _ _ _ rfl
theorem k99_27 : am_at 99 27 = some (.iload 3, 28) := am_kq99 18 _ _ _ rfl
theorem k99_28 : am_at 99 28 = some (.ireturn, 29) := am_kq99 19 _ _ _ rfl
theorem k99_29 : am_at 99 29 = some (.iinc 3 1, 32) := am_kq99 20 _ _ _ rfl
theorem k99_32 : am_at 99 32 = some (.goto 2, 35) := am_kq99 21 _ _ _ rfl
theorem k99_35 : am_at 99 35 = some (.bipush (-1), 36) := am_kq99 22 _ _ _ rfl
theorem k99_36 : am_at 99 36 = some (.ireturn, 37) := am_kq99 23 _ _ _ rfl
set_option maxRecDepth 20000 in
theorem am_kq100 (i pc : Nat) (x : Instr) (nx : Nat) (hi : am_t100[i]? = some (pc, x, nx)) : am_at 100 pc = some (x, nx) := am_kB 100 am_t100 rfl (by decide +kernel) i pc x nx hi
theorem k100_0 : am_at 100 0 = some (.aload 0, 1) := am_kq100 0 _ _ _ rfl
theorem k100_1 : am_at 100 1 = some (.getfield 67, 4) := am_kq100 1 _ _ _ rfl
theorem k100_4 : am_at 100 4 = some (.iload 1, 5) := am_kq100 2 _ _ _ rfl
theorem k100_5 : am_at 100 5 = some (.bipush 6, 7) := am_kq100 3 _ _ _ rfl
theorem k100_7 : am_at 100 7 = some (.imul, 8) := am_kq100 4 _ _ _ rfl
theorem k100_8 : am_at 100 8 = some (.iload 2, 9) := am_kq100 5 _ _ _ rfl
theorem k100_9 : am_at 100 9 = some (.iadd, 10) := am_kq100 6 _ _ _ rfl
theorem k100_10 : am_at 100 10 = some (.iload 3, 11) := am_kq100 7 _ _ _ rfl
theorem k100_11 : am_at 100 11 = some (.iastore, 12) := am_kq100 8 _ _ _ rfl
theorem k100_12 : am_at 100 12 = some (.aload 0, 13) := am_kq100 9 _ _ _ rfl
theorem k100_13 : am_at 100 13 = some (.getfield 68, 16) := am_kq100 10 _ _ _ rfl
theorem k100_16 : am_at 100 16 = some (.iload 1, 17) := am_kq100 11 _ _ _ rfl
theorem k100_17 : am_at 100 17 = some (.bipush 6, 19) := am_kq100 12 _ _ _ rfl
theorem k100_19 : am_at 100 19 = some (.imul, 20) := am_kq100 13 _ _ _ rfl
theorem k100_20 : am_at 100 20 = some (.iload 2, 21) := am_kq100 14 _ _ _ rfl
theorem k100_21 : am_at 100 21 = some (.iadd, 22) := am_kq100 15 _ _ _ rfl
theorem k100_22 : am_at 100 22 = some (.iload 4, 24) := am_kq100 16 _ _ _ rfl
theorem k100_24 : am_at 100 24 = some (.iastore, 25) := am_kq100 17 _ _ _ rfl
theorem k100_25 : am_at 100 25 = some (.return_, 26) := am_kq100 18 _ _ _ rfl
set_option maxRecDepth 20000 in
theorem am_kq101 (i pc : Nat) (x : Instr) (nx : Nat) (hi : am_t101[i]? = some (pc, x, nx)) : am_at 101 pc = some (x, nx) := am_kB 101 am_t101 rfl (by decide +kernel) i pc x nx hi
theorem k101_0 : am_at 101 0 = some (.bipush 0, 1) := am_kq101 0 _ _ _ rfl
theorem k101_1 : am_at 101 1 = some (.istore 3, 2) := am_kq101 1 _ _ _ rfl
theorem k101_2 : am_at 101 2 = some (.iload 3, 3) := am_kq101 2 _ _ _ rfl
theorem k101_3 : am_at 101 3 = some (.aload 0, 4) := am_kq101 3 _ _ _ rfl
theorem k101_4 : am_at 101 4 = some (.getfield 66, 7) := am_kq101 4 _ _ _ rfl
theorem k101_7 : am_at 101 7 = some (.iload 1, 8) := am_kq101 5 _ _ _ rfl
theorem k101_8 : am_at 101 8 = some (.iaload, 9) := am_kq101 6 _ _ _ rfl
theorem k101_9 : am_at 101 9 = some (.if_icmp .ge 49, 12) := am_kq101 7 _ _ _ rfl
theorem k101_12 : am_at 101 12 = some (.aload 0, 13) := am_kq101 8 _ _ _ rfl
theorem k101_13 : am_at 101 13 = some (.getfield 65, 16) := am_kq101 9 _ _ _ rfl
theorem k101_16 : am_at 101 16 = some (.iload 1, 17) := am_kq101 10 _ _ _ rfl
theorem k101_17 : am_at 101 17 = some (.bipush 12, 19) := am_kq101 11 _ _ _ rfl
theorem k101_19 : am_at 101 19 = some (.imul, 20) := am_kq101 12 _ _ _ rfl
theorem k101_20 : am_at 101 20 = some (.iload 3, 21) := am_kq101 13 _ _ _ rfl
theorem k101_21 : am_at 101 21 = some (.iadd, 22) := am_kq101 14 _ _ _ rfl
theorem k101_22 : am_at 101 22 = some (.iaload, 23) := am_kq101 15 _ _ _ rfl
theorem k101_23 : am_at 101 23 = some (.istore 4, 25) := am_kq101 16 _ _ _ rfl
theorem k101_25 : am_at 101 25 = some (.aload 0, 26) := am_kq101 17 _ _ _ rfl
theorem k101_26 : am_at 101 26 = some (.getfield 67, 29) := am_kq101 18 _ _ _ rfl
theorem k101_29 : am_at 101 29 = some (.iload 4, 31) := am_kq101 19 _ _ _ rfl
theorem k101_31 : am_at 101 31 = some (.bipush 6, 33) := am_kq101 20 _ _ _ rfl
theorem k101_33 : am_at 101 33 = some (.imul, 34) := am_kq101 21 _ _ _ rfl
theorem k101_34 : am_at 101 34 = some (.iload 2, 35) := am_kq101 22 _ _ _ rfl
theorem k101_35 : am_at 101 35 = some (.iadd, 36) := am_kq101 23 _ _ _ rfl
theorem k101_36 : am_at 101 36 = some (.iaload, 37) := am_kq101 24 _ _ _ rfl
theorem k101_37 : am_at 101 37 = some (.ifCond .eq 43, 40) := am_kq101 25 _ _ _ rfl
theorem k101_40 : am_at 101 40 = some (.iload 4, 42) := am_kq101 26 _ _ _ rfl
theorem k101_42 : am_at 101 42 = some (.ireturn, 43) := am_kq101 27 _ _ _ rfl
theorem k101_43 : am_at 101 43 = some (.iinc 3 1, 46) := am_kq101 28 _ _ _ rfl
theorem k101_46 : am_at 101 46 = some (.goto 2, 49) := am_kq101 29 _ _ _ rfl
theorem k101_49 : am_at 101 49 = some (.bipush (-1), 50) := am_kq101 30 _ _ _ rfl
theorem k101_50 : am_at 101 50 = some (.ireturn, 51) := am_kq101 31 _ _ _ rfl
set_option maxRecDepth 20000 in
theorem am_kq102 (i pc : Nat) (x : Instr) (nx : Nat) (hi : am_t102[i]? = some (pc, x, nx)) : am_at 102 pc = some (x, nx) := am_kB 102 am_t102 rfl (by decide +kernel) i pc x nx hi
theorem k102_0 : am_at 102 0 = some (.aload 0, 1) := am_kq102 0 _ _ _ rfl
theorem k102_1 : am_at 102 1 = some (.getfield 67, 4) := am_kq102 1 _ _ _ rfl
theorem k102_4 : am_at 102 4 = some (.iload 1, 5) := am_kq102 2 _ _ _ rfl
theorem k102_5 : am_at 102 5 = some (.bipush 6, 7) := am_kq102 3 _ _ _ rfl
theorem k102_7 : am_at 102 7 = some (.imul, 8) := am_kq102 4 _ _ _ rfl
theorem k102_8 : am_at 102 8 = some (.iload 2, 9) := am_kq102 5 _ _ _ rfl
theorem k102_9 : am_at 102 9 = some (.iadd, 10) := am_kq102 6 _ _ _ rfl
theorem k102_10 : am_at 102 10 = some (.iaload, 11) := am_kq102 7 _ _ _ rfl
theorem k102_11 : am_at 102 11 = some (.bipush 3, 12) := am_kq102 8 _ _ _ rfl
theorem k102_12 : am_at 102 12 = some (.if_icmp .ne 19, 15) := am_kq102 9 _ _ _ rfl
theorem k102_15 : am_at 102 15 = some (.bipush 1, 16) := am_kq102 10 _ _ _ rfl
theorem k102_16 : am_at 102 16 = some (.goto 20, 19) := am_kq102 11 _ _ _ rfl
theorem k102_19 : am_at 102 19 = some (.bipush 0, 20) := am_kq102 12 _ _ _ rfl
theorem k102_20 : am_at 102 20 = some (.ireturn, 21) := am_kq102 13 _ _ _ rfl
set_option maxRecDepth 20000 in
theorem am_kq103 (i pc : Nat) (x : Instr) (nx : Nat) (hi : am_t103[i]? = some (pc, x, nx)) : am_at 103 pc = some (x, nx) := am_kB 103 am_t103 rfl (by decide +kernel) i pc x nx hi
theorem k103_0 : am_at 103 0 = some (.aload 0, 1) := am_kq103 0 _ _ _ rfl
theorem k103_1 : am_at 103 1 = some (.getfield 67, 4) := am_kq103 1 _ _ _ rfl
theorem k103_4 : am_at 103 4 = some (.iload 1, 5) := am_kq103 2 _ _ _ rfl
theorem k103_5 : am_at 103 5 = some (.bipush 6, 7) := am_kq103 3 _ _ _ rfl
theorem k103_7 : am_at 103 7 = some (.imul, 8) := am_kq103 4 _ _ _ rfl
theorem k103_8 : am_at 103 8 = some (.iload 2, 9) := am_kq103 5 _ _ _ rfl
theorem k103_9 : am_at 103 9 = some (.iadd, 10) := am_kq103 6 _ _ _ rfl
theorem k103_10 : am_at 103 10 = some (.iaload, 11) := am_kq103 7 _ _ _ rfl
theorem k103_11 : am_at 103 11 = some (.bipush 1, 12) := am_kq103 8 _ _ _ rfl
theorem k103_12 : am_at 103 12 = some (.if_icmp .ne 19, 15) := am_kq103 9 _ _ _ rfl
theorem k103_15 : am_at 103 15 = some (.bipush 1, 16) := am_kq103 10 _ _ _ rfl
theorem k103_16 : am_at 103 16 = some (.goto 20, 19) := am_kq103 11 _ _ _ rfl
theorem k103_19 : am_at 103 19 = some (.bipush 0, 20) := am_kq103 12 _ _ _ rfl
theorem k103_20 : am_at 103 20 = some (.ireturn, 21) := am_kq103 13 _ _ _ rfl
set_option maxRecDepth 20000 in
theorem am_kq104 (i pc : Nat) (x : Instr) (nx : Nat) (hi : am_t104[i]? = some (pc, x, nx)) : am_at 104 pc = some (x, nx) := am_kB 104 am_t104 rfl (by decide +kernel) i pc x nx hi
theorem k104_0 : am_at 104 0 = some (.aload 0, 1) := am_kq104 0 _ _ _ rfl
theorem k104_1 : am_at 104 1 = some (.getfield 68, 4) := am_kq104 1 _ _ _ rfl
theorem k104_4 : am_at 104 4 = some (.iload 1, 5) := am_kq104 2 _ _ _ rfl
theorem k104_5 : am_at 104 5 = some (.bipush 6, 7) := am_kq104 3 _ _ _ rfl
theorem k104_7 : am_at 104 7 = some (.imul, 8) := am_kq104 4 _ _ _ rfl
theorem k104_8 : am_at 104 8 = some (.iload 2, 9) := am_kq104 5 _ _ _ rfl
theorem k104_9 : am_at 104 9 = some (.iadd, 10) := am_kq104 6 _ _ _ rfl
theorem k104_10 : am_at 104 10 = some (.iaload, 11) := am_kq104 7 _ _ _ rfl
theorem k104_11 : am_at 104 11 = some (.ireturn, 12) := am_kq104 8 _ _ _ rfl
set_option maxRecDepth 20000 in
theorem am_kq105 (i pc : Nat) (x : Instr) (nx : Nat) (hi : am_t105[i]? = some (pc, x, nx)) : am_at 105 pc = some (x, nx) := am_kB 105 am_t105 rfl (by decide +kernel) i pc x nx hi
theorem k105_0 : am_at 105 0 = some (.aload 0, 1) := am_kq105 0 _ _ _ rfl
theorem k105_1 : am_at 105 1 = some (.getfield 68, 4) := am_kq105 1 _ _ _ rfl
theorem k105_4 : am_at 105 4 = some (.iload 1, 5) := am_kq105 2 _ _ _ rfl
theorem k105_5 : am_at 105 5 = some (.bipush 6, 7) := am_kq105 3 _ _ _ rfl
theorem k105_7 : am_at 105 7 = some (.imul, 8) := am_kq105 4 _ _ _ rfl
theorem k105_8 : am_at 105 8 = some (.iload 2, 9) := am_kq105 5 _ _ _ rfl
theorem k105_9 : am_at 105 9 = some (.iadd, 10) := am_kq105 6 _ _ _ rfl
theorem k105_10 : am_at 105 10 = some (.iload 3, 11) := am_kq105 7 _ _ _ rfl
theorem k105_11 : am_at 105 11 = some (.iastore, 12) := am_kq105 8 _ _ _ rfl
theorem k105_12 : am_at 105 12 = some (.return_, 13) := am_kq105 9 _ _ _ rfl
set_option maxRecDepth 20000 in
theorem am_kq106 (i pc : Nat) (x : Instr) (nx : Nat) (hi : am_t106[i]? = some (pc, x, nx)) : am_at 106 pc = some (x, nx) := am_kB 106 am_t106 rfl (by decide +kernel) i pc x nx hi
theorem k106_0 : am_at 106 0 = some (.aload 0, 1) := am_kq106 0 _ _ _ rfl
theorem k106_1 : am_at 106 1 = some (.monitorenter, 4) := am_kq106 1 _ _ _ rfl
theorem k106_4 : am_at 106 4 = some (.aload 0, 5) := am_kq106 2 _ _ _ rfl
theorem k106_5 : am_at 106 5 = some (.bipush 16, 7) := am_kq106 3 _ _ _ rfl
theorem k106_7 : am_at 106 7 = some (.newarray .int, 9) := am_kq106 4 _ _ _ rfl
theorem k106_9 : am_at 106 9 = some (.putfield 576, 12) := am_kq106 5 _ _ _ rfl
theorem k106_12 : am_at 106 12 = some (.aload 0, 13) := am_kq106 6 _ _ _ rfl
theorem k106_13 : am_at 106 13 = some (.bipush 0, 14) := am_kq106 7 _ _ _ rfl
theorem k106_14 : am_at 106 14 = some (.putfield 577, 17) := am_kq106 8 _ _ _ rfl
theorem k106_17 : am_at 106 17 = some (.aload 0, 18) := am_kq106 9 _ _ _ rfl
theorem k106_18 : am_at 106 18 = some (.bipush 0, 19) := am_kq106 10 _ _ _ rfl
theorem k106_19 : am_at 106 19 = some (.putfield 578, 22) := am_kq106 11 _ _ _ rfl
theorem k106_22 : am_at 106 22 = some (.aload 0, 23) := am_kq106 12 _ _ _ rfl
theorem k106_23 : am_at 106 23 = some (.bipush 0, 24) := am_kq106 13 _ _ _ rfl
theorem k106_24 : am_at 106 24 = some (.putfield 579, 27) := am_kq106 14 _ _ _ rfl
theorem k106_27 : am_at 106 27 = some (.aload 0, 28) := am_kq106 15 _ _ _ rfl
theorem k106_28 : am_at 106 28 = some (.bipush 0, 29) := am_kq106 16 _ _ _ rfl
theorem k106_29 : am_at 106 29 = some (.putfield 580, 32) := am_kq106 17 _ _ _ rfl
theorem k106_32 : am_at 106 32 = some (.aload 0, 33) := am_kq106 18 _ _ _ rfl
theorem k106_33 : am_at 106 33 = some (.bipush 0, 34) := am_kq106 19 _ _ _ rfl
theorem k106_34 : am_at 106 34 = some (.putfield 581, 37) := am_kq106 20 _ _ _ rfl
theorem k106_37 : am_at 106 37 = some (.return_, 38) := am_kq106 21 _ _ _ rfl
set_option maxRecDepth 20000 in
theorem am_kq107 (i pc : Nat) (x : Instr) (nx : Nat) (hi : am_t107[i]? = some (pc, x, nx)) : am_at 107 pc = some (x, nx) := am_kB 107 am_t107 rfl (by decide +kernel) i pc x nx hi
theorem k107_0 : am_at 107 0 = some (.aload 0, 1) := am_kq107 0 _ _ _ rfl
theorem k107_1 : am_at 107 1 = some (.getfield 577, 4) := am_kq107 1 _ _ _ rfl
theorem k107_4 : am_at 107 4 = some (.istore 3, 5) := am_kq107 2 _ _ _ rfl
theorem k107_5 : am_at 107 5 = some (.iload 3, 6) := am_kq107 3 _ _ _ rfl
theorem k107_6 : am_at 107 6 = some (.iload 2, 7) := am_kq107 4 _ _ _ rfl
theorem k107_7 : am_at 107 7 = some (.if_icmp .le 30, 10) := am_kq107 5 _ _ _ rfl
theorem k107_10 : am_at 107 10 = some (.aload 0, 11) := am_kq107 6 _ _ _ rfl
theorem k107_11 : am_at 107 11 = some (.getfield 576, 14) := am_kq107 7 _ _ _ rfl
theorem k107_14 : am_at 107 14 = some (.iload 3, 15) := am_kq107 8 _ _ _ rfl
theorem k107_15 : am_at 107 15 = some (.aload 0, 16) := am_kq107 9 _ _ _ rfl
theorem k107_16 : am_at 107 16 = some (.getfield 576, 19) := am_kq107 10 _ _ _ rfl
theorem k107_19 : am_at 107 19 = some (.iload 3, 20) := am_kq107 11 _ _ _ rfl
theorem k107_20 : am_at 107 20 = some (.bipush 1, 21) := am_kq107 12 _ _ _ rfl
theorem k107_21 : am_at 107 21 = some (.isub, 22) := am_kq107 13 _ _ _ rfl
theorem k107_22 : am_at 107 22 = some (.iaload, 23) := am_kq107 14 _ _ _ rfl
theorem k107_23 : am_at 107 23 = some (.iastore, 24) := am_kq107 15 _ _ _ rfl
theorem k107_24 : am_at 107 24 = some (.iinc 3 (-1), 27) := am_kq107 16 _ _ _ rfl
theorem k107_27 : am_at 107 27 = some (.goto 5, 30) := am_kq107 17 _ _ _ rfl
theorem k107_30 : am_at 107 30 = some (.aload 0, 31) := am_kq107 18 _ _ _ rfl
theorem k107_31 : am_at 107 31 = some (.getfield 576, 34) := am_kq107 19 _ _ _ rfl
theorem k107_34 : am_at 107 34 = some (.iload 2, 35) := am_kq107 20 _ _ _ rfl
theorem k107_35 : am_at 107 35 = some (.iload 1, 36) := am_kq107 21 _ _ _ rfl
theorem k107_36 : am_at 107 36 = some (.iastore, 37) := am_kq107 22 _ _ _ rfl
theorem k107_37 : am_at 107 37 = some (.aload 0, 38) := am_kq107 23 _ _ _ rfl
theorem k107_38 : am_at 107 38 = some (.dup, 39) := am_kq107 24 _ _ _ rfl
theorem k107_39 : am_at 107 39 = some (.getfield 577, 42) := am_kq107 25 _ _ _ rfl
theorem k107_42 : am_at 107 42 = some (.bipush 1, 43) := am_kq107 26 _ _ _ rfl
theorem k107_43 : am_at 107 43 = some (.iadd, 44) := am_kq107 27 _ _ _ rfl
theorem k107_44 : am_at 107 44 = some (.putfield 577, 47) := am_kq107 28 _ _ _ rfl
theorem k107_47 : am_at 107 47 = some (.return_, 48) := am_kq107 29 _ _ _ rfl
set_option maxRecDepth 20000 in
theorem am_kq108 (i pc : Nat) (x : Instr) (nx : Nat) (hi : am_t108[i]? = some (pc, x, nx)) : am_at 108 pc = some (x, nx) := am_kB 108 am_t108 rfl (by decide +kernel) i pc x nx hi
theorem k108_0 : am_at 108 0 = some (.aload 0, 1) := am_kq108 0 _ _ _ rfl
theorem k108_1 : am_at 108 1 = some (.getfield 579, 4) := am_kq108 1 _ _ _ rfl
theorem k108_4 : am_at 108 4 = some (.aload 0, 5) := am_kq108 2 _ _ _ rfl
theorem k108_5 : am_at 108 5 = some (.getfield 580, 8) := am_kq108 3 _ _ _ rfl
theorem k108_8 : am_at 108 8 = some (.if_icmp .ge 15, 11) := am_kq108 4 _ _ _ rfl
theorem k108_11 : am_at 108 11 = some (.bipush 1, 12) := am_kq108 5 _ _ _ rfl
theorem k108_12 : am_at 108 12 = some (.goto 16, 15) := am_kq108 6 _ _ _ rfl
theorem k108_15 : am_at 108 15 = some (.bipush 0, 16) := am_kq108 7 _ _ _ rfl
theorem k108_16 : am_at 108 16 = some (.ireturn, 17) := am_kq108 8 _ _ _ rfl
set_option maxRecDepth 20000 in
theorem am_kq109 (i pc : Nat) (x : Instr) (nx : Nat) (hi : am_t109[i]? = some (pc, x, nx)) : am_at 109 pc = some (x, nx) := am_kB 109 am_t109 rfl (by decide +kernel) i pc x nx hi
theorem k109_0 : am_at 109 0 = some (.aload 0, 1) := am_kq109 0 _ _ _ rfl
theorem k109_1 : am_at 109 1 = some (.getfield 578, 4) := am_kq109 1 _ _ _ rfl
theorem k109_4 : am_at 109 4 = some (.ifCond .le 11, 7) := am_kq109 2 _ _ _ rfl
theorem k109_7 : am_at 109 7 = some (.bipush 0, 8) := am_kq109 3 _ _ _ rfl
theorem k109_8 : am_at 109 8 = some (.goto 15, 11) := am_kq109 4 _ _ _ rfl
theorem k109_11 : am_at 109 11 = some (.aload 0, 12) := am_kq109 5 _ _ _ rfl
theorem k109_12 : am_at 109 12 = some (.getfield 579, 15) := am_kq109 6 _ _ _ rfl
theorem k109_15 : am_at 109 15 = some (.ireturn, 16) := am_kq109 7 _ _ _ rfl
set_option maxRecDepth 20000 in
theorem am_kq110 (i pc : Nat) (x : Instr) (nx : Nat) (hi : am_t110[i]? = some (pc, x, nx)) : am_at 110 pc = some (x, nx) := am_kB 110 am_t110 rfl (by decide +kernel) i pc x nx hi
theorem k110_0 : am_at 110 0 = some (.iload 1, 1) := am_kq110 0 _ _ _ rfl
theorem k110_1 : am_at 110 1 = some (.aload 0, 2) := am_kq110 1 _ _ _ rfl
theorem k110_2 : am_at 110 2 = some (.getfield 578, 5) := am_kq110 2 _ _ _ rfl
theorem k110_5 : am_at 110 5 = some (.if_icmp .ge 29, 8) := am_kq110 3 _ _ _ rfl
theorem k110_8 : am_at 110 8 = some (.iload 1, 9) := am_kq110 4 _ _ _ rfl
theorem k110_9 : am_at 110 9 = some (.bipush 1, 10) := am_kq110 5 _ _ _ rfl
theorem k110_10 : am_at 110 10 = some (.iadd, 11) := am_kq110 6 _ _ _ rfl
theorem k110_11 : am_at 110 11 = some (.aload 0, 12) := am_kq110 7 _ _ _ rfl
theorem k110_12 : am_at 110 12 = some (.getfield 578, 15) := am_kq110 8 _ _ _ rfl
theorem k110_15 : am_at 110 15 = some (.if_icmp .ge 24, 18) := am_kq110 9 _ _ _ rfl
theorem k110_18 : am_at 110 18 = some (.iload 1, 19) := am_kq110 10 _ _ _ rfl
theorem k110_19 : am_at 110 19 = some (.bipush 1, 20) := am_kq110 11 _ _ _ rfl
theorem k110_20 : am_at 110 20 = some (.iadd, 21) := am_kq110 12 _ _ _ rfl
theorem k110_21 : am_at 110 21 = some (.goto 28, 24) := am_kq110 13 _ _ _ rfl
theorem k110_24 : am_at 110 24 = some (.aload 0, 25) := am_kq110 14 _ _ _ rfl
theorem k110_25 : am_at 110 25 = some (.getfield 579, 28) := am_kq110 15 _ _ _ rfl
theorem k110_28 : am_at 110 28 = some (.ireturn, 29) := am_kq110 16 _ _ _ rfl
theorem k110_29 : am_at 110 29 = some (.iload 1, 30) := am_kq110 17 _ _ _ rfl
theorem k110_30 : am_at 110 30 = some (.aload 0, 31) := am_kq110 18 _ _ _ rfl
theorem k110_31 : am_at 110 31 = some (.getfield 579, 34) := am_kq110 19 _ _ _ rfl
theorem k110_34 : am_at 110 34 = some (.if_icmp .lt 53, 37) := am_kq110 20 _ _ _ rfl
theorem k110_37 : am_at 110 37 = some (.iload 1, 38) := am_kq110 21 _ _ _ rfl
theorem k110_38 : am_at 110 38 = some (.bipush 1, 39) := am_kq110 22 _ _ _ rfl
theorem k110_39 : am_at 110 39 = some (.iadd, 40) := am_kq110 23 _ _ _ rfl
theorem k110_40 : am_at 110 40 = some (.aload 0, 41) := am_kq110 24 _ _ _ rfl
theorem k110_41 : am_at 110 41 = some (.getfield 580, 44) := am_kq110 25 _ _ _ rfl
theorem k110_44 : am_at 110 44 = some (.if_icmp .ge 53, 47) := am_kq110 26 _ _ _ rfl
theorem k110_47 : am_at 110 47 = some (.iload 1, 48) := am_kq110 27 _ _ _ rfl
theorem k110_48 : am_at 110 48 = some (.bipush 1, 49) := am_kq110 28 _ _ _ rfl
theorem k110_49 : am_at 110 49 = some (.iadd, 50) := am_kq110 29 _ _ _ rfl
theorem k110_50 : am_at 110 50 = some (.goto 54, 53) := am_kq110 30 _ _ _ rfl
theorem k110_53 : am_at 110 53 = some (.bipush (-1), 54) := am_kq110 31 _ _ _ rfl
theorem k110_54 : am_at 110 54 = some (.ireturn, 55) := am_kq110 32 _ _ _ rfl
set_option maxRecDepth 20000 in
theorem am_kq111 (i pc : Nat) (x : Instr) (nx : Nat) (hi : am_t111[i]? = some (pc, x, nx)) : am_at 111 pc = some (x, nx) := am_kB 111 am_t111 rfl (by decide +kernel) i pc x nx hi
theorem k111_0 : am_at 111 0 = some (.iload 1, 1) := am_kq111 0 _ _ _ rfl
theorem k111_1 : am_at 111 1 = some (.aload 0, 2) := am_kq111 1 _ _ _ rfl
theorem k111_2 : am_at 111 2 = some (.getfield 578, 5) := am_kq111 2 _ _ _ rfl
theorem k111_5 : am_at 111 5 = some (.if_icmp .lt 16, 8) := am_kq111 3 _ _ _ rfl
theorem k111_8 : am_at 111 8 = some (.iload 1, 9) := am_kq111 4 _ _ _ rfl
theorem k111_9 : am_at 111 9 = some (.aload 0, 10) := am_kq111 5 _ _ _ rfl
theorem k111_10 : am_at 111 10 = some (.getfield 579, 13) := am_kq111 6 _ _ _ rfl
theorem k111_13 : am_at 111 13 = some (.if_icmp .lt 24, 16) := am_kq111 7 _ _ _ rfl
theorem k111_16 : am_at 111 16 = some (.iload 1, 17) := am_kq111 8 _ _ _ rfl
theorem k111_17 : am_at 111 17 = some (.aload 0, 18) := am_kq111 9 _ _ _ rfl
theorem k111_18 : am_at 111 18 = some (.getfield 580, 21) := am_kq111 10 _ _ _ rfl
theorem k111_21 : am_at 111 21 = some (.if_icmp .lt 28, 24) := am_kq111 11 _ _ _ rfl
theorem k111_24 : am_at 111 24 = some (.bipush 1, 25) := am_kq111 12 _ _ _ rfl
theorem k111_25 : am_at 111 25 = some (.goto 29, 28) := am_kq111 13 _ _ _ rfl
theorem k111_28 : am_at 111 28 = some (.bipush 0, 29) := am_kq111 14 _ _ _ rfl
theorem k111_29 : am_at 111 29 = some (.ireturn, 30) := am_kq111 15 _ _ _ rfl
set_option maxRecDepth 20000 in
theorem am_kq112 (i pc : Nat) (x : Instr) (nx : Nat) (hi : am_t112[i]? = some (pc, x, nx)) : am_at 112 pc = some (x, nx) := am_kB 112 am_t112 rfl (by decide +kernel) i pc x nx hi
theorem k112_0 : am_at 112 0 = some (.aload 0, 1) := am_kq112 0 _ _ _ rfl
theorem k112_1 : am_at 112 1 = some (.monitorenter, 4) := am_kq112 1 _ _ _ rfl
theorem k112_4 : am_at 112 4 = some (.aload 0, 5) := am_kq112 2 _ _ _ rfl
theorem k112_5 : am_at 112 5 = some (.bipush 0, 6) := am_kq112 3 _ _ _ rfl
theorem k112_6 : am_at 112 6 = some (.putfield 641, 9) := am_kq112 4 _ _ _ rfl
theorem k112_9 : am_at 112 9 = some (.aload 0, 10) := am_kq112 5 _ _ _ rfl
theorem k112_10 : am_at 112 10 = some (.bipush 0, 11) := am_kq112 6 _ _ _ rfl
theorem k112_11 : am_at 112 11 = some (.putfield 642, 14) := am_kq112 7 _ _ _ rfl
theorem k112_14 : am_at 112 14 = some (.aload 0, 15) := am_kq112 8 _ _ _ rfl
theorem k112_15 : am_at 112 15 = some (.bipush 0, 16) := am_kq112 9 _ _ _ rfl
theorem k112_16 : am_at 112 16 = some (.putfield 643, 19) := am_kq112 10 _ _ _ rfl
theorem k112_19 : am_at 112 19 = some (.aload 0, 20) := am_kq112 11 _ _ _ rfl
theorem k112_20 : am_at 112 20 = some (.bipush 0, 21) := am_kq112 12 _ _ _ rfl
theorem k112_21 : am_at 112 21 = some (.putfield 644, 24) := am_kq112 13 _ _ _ rfl
theorem k112_24 : am_at 112 24 = some (.aload 0, 25) := am_kq112 14 _ _ _ rfl
theorem k112_25 : am_at 112 25 = some (.bipush 0, 26) := am_kq112 15 _ _ _ rfl
theorem k112_26 : am_at 112 26 = some (.putfield 645, 29) := am_kq112 16 _ _ _ rfl
theorem k112_29 : am_at 112 29 = some (.aload 0, 30) := am_kq112 17 _ _ _ rfl
theorem k112_30 : am_at 112 30 = some (.bipush 0, 31) := am_kq112 18 _ _ _ rfl
theorem k112_31 : am_at 112 31 = some (.putfield 646, 34) := am_kq112 19 _ _ _ rfl
theorem k112_34 : am_at 112 34 = some (.aload 0, 35) := am_kq112 20 _ _ _ rfl
theorem k112_35 : am_at 112 35 = some (.bipush 0, 36) := am_kq112 21 _ _ _ rfl
theorem k112_36 : am_at 112 36 = some (.putfield 647, 39) := am_kq112 22 _ _ _ rfl
theorem k112_39 : am_at 112 39 = some (.aload 0, 40) := am_kq112 23 _ _ _ rfl
theorem k112_40 : am_at 112 40 = some (.bipush 0, 41) := am_kq112 24 _ _ _ rfl
theorem k112_41 : am_at 112 41 = some (.putfield 648, 44) := am_kq112 25 _ _ _ rfl
theorem k112_44 : am_at 112 44 = some (.aload 0, 45) := am_kq112 26 _ _ _ rfl
theorem k112_45 : am_at 112 45 = some (.bipush 0, 46) := am_kq112 27 _ _ _ rfl
theorem k112_46 : am_at 112 46 = some (.putfield 649, 49) := am_kq112 28 _ _ _ rfl
theorem k112_49 : am_at 112 49 = some (.aload 0, 50) := am_kq112 29 _ _ _ rfl
theorem k112_50 : am_at 112 50 = some (.aload 1, 51) := am_kq112 30 _ _ _ rfl
theorem k112_51 : am_at 112 51 = some (.putfield 640, 54) := am_kq112 31 _ _ _ rfl
theorem k112_54 : am_at 112 54 = some (.return_, 55) := am_kq112 32 _ _ _ rfl
set_option maxRecDepth 20000 in
theorem am_kq113 (i pc : Nat) (x : Instr) (nx : Nat) (hi : am_t113[i]? = some (pc, x, nx)) : am_at 113 pc = some (x, nx) := am_kB 113 am_t113 rfl (by decide +kernel) i pc x nx hi
theorem k113_0 : am_at 113 0 = some (.aload 0, 1) := am_kq113 0 _ _ _ rfl
theorem k113_1 : am_at 113 1 = some (.getfield 646, 4) := am_kq113 1 _ _ _ rfl
theorem k113_4 : am_at 113 4 = some (.ifCond .eq 17, 7) := am_kq113 2 _ _ _ rfl
theorem k113_7 : am_at 113 7 = some (.aload 0, 8) := am_kq113 3 _ _ _ rfl
theorem k113_8 : am_at 113 8 = some (.getfield 640, 11) := am_kq113 4 _ _ _ rfl
theorem k113_11 : am_at 113 11 = some (.getfield 516, 14) := am_kq113 5 _ _ _ rfl
theorem k113_14 : am_at 113 14 = some (.goto 24, 17) := am_kq113 6 _ _ _ rfl
theorem k113_17 : am_at 113 17 = some (.aload 0, 18) := am_kq113 7 _ _ _ rfl
theorem k113_18 : am_at 113 18 = some (.getfield 640, 21) := am_kq113 8 _ _ _ rfl
theorem k113_21 : am_at 113 21 = some (.getfield 515, 24) := am_kq113 9 _ _ _ rfl
theorem k113_24 : am_at 113 24 = some (.ireturn, 25) := am_kq113 10 _ _ _ rfl
set_option maxRecDepth 20000 in
theorem am_kq114 (i pc : Nat) (x : Instr) (nx : Nat) (hi : am_t114[i]? = some (pc, x, nx)) : am_at 114 pc = some (x, nx) := am_kB 114 am_t114 rfl (by decide +kernel) i pc x nx hi
theorem k114_0 : am_at 114 0 = some (.aload 0, 1) := am_kq114 0 _ _ _ rfl
theorem k114_1 : am_at 114 1 = some (.getfield 646, 4) := am_kq114 1 _ _ _ rfl
theorem k114_4 : am_at 114 4 = some (.ifCond .eq 17, 7) := am_kq114 2 _ _ _ rfl
theorem k114_7 : am_at 114 7 = some (.aload 0, 8) := am_kq114 3 _ _ _ rfl
theorem k114_8 : am_at 114 8 = some (.getfield 640, 11) := am_kq114 4 _ _ _ rfl
theorem k114_11 : am_at 114 11 = some (.getfield 515, 14) := am_kq114 5 _ _ _ rfl
theorem k114_14 : am_at 114 14 = some (.goto 24, 17) := am_kq114 6 _ _ _ rfl
theorem k114_17 : am_at 114 17 = some (.aload 0, 18) := am_kq114 7 _ _ _ rfl
theorem k114_18 : am_at 114 18 = some (.getfield 640, 21) := am_kq114 8 _ _ _ rfl
theorem k114_21 : am_at 114 21 = some (.getfield 516, 24) := am_kq114 9 _ _ _ rfl
theorem k114_24 : am_at 114 24 = some (.ireturn, 25) := am_kq114 10 _ _ _ rfl
set_option maxRecDepth 20000 in
theorem am_kq115 (i pc : Nat) (x : Instr) (nx : Nat) (hi : am_t115[i]? = some (pc, x, nx)) : am_at 115 pc = some (x, nx) := am_kB 115 am_t115 rfl (by decide +kernel) i pc x nx hi
theorem k115_0 : am_at 115 0 = some (.aload 0, 1) := am_kq115 0 _ _ _ rfl
theorem k115_1 : am_at 115 1 = some (.monitorenter, 4) := am_kq115 1 _ _ _ rfl
theorem k115_4 : am_at 115 4 = some (.aload 0, 5) := am_kq115 2 _ _ _ rfl
theorem k115_5 : am_at 115 5 = some (.bipush 12, 7) := am_kq115 3 _ _ _ rfl
theorem k115_7 : am_at 115 7 = some (.newarray .int, 9) := am_kq115 4 _ _ _ rfl
theorem k115_9 : am_at 115 9 = some (.putfield 129, 12) := am_kq115 5 _ _ _ rfl
theorem k115_12 : am_at 115 12 = some (.aload 0, 13) := am_kq115 6 _ _ _ rfl
theorem k115_13 : am_at 115 13 = some (.bipush 12, 15) := am_kq115 7 _ _ _ rfl
theorem k115_15 : am_at 115 15 = some (.newarray .int, 17) := am_kq115 8 _ _ _ rfl
theorem k115_17 : am_at 115 17 = some (.putfield 130, 20) := am_kq115 9 _ _ _ rfl
theorem k115_20 : am_at 115 20 = some (.aload 0, 21) := am_kq115 10 _ _ _ rfl
theorem k115_21 : am_at 115 21 = some (.bipush 12, 23) := am_kq115 11 _ _ _ rfl
theorem k115_23 : am_at 115 23 = some (.newarray .int, 25) := am_kq115 12 _ _ _ rfl
theorem k115_25 : am_at 115 25 = some (.putfield 131, 28) := am_kq115 13 _ _ _ rfl
theorem k115_28 : am_at 115 28 = some (.aload 0, 29) := am_kq115 14 _ _ _ rfl
theorem k115_29 : am_at 115 29 = some (.bipush 72, 31) := am_kq115 15 _ _ _ rfl
theorem k115_31 : am_at 115 31 = some (.newarray .int, 33) := am_kq115 16 _ _ _ rfl
theorem k115_33 : am_at 115 33 = some (.putfield 132, 36) := am_kq115 17 _ _ _ rfl
theorem k115_36 : am_at 115 36 = some (.aload 0, 37) := am_kq115 18 _ _ _ rfl
theorem k115_37 : am_at 115 37 = some (.bipush 0, 38) := am_kq115 19 _ _ _ rfl
theorem k115_38 : am_at 115 38 = some (.putfield 133, 41) := am_kq115 20 _ _ _ rfl
theorem k115_41 : am_at 115 41 = some (.aload 0, 42) := am_kq115 21 _ _ _ rfl
theorem k115_42 : am_at 115 42 = some (.bipush 0, 43) := am_kq115 22 _ _ _ rfl
theorem k115_43 : am_at 115 43 = some (.putfield 134, 46) := am_kq115 23 _ _ _ rfl
theorem k115_46 : am_at 115 46 = some (.aload 0, 47) := am_kq115 24 _ _ _ rfl
theorem k115_47 : am_at 115 47 = some (.aload 1, 48) := am_kq115 25 _ _ _ rfl
theorem k115_48 : am_at 115 48 = some (.putfield 128, 51) := am_kq115 26 _ _ _ rfl
theorem k115_51 : am_at 115 51 = some (.return_, 52) := am_kq115 27 _ _ _ rfl
set_option maxRecDepth 20000 in
theorem am_kq116 (i pc : Nat) (x : Instr) (nx : Nat) (hi : am_t116[i]? = some (pc, x, nx)) : am_at 116 pc = some (x, nx) := am_kB 116 am_t116 rfl (by decide +kernel) i pc x nx hi
theorem k116_0 : am_at 116 0 = some (.aload 0, 1) := am_kq116 0 _ _ _ rfl
theorem k116_1 : am_at 116 1 = some (.getfield 133, 4) := am_kq116 1 _ _ _ rfl
theorem k116_4 : am_at 116 4 = some (.ireturn, 5) := am_kq116 2 _ _ _ rfl
set_option maxRecDepth 20000 in
theorem am_kq117 (i pc : Nat) (x : Instr) (nx : Nat) (hi : am_t117[i]? = some (pc, x, nx)) : am_at 117 pc = some (x, nx) := am_kB 117 am_t117 rfl (by decide +kernel) i pc x nx hi
theorem k117_0 : am_at 117 0 = some (.aload 0, 1) := am_kq117 0 _ _ _ rfl
theorem k117_1 : am_at 117 1 = some (.getfield 134, 4) := am_kq117 1 _ _ _ rfl
theorem k117_4 : am_at 117 4 = some (.ireturn, 5) := am_kq117 2 _ _ _ rfl
set_option maxRecDepth 20000 in
theorem am_kq118 (i pc : Nat) (x : Instr) (nx : Nat) (hi : am_t118[i]? = some (pc, x, nx)) : am_at 118 pc = some (x, nx) := am_kB 118 am_t118 rfl (by decide +kernel) i pc x nx hi
theorem k118_0 : am_at 118 0 = some (.iload 1, 1) := am_kq118 0 _ _ _ rfl
theorem k118_1 : am_at 118 1 = some (.bipush 0, 2) := am_kq118 1 _ _ _ rfl
theorem k118_2 : am_at 118 2 = some (.aload 0, 3) := am_kq118 2 _ _ _ rfl
theorem k118_3 : am_at 118 3 = some (.getfield 133, 6) := am_kq118 3 _ _ _ rfl
theorem k118_6 : am_at 118 6 = some (.bipush 1, 7) := am_kq118 4 _ _ _ rfl
theorem k118_7 : am_at 118 7 = some (.isub, 8) := am_kq118 5 _ _ _ rfl
theorem k118_8 : am_at 118 8 = some (.invokestatic 27, 11) := am_kq118 6 _ _ _ rfl
theorem k118_11 : am_at 118 11 = some (.ireturn, 12) := am_kq118 7 _ _ _ rfl
set_option maxRecDepth 20000 in
theorem am_kq119 (i pc : Nat) (x : Instr) (nx : Nat) (hi : am_t119[i]? = some (pc, x, nx)) : am_at 119 pc = some (x, nx) := am_kB 119 am_t119 rfl (by decide +kernel) i pc x nx hi
theorem k119_0 : am_at 119 0 = some (.aload 0, 1) := am_kq119 0 _ _ _ rfl
theorem k119_1 : am_at 119 1 = some (.getfield 129, 4) := am_kq119 1 _ _ _ rfl
theorem k119_4 : am_at 119 4 = some (.iload 1, 5) := am_kq119 2 _ _ _ rfl
theorem k119_5 : am_at 119 5 = some (.iaload, 6) := am_kq119 3 _ _ _ rfl
theorem k119_6 : am_at 119 6 = some (.ireturn, 7) := am_kq119 4 _ _ _ rfl
set_option maxRecDepth 20000 in
theorem am_kq120 (i pc : Nat) (x : Instr) (nx : Nat) (hi : am_t120[i]? = some (pc, x, nx)) : am_at 120 pc = some (x, nx) := am_kB 120 am_t120 rfl (by decide +kernel) i pc x nx hi
theorem k120_0 : am_at 120 0 = some (.aload 0, 1) := am_kq120 0 _ _ _ rfl
theorem k120_1 : am_at 120 1 = some (.getfield 130, 4) := am_kq120 1 _ _ _ rfl
theorem k120_4 : am_at 120 4 = some (.iload 1, 5) := am_kq120 2 _ _ _ rfl
theorem k120_5 : am_at 120 5 = some (.iaload, 6) := am_kq120 3 _ _ _ rfl
theorem k120_6 : am_at 120 6 = some (.ireturn, 7) := am_kq120 4 _ _ _ rfl
set_option maxRecDepth 20000 in
theorem am_kq121 (i pc : Nat) (x : Instr) (nx : Nat) (hi : am_t121[i]? = some (pc, x, nx)) : am_at 121 pc = some (x, nx) := am_kB 121 am_t121 rfl (by decide +kernel) i pc x nx hi
theorem k121_0 : am_at 121 0 = some (.aload 0, 1) := am_kq121 0 _ _ _ rfl
theorem k121_1 : am_at 121 1 = some (.getfield 131, 4) := am_kq121 1 _ _ _ rfl
theorem k121_4 : am_at 121 4 = some (.iload 1, 5) := am_kq121 2 _ _ _ rfl
theorem k121_5 : am_at 121 5 = some (.iaload, 6) := am_kq121 3 _ _ _ rfl
theorem k121_6 : am_at 121 6 = some (.ireturn, 7) := am_kq121 4 _ _ _ rfl
set_option maxRecDepth 20000 in
theorem am_kq122 (i pc : Nat) (x : Instr) (nx : Nat) (hi : am_t122[i]? = some (pc, x, nx)) : am_at 122 pc = some (x, nx) := am_kB 122 am_t122 rfl (by decide +kernel) i pc x nx hi
theorem k122_0 : am_at 122 0 = some (.aload 0, 1) := am_kq122 0 _ _ _ rfl
theorem k122_1 : am_at 122 1 = some (.getfield 133, 4) := am_kq122 1 _ _ _ rfl
theorem k122_4 : am_at 122 4 = some (.bipush 12, 6) := am_kq122 2 _ _ _ rfl
theorem k122_6 : am_at 122 6 = some (.if_icmp .ne 12, 9) := am_kq122 3 _ _ _ rfl
theorem k122_9 : am_at 122 9 = some (.bipush (-3), 11) := am_kq122 4 _ _ _ rfl
theorem k122_11 : am_at 122 11 = some (.ireturn, 12) := am_kq122 5 _ _ _ rfl
theorem k122_12 : am_at 122 12 = some (.aload 0, 13) := am_kq122 6 _ _ _ rfl
theorem k122_13 : am_at 122 13 = some (.getfield 133, 16) := am_kq122 7 _ _ _ rfl
theorem k122_16 : am_at 122 16 = some (.istore 2, 17) := am_kq122 8 _ _ _ rfl
theorem k122_17 : am_at 122 17 = some (.aload 0, 18) := am_kq122 9 _ _ _ rfl
theorem k122_18 : am_at 122 18 = some (.dup, 19) := am_kq122 10 _ _ _ rfl
theorem k122_19 : am_at 122 19 = some (.getfield 133, 22) := am_kq122 11 _ _ _ rfl
theorem k122_22 : am_at 122 22 = some (.bipush 1, 23) := am_kq122 12 _ _ _ rfl
theorem k122_23 : am_at 122 23 = some (.iadd, 24) := am_kq122 13 _ _ _ rfl
theorem k122_24 : am_at 122 24 = some (.putfield 133, 27) := am_kq122 14 _ _ _ rfl
theorem k122_27 : am_at 122 27 = some (.aload 0, 28) := am_kq122 15 _ _ _ rfl
theorem k122_28 : am_at 122 28 = some (.getfield 129, 31) := am_kq122 16 _ _ _ rfl
theorem k122_31 : am_at 122 31 = some (.iload 2, 32) := am_kq122 17 _ _ _ rfl
theorem k122_32 : am_at 122 32 = some (.iload 1, 33) := am_kq122 18 _ _ _ rfl
theorem k122_33 : am_at 122 33 = some (.iastore, 34) := am_kq122 19 _ _ _ rfl
theorem k122_34 : am_at 122 34 = some (.aload 0, 35) := am_kq122 20 _ _ _ rfl
theorem k122_35 : am_at 122 35 = some (.iload 2, 36) := am_kq122 21 _ _ _ rfl
theorem k122_36 : am_at 122 36 = some (.invokestatic 124, 39) := am_kq122 22 _ _ _ rfl
theorem k122_39 : am_at 122 39 = some (.pop, 40) := am_kq122 23 _ _ _ rfl
theorem k122_40 : am_at 122 40 = some (.iload 2, 41) := am_kq122 24 _ _ _ rfl
theorem k122_41 : am_at 122 41 = some (.ireturn, 42) := am_kq122 25 _ _ _ rfl
set_option maxRecDepth 20000 in
theorem am_kq123 (i pc : Nat) (x : Instr) (nx : Nat) (hi : am_t123[i]? = some (pc, x, nx)) : am_at 123 pc = some (x, nx) := am_kB 123 am_t123 rfl (by decide +kernel) i pc x nx hi
theorem k123_0 : am_at 123 0 = some (.aload 0, 1) := am_kq123 0 _ _ _ rfl
theorem k123_1 : am_at 123 1 = some (.dup, 2) := am_kq123 1 _ _ _ rfl
theorem k123_2 : am_at 123 2 = some (.getfield 134, 5) := am_kq123 2 _ _ _ rfl
theorem k123_5 : am_at 123 5 = some (.aload 0, 6) := am_kq123 3 _ _ _ rfl
theorem k123_6 : am_at 123 6 = some (.iload 1, 7) := am_kq123 4 _ _ _ rfl
theorem k123_7 : am_at 123 7 = some (.invokestatic 124, 10) := am_kq123 5 _ _ _ rfl
theorem k123_10 : am_at 123 10 = some (.iadd, 11) := am_kq123 6 _ _ _ rfl
theorem k123_11 : am_at 123 11 = some (.putfield 134, 14) := am_kq123 7 _ _ _ rfl
theorem k123_14 : am_at 123 14 = some (.aload 0, 15) := am_kq123 8 _ _ _ rfl
theorem k123_15 : am_at 123 15 = some (.getfield 129, 18) := am_kq123 9 _ _ _ rfl
theorem k123_18 : am_at 123 18 = some (.iload 1, 19) := am_kq123 10 _ _ _ rfl
theorem k123_19 : am_at 123 19 = some (.iload 2, 20) := am_kq123 11 _ _ _ rfl
theorem k123_20 : am_at 123 20 = some (.iastore, 21) := am_kq123 12 _ _ _ rfl
theorem k123_21 : am_at 123 21 = some (.aload 0, 22) := am_kq123 13 _ _ _ rfl
theorem k123_22 : am_at 123 22 = some (.dup, 23) := am_kq123 14 _ _ _ rfl
theorem k123_23 : am_at 123 23 = some (.getfield 134, 26) := am_kq123 15 _ _ _ rfl
theorem k123_26 : am_at 123 26 = some (.aload 0, 27) := am_kq123 16 _ _ _ rfl
theorem k123_27 : am_at 123 27 = some (.iload 1, 28) := am_kq123 17 _ _ _ rfl
theorem k123_28 : am_at 123 28 = some (.invokestatic 124, 31) := am_kq123 18 _ _ _ rfl
theorem k123_31 : am_at 123 31 = some (.iadd, 32) := am_kq123 19 _ _ _ rfl
theorem k123_32 : am_at 123 32 = some (.putfield 134, 35) := am_kq123 20 _ _ _ rfl
theorem k123_35 : am_at 123 35 = some (.return_, 36) := am_kq123 21 _ _ _ rfl
set_option maxRecDepth 20000 in
theorem am_kq124 (i pc : Nat) (x : Instr) (nx : Nat) (hi : am_t124[i]? = some (pc, x, nx)) : am_at 124 pc = some (x, nx) := am_kB 124 am_t124 rfl (by decide +kernel) i pc x nx hi
theorem k124_0 : am_at 124 0 = some (.aload 0, 1) := am_kq124 0 _ _ _ rfl
theorem k124_1 : am_at 124 1 = some (.getfield 130, 4) := am_kq124 1 _ _ _ rfl
theorem k124_4 : am_at 124 4 = some (.iload 1, 5) := am_kq124 2 _ _ _ rfl
theorem k124_5 : am_at 124 5 = some (.iaload, 6) := am_kq124 3 _ _ _ rfl
theorem k124_6 : am_at 124 6 = some (.istore 2, 7) := am_kq124 4 _ _ _ rfl
theorem k124_7 : am_at 124 7 = some (.bipush 0, 8) := am_kq124 5 _ _ _ rfl
theorem k124_8 : am_at 124 8 = some (.istore 3, 9) := am_kq124 6 _ _ _ rfl
theorem k124_9 : am_at 124 9 = some (.bipush 0, 10) := am_kq124 7 _ _ _ rfl
theorem k124_10 : am_at 124 10 = some (.istore 4, 12) := am_kq124 8 _ _ _ rfl
theorem k124_12 : am_at 124 12 = some (.iload 4, 14) := am_kq124 9 _ _ _ rfl
theorem k124_14 : am_at 124 14 = some (.bipush 6, 16) := am_kq124 10 _ _ _ rfl
theorem k124_16 : am_at 124 16 = some (.if_icmp .ge 128, 19) := am_kq124 11 _ _ _ rfl
theorem k124_19 : am_at 124 19 = some (.aload 0, 20) := am_kq124 12 _ _ _ rfl
theorem k124_20 : am_at 124 20 = some (.getfield 128, 23) := am_kq124 13 _ _ _ rfl
theorem k124_23 : am_at 124 23 = some (.aload 0, 24) := am_kq124 14 _ _ _ rfl
theorem k124_24 : am_at 124 24 = some (.getfield 129, 27) := am_kq124 15 _ _ _ rfl
theorem k124_27 : am_at 124 27 = some (.iload 1, 28) := am_kq124 16 _ _ _ rfl
theorem k124_28 : am_at 124 28 = some (.iaload, 29) := am_kq124 17 _ _ _ rfl
theorem k124_29 : am_at 124 29 = some (.iload 4, 31) := am_kq124 18 _ _ _ rfl
theorem k124_31 : am_at 124 31 = some (.invokestatic 101, 34) := am_kq124 19 _ _ _ rfl
theorem k124_34 : am_at 124 34 = some (.istore 5, 36) := am_kq124 20 _ _ _ rfl
theorem k124_36 : am_at 124 36 = some (.iload 5, 38) := am_kq124 21 _ _ _ rfl
theorem k124_38 : am_at 124 38 = some (.bipush (-1), 39) := am_kq124 22 _ _ _ rfl
theorem k124_39 : am_at 124 39 = some (.if_icmp .eq 56, 42) := am_kq124 23 _ _ _ rfl
theorem k124_42 : am_at 124 42 = some (.aload 0, 43) := am_kq124 24 _ _ _ rfl
theorem k124_43 : am_at 124 43 = some (.getfield 128, 46) := am_kq124 25 _ _ _ rfl
theorem k124_46 : am_at 124 46 = some (.iload 5, 48) := am_kq124 26 _ _ _ rfl
theorem k124_48 : am_at 124 48 = some (.iload 4, 50) := am_kq124 27 _ _ _ rfl
theorem k124_50 : am_at 124 50 = some (.invokestatic 102, 53) := am_kq124 28 _ _ _ rfl
theorem k124_53 : am_at 124 53 = some (.ifCond .eq 74, 56) := am_kq124 29 _ _ _ rfl
theorem k124_56 : am_at 124 56 = some (.aload 0, 57) := am_kq124 30 _ _ _ rfl
theorem k124_57 : am_at 124 57 = some (.getfield 131, 60) := am_kq124 31 _ _ _ rfl
theorem k124_60 : am_at 124 60 = some (.iload 1, 61) := am_kq124 32 _ _ _ rfl
theorem k124_61 : am_at 124 61 = some (.dup2, 62) := am_kq124 33 _ _ _ rfl
theorem k124_62 : am_at 124 62 = some (.iaload, 63) := am_kq124 34 _ _ _ rfl
theorem k124_63 : am_at 124 63 = some (.bipush 1, 64) := am_kq124 35 _ _ _ rfl
theorem k124_64 : am_at 124 64 = some (.iload 4, 66) := am_kq124 36 _ _ _ rfl
theorem k124_66 : am_at 124 66 = some (.ishl, 67) := am_kq124 37 _ _ _ rfl
theorem k124_67 : am_at 124 67 = some (.bipush (-1), 68) := am_kq124 38 _ _ _ rfl
theorem k124_68 : am_at 124 68 = some (.ixor, 69) := am_kq124 39 _ _ _ rfl
theorem k124_69 : am_at 124 69 = some (.iand, 70) := am_kq124 40 _ _ _ rfl
theorem k124_70 : am_at 124 70 = some (.iastore, 71) := am_kq124 41 _ _ _ rfl
theorem k124_71 : am_at 124 71 = some (.goto 122, 74) := am_kq124 42 _ _ _ rfl
theorem k124_74 : am_at 124 74 = some (.iload 3, 75) := am_kq124 43 _ _ _ rfl
theorem k124_75 : am_at 124 75 = some (.bipush 1, 76) := am_kq124 44 _ _ _ rfl
theorem k124_76 : am_at 124 76 = some (.iload 4, 78) := am_kq124 45 _ _ _ rfl
theorem k124_78 : am_at 124 78 = some (.ishl, 79) := am_kq124 46 _ _ _ rfl
theorem k124_79 : am_at 124 79 = some (.ior, 80) := am_kq124 47 _ _ _ rfl
theorem k124_80 : am_at 124 80 = some (.istore 3, 81) := am_kq124 48 _ _ _ rfl
theorem k124_81 : am_at 124 81 = some (.iload 2, 82) := am_kq124 49 _ _ _ rfl
theorem k124_82 : am_at 124 82 = some (.iload 4, 84) := am_kq124 50 _ _ _ rfl
theorem k124_84 : am_at 124 84 = some (.invokestatic 29, 87) := am_kq124 51 _ _ _ rfl
theorem k124_87 : am_at 124 87 = some (.ifCond .ne 122, 90) := am_kq124 52 _ _ _ rfl
theorem k124_90 : am_at 124 90 = some (.aload 0, 91) := am_kq124 53 _ _ _ rfl
theorem k124_91 : am_at 124 91 = some (.getfield 128, 94) := am_kq124 54 _ _ _ rfl
theorem k124_94 : am_at 124 94 = some (.iload 5, 96) := am_kq124 55 _ _ _ rfl
theorem k124_96 : am_at 124 96 = some (.iload 4, 98) := am_kq124 56 _ _ _ rfl
theorem k124_98 : am_at 124 98 = some (.invokestatic 103, 101) := am_kq124 57 _ _ _ rfl
theorem k124_101 : am_at 124 101 = some (.ifCond .eq 122, 104) := am_kq124 58 _ _ _ rfl
theorem k124_104 : am_at 124 104 = some (.aload 0, 105) := am_kq124 59 _ _ _ rfl
theorem k124_105 : am_at 124 105 = some (.iload 1, 106) := am_kq124 60 _ _ _ rfl
theorem k124_106 : am_at 124 106 = some (.iload 4, 108) := am_kq124 61 _ _ _ rfl
theorem k124_108 : am_at 124 108 = some (.aload 0, 109) := am_kq124 62 _ _ _ rfl
theorem k124_109 : am_at 124 109 = some (.getfield 128, 112) := am_kq124 63 _ _ _ rfl
theorem k124_112 : am_at 124 112 = some (.iload 5, 114) := am_kq124 64 _ _ _ rfl
theorem k124_114 : am_at 124 114 = some (.iload 4, 116) := am_kq124 65 _ _ _ rfl
theorem k124_116 : am_at 124 116 = some (.invokestatic 104, 119) := am_kq124 66 _ _ _ rfl
theorem k124_119 : am_at 124 119 = some (.invokestatic 125, 122) := am_kq124 67 _ _ _ rfl
theorem k124_122 : am_at 124 122 = some (.iinc 4 1, 125) := am_kq124 68 _ _ _ rfl
theorem k124_125 : am_at 124 125 = some (.goto 12, 128) := am_kq124 69 _ _ _ rfl
theorem k124_128 : am_at 124 128 = some (.aload 0, 129) := am_kq124 70 _ _ _ rfl
theorem k124_129 : am_at 124 129 = some (.getfield 130, 132) := am_kq124 71 _ _ _ rfl
theorem k124_132 : am_at 124 132 = some (.iload 1, 133) := am_kq124 72 _ _ _ rfl
theorem k124_133 : am_at 124 133 = some (.iload 3, 134) := am_kq124 73 _ _ _ rfl
theorem k124_134 : am_at 124 134 = some (.iastore, 135) := am_kq124 74 _ _ _ rfl
theorem k124_135 : am_at 124 135 = some (.iload 3, 136) := am_kq124 75 _ _ _ rfl
theorem k124_136 : am_at 124 136 = some (.iload 2, 137) := am_kq124 76 _ _ _ rfl
theorem k124_137 : am_at 124 137 = some (.if_icmp .eq 144, 140) := am_kq124 77 _ _ _ rfl
theorem k124_140 : am_at 124 140 = some (.bipush 1, 141) := am_kq124 78 _ _ _ rfl
theorem k124_141 : am_at 124 141 = some (.goto 145, 144) := am_kq124 79 _ _ _ rfl
theorem k124_144 : am_at 124 144 = some (.bipush 0, 145) := am_kq124 80 _ _ _ rfl
theorem k124_145 : am_at 124 145 = some (.ireturn, 146) := am_kq124 81 _ _ _ rfl
set_option maxRecDepth 20000 in
theorem am_kq125 (i pc : Nat) (x : Instr) (nx : Nat) (hi : am_t125[i]? = some (pc, x, nx)) : am_at 125 pc = some (x, nx) := am_kB 125 am_t125 rfl (by decide +kernel) i pc x nx hi
theorem k125_0 : am_at 125 0 = some (.aload 0, 1) := am_kq125 0 _ _ _ rfl
theorem k125_1 : am_at 125 1 = some (.getfield 132, 4) := am_kq125 1 _ _ _ rfl
theorem k125_4 : am_at 125 4 = some (.iload 1, 5) := am_kq125 2 _ _ _ rfl
theorem k125_5 : am_at 125 5 = some (.bipush 6, 7) := am_kq125 3 _ _ _ rfl
theorem k125_7 : am_at 125 7 = some (.imul, 8) := am_kq125 4 _ _ _ rfl
theorem k125_8 : am_at 125 8 = some (.iload 2, 9) := am_kq125 5 _ _ _ rfl
theorem k125_9 : am_at 125 9 = some (.iadd, 10) := am_kq125 6 _ _ _ rfl
theorem k125_10 : am_at 125 10 = some (.iload 3, 11) := am_kq125 7 _ _ _ rfl
theorem k125_11 : am_at 125 11 = some (.iastore, 12) := am_kq125 8 _ _ _ rfl
theorem k125_12 : am_at 125 12 = some (.aload 0, 13) := am_kq125 9 _ _ _ rfl
theorem k125_13 : am_at 125 13 = some (.getfield 131, 16) := am_kq125 10 _ _ _ rfl
theorem k125_16 : am_at 125 16 = some (.iload 1, 17) := am_kq125 11 _ _ _ rfl
theorem k125_17 : am_at 125 17 = some (.dup2, 18) := am_kq125 12 _ _ _ rfl
theorem k125_18 : am_at 125 18 = some (.iaload, 19) := am_kq125 13 _ _ _ rfl
theorem k125_19 : am_at 125 19 = some (.bipush 1, 20) := am_kq125 14 _ _ _ rfl
theorem k125_20 : am_at 125 20 = some (.iload 2, 21) := am_kq125 15 _ _ _ rfl
theorem k125_21 : am_at 125 21 = some (.ishl, 22) := am_kq125 16 _ _ _ rfl
theorem k125_22 : am_at 125 22 = some (.ior, 23) := am_kq125 17 _ _ _ rfl
theorem k125_23 : am_at 125 23 = some (.iastore, 24) := am_kq125 18 _ _ _ rfl
theorem k125_24 : am_at 125 24 = some (.return_, 25) := am_kq125 19 _ _ _ rfl
set_option maxRecDepth 20000 in
theorem am_kq126 (i pc : Nat) (x : Instr) (nx : Nat) (hi : am_t126[i]? = some (pc, x, nx)) : am_at 126 pc = some (x, nx) := am_kB 126 am_t126 rfl (by decide +kernel) i pc x nx hi
theorem k126_0 : am_at 126 0 = some (.aload 0, 1) := am_kq126 0 _ _ _ rfl
theorem k126_1 : am_at 126 1 = some (.dup, 2) := am_kq126 1 _ _ _ rfl
theorem k126_2 : am_at 126 2 = some (.getfield 134, 5) := am_kq126 2 _ _ _ rfl
theorem k126_5 : am_at 126 5 = some (.aload 0, 6) := am_kq126 3 _ _ _ rfl
theorem k126_6 : am_at 126 6 = some (.iload 1, 7) := am_kq126 4 _ _ _ rfl
theorem k126_7 : am_at 126 7 = some (.invokestatic 124, 10) := am_kq126 5 _ _ _ rfl
theorem k126_10 : am_at 126 10 = some (.iadd, 11) := am_kq126 6 _ _ _ rfl
theorem k126_11 : am_at 126 11 = some (.putfield 134, 14) := am_kq126 7 _ _ _ rfl
theorem k126_14 : am_at 126 14 = some (.aload 0, 15) := am_kq126 8 _ _ _ rfl
theorem k126_15 : am_at 126 15 = some (.getfield 128, 18) := am_kq126 9 _ _ _ rfl
theorem k126_18 : am_at 126 18 = some (.aload 0, 19) := am_kq126 10 _ _ _ rfl
theorem k126_19 : am_at 126 19 = some (.getfield 129, 22) := am_kq126 11 _ _ _ rfl
theorem k126_22 : am_at 126 22 = some (.iload 1, 23) := am_kq126 12 _ _ _ rfl
theorem k126_23 : am_at 126 23 = some (.iaload, 24) := am_kq126 13 _ _ _ rfl
theorem k126_24 : am_at 126 24 = some (.iload 2, 25) := am_kq126 14 _ _ _ rfl
theorem k126_25 : am_at 126 25 = some (.invokestatic 101, 28) := am_kq126 15 _ _ _ rfl
theorem k126_28 : am_at 126 28 = some (.istore 3, 29) := am_kq126 16 _ _ _ rfl
theorem k126_29 : am_at 126 29 = some (.iload 3, 30) := am_kq126 17 _ _ _ rfl
theorem k126_30 : am_at 126 30 = some (.bipush (-1), 31) := am_kq126 18 _ _ _ rfl
theorem k126_31 : am_at 126 31 = some (.if_icmp .ne 38, 34) := am_kq126 19 _ _ _ rfl
theorem k126_34 : am_at 126 34 = some (.sipush 1099511627770, 37) := am_kq126 20 _ _ _ rfl
theorem k126_37 : am_at 126 37 = some (.lreturn, 38) := am_kq126 21 _ _ _ rfl
theorem k126_38 : am_at 126 38 = some (.aload 0, 39) := am_kq126 22 _ _ _ rfl
theorem k126_39 : am_at 126 39 = some (.getfield 128, 42) := am_kq126 23 _ _ _ rfl
theorem k126_42 : am_at 126 42 = some (.iload 3, 43) := am_kq126 24 _ _ _ rfl
theorem k126_43 : am_at 126 43 = some (.iload 2, 44) := am_kq126 25 _ _ _ rfl
theorem k126_44 : am_at 126 44 = some (.invokestatic 102, 47) := am_kq126 26 _ _ _ rfl
theorem k126_47 : am_at 126 47 = some (.ifCond .eq 61, 50) := am_kq126 27 _ _ _ rfl
theorem k126_50 : am_at 126 50 = some (.aload 0, 51) := am_kq126 28 _ _ _ rfl
theorem k126_51 : am_at 126 51 = some (.getfield 128, 54) := am_kq126 29 _ _ _ rfl
theorem k126_54 : am_at 126 54 = some (.iload 3, 55) := am_kq126 30 _ _ _ rfl
theorem k126_55 : am_at 126 55 = some (.iload 2, 56) := am_kq126 31 _ _ _ rfl
theorem k126_56 : am_at 126 56 = some (.invokestatic 104, 59) := am_kq126 32 _ _ _ rfl
theorem k126_59 : am_at 126 59 = some (.i2l, 60) := am_kq126 33 _ _ _ rfl
theorem k126_60 : am_at 126 60 = some (.lreturn, 61) := am_kq126 34 _ _ _ rfl
theorem k126_61 : am_at 126 61 = some (.aload 0, 62) := am_kq126 35 _ _ _ rfl
theorem k126_62 : am_at 126 62 = some (.getfield 131, 65) := am_kq126 36 _ _ _ rfl
theorem k126_65 : am_at 126 65 = some (.iload 1, 66) := am_kq126 37 _ _ _ rfl
theorem k126_66 : am_at 126 66 = some (.iaload, 67) := am_kq126 38 _ _ _ rfl
theorem k126_67 : am_at 126 67 = some (.iload 2, 68) := am_kq126 39 _ _ _ rfl
theorem k126_68 : am_at 126 68 = some (.invokestatic 29, 71) := am_kq126 40 _ _ _ rfl
theorem k126_71 : am_at 126 71 = some (.ifCond .eq 89, 74) := am_kq126 41 _ _ _ rfl
theorem k126_74 : am_at 126 74 = some (.aload 0, 75) := am_kq126 42 _ _ _ rfl
theorem k126_75 : am_at 126 75 = some (.getfield 132, 78) := am_kq126 43 _ _ _ rfl
theorem k126_78 : am_at 126 78 = some (.iload 1, 79) := am_kq126 44 _ _ _ rfl
theorem k126_79 : am_at 126 79 = some (.bipush 6, 81) := am_kq126 45 _ _ _ rfl
theorem k126_81 : am_at 126 81 = some (.imul, 82) := am_kq126 46 _ _ _ rfl
theorem k126_82 : am_at 126 82 = some (.iload 2, 83) := am_kq126 47 _ _ _ rfl
theorem k126_83 : am_at 126 83 = some (.iadd, 84) := am_kq126 48 _ _ _ rfl
theorem k126_84 : am_at 126 84 = some (.iaload, 85) := am_kq126 49 _ _ _ rfl
theorem k126_85 : am_at 126 85 = some (.i2l, 86) := am_kq126 50 _ _ _ rfl
theorem k126_86 : am_at 126 86 = some (.goto 92, 89) := am_kq126 51 _ _ _ rfl
theorem k126_89 : am_at 126 89 = some (.sipush 1099511627769, 92) := am_kq126 52 _ _ _ rfl
theorem k126_92 : am_at 126 92 = some (.lreturn, 93) := am_kq126 53 _ _ _ rfl
set_option maxRecDepth 20000 in
theorem am_kq127 (i pc : Nat) (x : Instr) (nx : Nat) (hi : am_t127[i]? = some (pc, x, nx)) : am_at 127 pc = some (x, nx) := am_kB 127 am_t127 rfl (by decide +kernel) i pc x nx hi
theorem k127_0 : am_at 127 0 = some (.aload 0, 1) := am_kq127 0 _ _ _ rfl
theorem k127_1 : am_at 127 1 = some (.dup, 2) := am_kq127 1 _ _ _ rfl
theorem k127_2 : am_at 127 2 = some (.getfield 134, 5) := am_kq127 2 _ _ _ rfl
theorem k127_5 : am_at 127 5 = some (.aload 0, 6) := am_kq127 3 _ _ _ rfl
theorem k127_6 : am_at 127 6 = some (.iload 1, 7) := am_kq127 4 _ _ _ rfl
theorem k127_7 : am_at 127 7 = some (.invokestatic 124, 10) := am_kq127 5 _ _ _ rfl
theorem k127_10 : am_at 127 10 = some (.iadd, 11) := am_kq127 6 _ _ _ rfl
theorem k127_11 : am_at 127 11 = some (.putfield 134, 14) := am_kq127 7 _ _ _ rfl
theorem k127_14 : am_at 127 14 = some (.aload 0, 15) := am_kq127 8 _ _ _ rfl
theorem k127_15 : am_at 127 15 = some (.getfield 128, 18) := am_kq127 9 _ _ _ rfl
theorem k127_18 : am_at 127 18 = some (.aload 0, 19) := am_kq127 10 _ _ _ rfl
theorem k127_19 : am_at 127 19 = some (.getfield 129, 22) := am_kq127 11 _ _ _ rfl
theorem k127_22 : am_at 127 22 = some (.iload 1, 23) := am_kq127 12 _ _ _ rfl
theorem k127_23 : am_at 127 23 = some (.iaload, 24) := am_kq127 13 _ _ _ rfl
theorem k127_24 : am_at 127 24 = some (.iload 2, 25) := am_kq127 14 _ _ _ rfl
theorem k127_25 : am_at 127 25 = some (.invokestatic 101, 28) := am_kq127 15 _ _ _ rfl
theorem k127_28 : am_at 127 28 = some (.istore 4, 30) := am_kq127 16 _ _ _ rfl
theorem k127_30 : am_at 127 30 = some (.iload 4, 32) := am_kq127 17 _ _ _ rfl
theorem k127_32 : am_at 127 32 = some (.bipush (-1), 33) := am_kq127 18 _ _ _ rfl
theorem k127_33 : am_at 127 33 = some (.if_icmp .ne 40, 36) := am_kq127 19 _ _ _ rfl
theorem k127_36 : am_at 127 36 = some (.sipush 1099511627770, 39) := am_kq127 20 _ _ _ rfl
theorem k127_39 : am_at 127 39 = some (.lreturn, 40) := am_kq127 21 _ _ _ rfl
theorem k127_40 : am_at 127 40 = some (.aload 0, 41) := am_kq127 22 _ _ _ rfl
theorem k127_41 : am_at 127 41 = some (.getfield 128, 44) := am_kq127 23 _ _ _ rfl
theorem k127_44 : am_at 127 44 = some (.iload 4, 46) := am_kq127 24 _ _ _ rfl
theorem k127_46 : am_at 127 46 = some (.iload 2, 47) := am_kq127 25 _ _ _ rfl
theorem k127_47 : am_at 127 47 = some (.invokestatic 102, 50) := am_kq127 26 _ _ _ rfl
theorem k127_50 : am_at 127 50 = some (.ifCond .eq 67, 53) := am_kq127 27 _ _ _ rfl
theorem k127_53 : am_at 127 53 = some (.aload 0, 54) := am_kq127 28 _ _ _ rfl
theorem k127_54 : am_at 127 54 = some (.getfield 128, 57) := am_kq127 29 _ _ _ rfl
theorem k127_57 : am_at 127 57 = some (.iload 4, 59) := am_kq127 30 _ _ _ rfl
theorem k127_59 : am_at 127 59 = some (.iload 2, 60) := am_kq127 31 _ _ _ rfl
theorem k127_60 : am_at 127 60 = some (.iload 3, 61) := am_kq127 32 _ _ _ rfl
theorem k127_61 : am_at 127 61 = some (.invokestatic 105, 64) := am_kq127 33 _ _ _ rfl
theorem k127_64 : am_at 127 64 = some (.goto 74, 67) := am_kq127 34 _ _ _ rfl
theorem k127_67 : am_at 127 67 = some (.aload 0, 68) := am_kq127 35 _ _ _ rfl
theorem k127_68 : am_at 127 68 = some (.iload 1, 69) := am_kq127 36 _ _ _ rfl
theorem k127_69 : am_at 127 69 = some (.iload 2, 70) := am_kq127 37 _ _ _ rfl
theorem k127_70 : am_at 127 70 = some (.iload 3, 71) := am_kq127 38 _ _ _ rfl
theorem k127_71 : am_at 127 71 = some (.invokestatic 125, 74) := am_kq127 39 _ _ _ rfl
theorem k127_74 : am_at 127 74 = some (.sipush 1, 75) := am_kq127 40 _ _ _ rfl
theorem k127_75 : am_at 127 75 = some (.lreturn, 76) := am_kq127 41 _ _ _ rfl
set_option maxRecDepth 20000 in
theorem am_kq128 (i pc : Nat) (x : Instr) (nx : Nat) (hi : am_t128[i]? = some (pc, x, nx)) : am_at 128 pc = some (x, nx) := am_kB 128 am_t128 rfl (by decide +kernel) i pc x nx hi
theorem k128_0 : am_at 128 0 = some (.aload 0, 1) := am_kq128 0 _ _ _ rfl
theorem k128_1 : am_at 128 1 = some (.dup, 2) := am_kq128 1 _ _ _ rfl
theorem k128_2 : am_at 128 2 = some (.getfield 134, 5) := am_kq128 2 _ _ _ rfl
theorem k128_5 : am_at 128 5 = some (.aload 0, 6) := am_kq128 3 _ _ _ rfl
theorem k128_6 : am_at 128 6 = some (.iload 1, 7) := am_kq128 4 _ _ _ rfl
theorem k128_7 : am_at 128 7 = some (.invokestatic 124, 10) := am_kq128 5 _ _ _ rfl
theorem k128_10 : am_at 128 10 = some (.iadd, 11) := am_kq128 6 _ _ _ rfl
theorem k128_11 : am_at 128 11 = some (.putfield 134, 14) := am_kq128 7 _ _ _ rfl
theorem k128_14 : am_at 128 14 = some (.aload 0, 15) := am_kq128 8 _ _ _ rfl
theorem k128_15 : am_at 128 15 = some (.getfield 130, 18) := am_kq128 9 _ _ _ rfl
theorem k128_18 : am_at 128 18 = some (.iload 1, 19) := am_kq128 10 _ _ _ rfl
theorem k128_19 : am_at 128 19 = some (.iaload, 20) := am_kq128 11 _ _ _ rfl
theorem k128_20 : am_at 128 20 = some (.iload 2, 21) := am_kq128 12 _ _ _ rfl
theorem k128_21 : am_at 128 21 = some (.invokestatic 29, 24) := am_kq128 13 _ _ _ rfl
theorem k128_24 : am_at 128 24 = some (.ifCond .ne 31, 27) := am_kq128 14 _ _ _ rfl
theorem k128_27 : am_at 128 27 = some (.sipush 1099511627770, 30) := am_kq128 15 _ _ _ rfl
theorem k128_30 : am_at 128 30 = some (.lreturn, 31) := am_kq128 16 _ _ _ rfl
theorem k128_31 : am_at 128 31 = some (.aload 0, 32) := am_kq128 17 _ _ _ rfl
theorem k128_32 : am_at 128 32 = some (.getfield 131, 35) := am_kq128 18 _ _ _ rfl
theorem k128_35 : am_at 128 35 = some (.iload 1, 36) := am_kq128 19 _ _ _ rfl
theorem k128_36 : am_at 128 36 = some (.iaload, 37) := am_kq128 20 _ _ _ rfl
theorem k128_37 : am_at 128 37 = some (.iload 2, 38) := am_kq128 21 _ _ _ rfl
theorem k128_38 : am_at 128 38 = some (.invokestatic 29, 41) := am_kq128 22 _ _ _ rfl
theorem k128_41 : am_at 128 41 = some (.ifCond .ne 46, 44) := am_kq128 23 _ _ _ rfl
theorem k128_44 : am_at 128 44 = some (.sipush 0, 45) := am_kq128 24 _ _ _ rfl
theorem k128_45 : am_at 128 45 = some (.lreturn, 46) := am_kq128 25 _ _ _ rfl
theorem k128_46 : am_at 128 46 = some (.aload 0, 47) := am_kq128 26 _ _ _ rfl
theorem k128_47 : am_at 128 47 = some (.getfield 131, 50) := am_kq128 27 _ _ _ rfl
theorem k128_50 : am_at 128 50 = some (.iload 1, 51) := am_kq128 28 _ _ _ rfl
theorem k128_51 : am_at 128 51 = some (.dup2, 52) := am_kq128 29 _ _ _ rfl
theorem k128_52 : am_at 128 52 = some (.iaload, 53) := am_kq128 30 _ _ _ rfl
theorem k128_53 : am_at 128 53 = some (.bipush 1, 54) := am_kq128 31 _ _ _ rfl
theorem k128_54 : am_at 128 54 = some (.iload 2, 55) := am_kq128 32 _ _ _ rfl
theorem k128_55 : am_at 128 55 = some (.ishl, 56) := am_kq128 33 _ _ _ rfl
theorem k128_56 : am_at 128 56 = some (.bipush (-1), 57) := am_kq128 34 _ _ _ rfl
theorem k128_57 : am_at 128 57 = some (.ixor, 58) := am_kq128 35 _ _ _ rfl
theorem k128_58 : am_at 128 58 = some (.iand, 59) := am_kq128 36 _ _ _ rfl
theorem k128_59 : am_at 128 59 = some (.iastore, 60) := am_kq128 37 _ _ _ rfl
theorem k128_60 : am_at 128 60 = some (.sipush 1, 61) := am_kq128 38 _ _ _ rfl
theorem k128_61 : am_at 128 61 = some (.lreturn, 62) := am_kq128 39 _ _ _ rfl
set_option maxRecDepth 20000 in
theorem am_kq129 (i pc : Nat) (x : Instr) (nx : Nat) (hi : am_t129[i]? = some (pc, x, nx)) : am_at 129 pc = some (x, nx) := am_kB 129 am_t129 rfl (by decide +kernel) i pc x nx hi
theorem k129_0 : am_at 129 0 = some (.aload 0, 1) := am_kq129 0 _ _ _ rfl
theorem k129_1 : am_at 129 1 = some (.monitorenter, 4) := am_kq129 1 _ _ _ rfl
theorem k129_4 : am_at 129 4 = some (.aload 0, 5) := am_kq129 2 _ _ _ rfl
theorem k129_5 : am_at 129 5 = some (.bipush 720, 8) := am_kq129 3 _ _ _ rfl
theorem k129_8 : am_at 129 8 = some (.anewarray 9, 11) := am_kq129 4 _ _ _ rfl
theorem k129_11 : am_at 129 11 = some (.putfield 259, 14) := am_kq129 5 _ _ _ rfl
theorem k129_14 : am_at 129 14 = some (.aload 0, 15) := am_kq129 6 _ _ _ rfl
theorem k129_15 : am_at 129 15 = some (.bipush 5, 16) := am_kq129 7 _ _ _ rfl
theorem k129_16 : am_at 129 16 = some (.newarray .int, 18) := am_kq129 8 _ _ _ rfl
theorem k129_18 : am_at 129 18 = some (.putfield 260, 21) := am_kq129 9 _ _ _ rfl
theorem k129_21 : am_at 129 21 = some (.aload 0, 22) := am_kq129 10 _ _ _ rfl
theorem k129_22 : am_at 129 22 = some (.bipush 5, 23) := am_kq129 11 _ _ _ rfl
theorem k129_23 : am_at 129 23 = some (.newarray .int, 25) := am_kq129 12 _ _ _ rfl
theorem k129_25 : am_at 129 25 = some (.putfield 261, 28) := am_kq129 13 _ _ _ rfl
theorem k129_28 : am_at 129 28 = some (.aload 0, 29) := am_kq129 14 _ _ _ rfl
theorem k129_29 : am_at 129 29 = some (.bipush 16, 31) := am_kq129 15 _ _ _ rfl
theorem k129_31 : am_at 129 31 = some (.newarray .int, 33) := am_kq129 16 _ _ _ rfl
theorem k129_33 : am_at 129 33 = some (.putfield 262, 36) := am_kq129 17 _ _ _ rfl
theorem k129_36 : am_at 129 36 = some (.aload 0, 37) := am_kq129 18 _ _ _ rfl
theorem k129_37 : am_at 129 37 = some (.bipush 0, 38) := am_kq129 19 _ _ _ rfl
theorem k129_38 : am_at 129 38 = some (.putfield 263, 41) := am_kq129 20 _ _ _ rfl
theorem k129_41 : am_at 129 41 = some (.aload 0, 42) := am_kq129 21 _ _ _ rfl
theorem k129_42 : am_at 129 42 = some (.aload 1, 43) := am_kq129 22 _ _ _ rfl
theorem k129_43 : am_at 129 43 = some (.putfield 256, 46) := am_kq129 23 _ _ _ rfl
theorem k129_46 : am_at 129 46 = some (.aload 0, 47) := am_kq129 24 _ _ _ rfl
theorem k129_47 : am_at 129 47 = some (.aload 2, 48) := am_kq129 25 _ _ _ rfl
theorem k129_48 : am_at 129 48 = some (.putfield 257, 51) := am_kq129 26 _ _ _ rfl
theorem k129_51 : am_at 129 51 = some (.aload 0, 52) := am_kq129 27 _ _ _ rfl
theorem k129_52 : am_at 129 52 = some (.aload 3, 53) := am_kq129 28 _ _ _ rfl
theorem k129_53 : am_at 129 53 = some (.putfield 258, 56) := am_kq129 29 _ _ _ rfl
theorem k129_56 : am_at 129 56 = some (.return_, 57) := am_kq129 30 _ _ _ rfl
set_option maxRecDepth 20000 in
theorem am_kq130 (i pc : Nat) (x : Instr) (nx : Nat) (hi : am_t130[i]? = some (pc, x, nx)) : am_at 130 pc = some (x, nx) := am_kB 130 am_t130 rfl (by decide +kernel) i pc x nx hi
theorem k130_0 : am_at 130 0 = some (.aload 0, 1) := am_kq130 0 _ _ _ rfl
theorem k130_1 : am_at 130 1 = some (.getfield 263, 4) := am_kq130 1 _ _ _ rfl
theorem k130_4 : am_at 130 4 = some (.ireturn, 5) := am_kq130 2 _ _ _ rfl
set_option maxRecDepth 20000 in
theorem am_kq131 (i pc : Nat) (x : Instr) (nx : Nat) (hi : am_t131[i]? = some (pc, x, nx)) : am_at 131 pc = some (x, nx) := am_kB 131 am_t131 rfl (by decide +kernel) i pc x nx hi
theorem k131_0 : am_at 131 0 = some (.bipush 0, 1) := am_kq131 0 _ _ _ rfl
theorem k131_1 : am_at 131 1 = some (.istore 1, 2) := am_kq131 1 _ _ _ rfl
theorem k131_2 : am_at 131 2 = some (.bipush 0, 3) := am_kq131 2 _ _ _ rfl
theorem k131_3 : am_at 131 3 = some (.istore 2, 4) := am_kq131 3 _ _ _ rfl
theorem k131_4 : am_at 131 4 = some (.iload 2, 5) := am_kq131 4 _ _ _ rfl
theorem k131_5 : am_at 131 5 = some (.bipush 5, 6) := am_kq131 5 _ _ _ rfl
theorem k131_6 : am_at 131 6 = some (.if_icmp .ge 24, 9) := am_kq131 6 _ _ _ rfl
theorem k131_9 : am_at 131 9 = some (.iload 1, 10) := am_kq131 7 _ _ _ rfl
theorem k131_10 : am_at 131 10 = some (.aload 0, 11) := am_kq131 8 _ _ _ rfl
theorem k131_11 : am_at 131 11 = some (.getfield 261, 14) := am_kq131 9 _ _ _ rfl
theorem k131_14 : am_at 131 14 = some (.iload 2, 15) := am_kq131 10 _ _ _ rfl
theorem k131_15 : am_at 131 15 = some (.iaload, 16) := am_kq131 11 _ _ _ rfl
theorem k131_16 : am_at 131 16 = some (.iadd, 17) := am_kq131 12 _ _ _ rfl
theorem k131_17 : am_at 131 17 = some (.istore 1, 18) := am_kq131 13 _ _ _ rfl
theorem k131_18 : am_at 131 18 = some (.iinc 2 1, 21) := am_kq131 14 _ _ _ rfl
theorem k131_21 : am_at 131 21 = some (.goto 4, 24) := am_kq131 15 _ _ _ rfl
theorem k131_24 : am_at 131 24 = some (.iload 1, 25) := am_kq131 16 _ _ _ rfl
theorem k131_25 : am_at 131 25 = some (.ireturn, 26) := am_kq131 17 _ _ _ rfl
set_option maxRecDepth 20000 in
theorem am_kq132 (i pc : Nat) (x : Instr) (nx : Nat) (hi : am_t132[i]? = some (pc, x, nx)) : am_at 132 pc = some (x, nx) := am_kB 132 am_t132 rfl (by decide +kernel) i pc x nx hi
theorem k132_0 : am_at 132 0 = some (.aload 0, 1) := am_kq132 0 _ _ _ rfl
theorem k132_1 : am_at 132 1 = some (.getfield 260, 4) := am_kq132 1 _ _ _ rfl
theorem k132_4 : am_at 132 4 = some (.iload 1, 5) := am_kq132 2 _ _ _ rfl
theorem k132_5 : am_at 132 5 = some (.dup2, 6) := am_kq132 3 _ _ _ rfl
theorem k132_6 : am_at 132 6 = some (.iaload, 7) := am_kq132 4 _ _ _ rfl
theorem k132_7 : am_at 132 7 = some (.bipush 1, 8) := am_kq132 5 _ _ _ rfl
theorem k132_8 : am_at 132 8 = some (.iadd, 9) := am_kq132 6 _ _ _ rfl
theorem k132_9 : am_at 132 9 = some (.iastore, 10) := am_kq132 7 _ _ _ rfl
theorem k132_10 : am_at 132 10 = some (.aload 0, 11) := am_kq132 8 _ _ _ rfl
theorem k132_11 : am_at 132 11 = some (.getfield 261, 14) := am_kq132 9 _ _ _ rfl
theorem k132_14 : am_at 132 14 = some (.iload 1, 15) := am_kq132 10 _ _ _ rfl
theorem k132_15 : am_at 132 15 = some (.bipush 0, 16) := am_kq132 11 _ _ _ rfl
theorem k132_16 : am_at 132 16 = some (.iastore, 17) := am_kq132 12 _ _ _ rfl
theorem k132_17 : am_at 132 17 = some (.return_, 18) := am_kq132 13 _ _ _ rfl
set_option maxRecDepth 20000 in
theorem am_kq133 (i pc : Nat) (x : Instr) (nx : Nat) (hi : am_t133[i]? = some (pc, x, nx)) : am_at 133 pc = some (x, nx) := am_kB 133 am_t133 rfl (by decide +kernel) i pc x nx hi
theorem k133_0 : am_at 133 0 = some (.bipush 0, 1) := am_kq133 0 _ _ _ rfl
theorem k133_1 : am_at 133 1 = some (.istore 1, 2) := am_kq133 1 _ _ _ rfl
theorem k133_2 : am_at 133 2 = some (.iload 1, 3) := am_kq133 2 _ _ _ rfl
theorem k133_3 : am_at 133 3 = some (.bipush 5, 4) := am_kq133 3 _ _ _ rfl
theorem k133_4 : am_at 133 4 = some (.if_icmp .ge 18, 7) := am_kq133 4 _ _ _ rfl
theorem k133_7 : am_at 133 7 = some (.aload 0, 8) := am_kq133 5 _ _ _ rfl
theorem k133_8 : am_at 133 8 = some (.iload 1, 9) := am_kq133 6 _ _ _ rfl
theorem k133_9 : am_at 133 9 = some (.invokestatic 132, 12) := am_kq133 7 _ _ _ rfl
theorem k133_12 : am_at 133 12 = some (.iinc 1 1, 15) := am_kq133 8 _ _ _ rfl
theorem k133_15 : am_at 133 15 = some (.goto 2, 18) := am_kq133 9 _ _ _ rfl
theorem k133_18 : am_at 133 18 = some (.return_, 19) := am_kq133 10 _ _ _ rfl
set_option maxRecDepth 20000 in
theorem am_kq134 (i pc : Nat) (x : Instr) (nx : Nat) (hi : am_t134[i]? = some (pc, x, nx)) : am_at 134 pc = some (x, nx) := am_kB 134 am_t134 rfl (by decide +kernel) i pc x nx hi
theorem k134_0 : am_at 134 0 = some (.aload 0, 1) := am_kq134 0 _ _ _ rfl
theorem k134_1 : am_at 134 1 = some (.iload 1, 2) := am_kq134 1 _ _ _ rfl
theorem k134_2 : am_at 134 2 = some (.iload 2, 3) := am_kq134 2 _ _ _ rfl
theorem k134_3 : am_at 134 3 = some (.iload 3, 4) := am_kq134 3 _ _ _ rfl
theorem k134_4 : am_at 134 4 = some (.invokestatic 135, 7) := am_kq134 4 _ _ _ rfl
theorem k134_7 : am_at 134 7 = some (.ifCond .eq 22, 10) := am_kq134 5 _ _ _ rfl
theorem k134_10 : am_at 134 10 = some (.aload 0, 11) := am_kq134 6 _ _ _ rfl
theorem k134_11 : am_at 134 11 = some (.iload 1, 12) := am_kq134 7 _ _ _ rfl
theorem k134_12 : am_at 134 12 = some (.iload 2, 13) := am_kq134 8 _ _ _ rfl
theorem k134_13 : am_at 134 13 = some (.iload 3, 14) := am_kq134 9 _ _ _ rfl
theorem k134_14 : am_at 134 14 = some (.aload 4, 16) := am_kq134 10 _ _ _ rfl
theorem k134_16 : am_at 134 16 = some (.invokestatic 136, 19) := am_kq134 11 _ _ _ rfl
theorem k134_19 : am_at 134 19 = some (.aload 4, 21) := am_kq134 12 _ _ _ rfl
theorem k134_21 : am_at 134 21 = some (.areturn, 22) := am_kq134 13 _ _ _ rfl
theorem k134_22 : am_at 134 22 = some (.aload 0, 23) := am_kq134 14 _ _ _ rfl
theorem k134_23 : am_at 134 23 = some (.getfield 258, 26) := am_kq134 15 _ _ _ rfl
theorem k134_26 : am_at 134 26 = some (.iload 1, 27) := am_kq134 16 _ _ _ rfl
theorem k134_27 : am_at 134 27 = some (.invokestatic 159, 30) := am_kq134 17 _ _ _ rfl
theorem k134_30 : am_at 134 30 = some (.bipush 2, 31) := am_kq134 18 _ _ _ rfl
theorem k134_31 : am_at 134 31 = some (.if_icmp .ne 45, 34) := am_kq134 19 _ _ _ rfl
theorem k134_34 : am_at 134 34 = some (.aload 0, 35) := am_kq134 20 _ _ _ rfl
theorem k134_35 : am_at 134 35 = some (.getfield 257, 38) := am_kq134 21 _ _ _ rfl
theorem k134_38 : am_at 134 38 = some (.iload 3, 39) := am_kq134 22 _ _ _ rfl
theorem k134_39 : am_at 134 39 = some (.invokestatic 119, 42) := am_kq134 23 _ _ _ rfl
theorem k134_42 : am_at 134 42 = some (.goto 46, 45) := am_kq134 24 _ _ _ rfl
theorem k134_45 : am_at 134 45 = some (.bipush 0, 46) := am_kq134 25 _ _ _ rfl
theorem k134_46 : am_at 134 46 = some (.istore 5, 48) := am_kq134 26 _ _ _ rfl
theorem k134_48 : am_at 134 48 = some (.iload 1, 49) := am_kq134 27 _ _ _ rfl
theorem k134_49 : am_at 134 49 = some (.bipush 12, 51) := am_kq134 28 _ _ _ rfl
theorem k134_51 : am_at 134 51 = some (.imul, 52) := am_kq134 29 _ _ _ rfl
theorem k134_52 : am_at 134 52 = some (.aload 0, 53) := am_kq134 30 _ _ _ rfl
theorem k134_53 : am_at 134 53 = some (.getfield 257, 56) := am_kq134 31 _ _ _ rfl
theorem k134_56 : am_at 134 56 = some (.iload 2, 57) := am_kq134 32 _ _ _ rfl
theorem k134_57 : am_at 134 57 = some (.invokestatic 119, 60) := am_kq134 33 _ _ _ rfl
theorem k134_60 : am_at 134 60 = some (.iadd, 61) := am_kq134 34 _ _ _ rfl
theorem k134_61 : am_at 134 61 = some (.bipush 12, 63) := am_kq134 35 _ _ _ rfl
theorem k134_63 : am_at 134 63 = some (.imul, 64) := am_kq134 36 _ _ _ rfl
theorem k134_64 : am_at 134 64 = some (.iload 5, 66) := am_kq134 37 _ _ _ rfl
theorem k134_66 : am_at 134 66 = some (.iadd, 67) := am_kq134 38 _ _ _ rfl
theorem k134_67 : am_at 134 67 = some (.istore 6, 69) := am_kq134 39 _ _ _ rfl
theorem k134_69 : am_at 134 69 = some (.aload 0, 70) := am_kq134 40 _ _ _ rfl
theorem k134_70 : am_at 134 70 = some (.getfield 259, 73) := am_kq134 41 _ _ _ rfl
theorem k134_73 : am_at 134 73 = some (.iload 6, 75) := am_kq134 42 _ _ _ rfl
theorem k134_75 : am_at 134 75 = some (.aaload, 76) := am_kq134 43 _ _ _ rfl
theorem k134_76 : am_at 134 76 = some (.astore 7, 78) := am_kq134 44 _ _ _ rfl
theorem k134_78 : am_at 134 78 = some (.aload 7, 80) := am_kq134 45 _ _ _ rfl
theorem k134_80 : am_at 134 80 = some (.ifnonnull 104, 83) := am_kq134 46 _ _ _ rfl
theorem k134_83 : am_at 134 83 = some (.new 9, 86) := am_kq134 47 _ _ _ rfl
theorem k134_86 : am_at 134 86 = some (.dup, 87) := am_kq134 48 _ _ _ rfl
theorem k134_87 : am_at 134 87 = some (.invokestatic 106, 90) := am_kq134 49 _ _ _ rfl
theorem k134_90 : am_at 134 90 = some (.astore 7, 92) := am_kq134 50 _ _ _ rfl
theorem k134_92 : am_at 134 92 = some (.aload 0, 93) := am_kq134 51 _ _ _ rfl
theorem k134_93 : am_at 134 93 = some (.getfield 259, 96) := am_kq134 52 _ _ _ rfl
theorem k134_96 : am_at 134 96 = some (.iload 6, 98) := am_kq134 53 _ _ _ rfl
theorem k134_98 : am_at 134 98 = some (.aload 7, 100) := am_kq134 54 _ _ _ rfl
theorem k134_100 : am_at 134 100 = some (.aastore, 101) := am_kq134 55 _ _ _ rfl
theorem k134_101 : am_at 134 101 = some (.goto 121, 104) := am_kq134 56 _ _ _ rfl
theorem k134_104 : am_at 134 104 = some (.aload 7, 106) := am_kq134 57 _ _ _ rfl
theorem k134_106 : am_at 134 106 = some (.getfield 581, 109) := am_kq134 58 _ _ _ rfl
theorem k134_109 : am_at 134 109 = some (.aload 0, 110) := am_kq134 59 _ _ _ rfl
theorem k134_110 : am_at 134 110 = some (.getfield 260, 113) := am_kq134 60 _ _ _ rfl
theorem k134_113 : am_at 134 113 = some (.iload 1, 114) := am_kq134 61 _ _ _ rfl
theorem k134_114 : am_at 134 114 = some (.iaload, 115) := am_kq134 62 _ _ _ rfl
theorem k134_115 : am_at 134 115 = some (.if_icmp .ne 121, 118) := am_kq134 63 _ _ _ rfl
theorem k134_118 : am_at 134 118 = some (.aload 7, 120) := am_kq134 64 _ _ _ rfl
theorem k134_120 : am_at 134 120 = some (.areturn, 121) := am_kq134 65 _ _ _ rfl
theorem k134_121 : am_at 134 121 = some (.aload 0, 122) := am_kq134 66 _ _ _ rfl
theorem k134_122 : am_at 134 122 = some (.iload 1, 123) := am_kq134 67 _ _ _ rfl
theorem k134_123 : am_at 134 123 = some (.iload 2, 124) := am_kq134 68 _ _ _ rfl
theorem k134_124 : am_at 134 124 = some (.iload 3, 125) := am_kq134 69 _ _ _ rfl
theorem k134_125 : am_at 134 125 = some (.aload 7, 127) := am_kq134 70 _ _ _ rfl
theorem k134_127 : am_at 134 127 = some (.invokestatic 136, 130) := am_kq134 71 _ _ _ rfl
theorem k134_130 : am_at 134 130 = some (.aload 7, 132) := am_kq134 72 _ _ _ rfl
theorem k134_132 : am_at 134 132 = some (.aload 0, 133) := am_kq134 73 _ _ _ rfl
theorem k134_133 : am_at 134 133 = some (.getfield 260, 136) := am_kq134 74 _ _ _ rfl
theorem k134_136 : am_at 134 136 = some (.iload 1, 137) := am_kq134 75 _ _ _ rfl
theorem k134_137 : am_at 134 137 = some (.iaload, 138) := am_kq134 76 _ _ _ rfl
theorem k134_138 : am_at 134 138 = some (.putfield 581, 141) := am_kq134 77 _ _ _ rfl
theorem k134_141 : am_at 134 141 = some (.aload 0, 142) := am_kq134 78 _ _ _ rfl
theorem k134_142 : am_at 134 142 = some (.getfield 261, 145) := am_kq134 79 _ _ _ rfl
theorem k134_145 : am_at 134 145 = some (.iload 1, 146) := am_kq134 80 _ _ _ rfl
theorem k134_146 : am_at 134 146 = some (.dup2, 147) := am_kq134 81 _ _ _ rfl
theorem k134_147 : am_at 134 147 = some (.iaload, 148) := am_kq134 82 _ _ _ rfl
theorem k134_148 : am_at 134 148 = some (.bipush 1, 149) := am_kq134 83 _ _ _ rfl
theorem k134_149 : am_at 134 149 = some (.iadd, 150) := am_kq134 84 _ _ _ rfl
theorem k134_150 : am_at 134 150 = some (.iastore, 151) := am_kq134 85 _ _ _ rfl
theorem k134_151 : am_at 134 151 = some (.aload 7, 153) := am_kq134 86 _ _ _ rfl
theorem k134_153 : am_at 134 153 = some (.areturn, 154) := am_kq134 87 _ _ _ rfl
set_option maxRecDepth 20000 in
theorem am_kq135 (i pc : Nat) (x : Instr) (nx : Nat) (hi : am_t135[i]? = some (pc, x, nx)) : am_at 135 pc = some (x, nx) := am_kB 135 am_t135 rfl (by decide +kernel) i pc x nx hi
theorem k135_0 : am_at 135 0 = some (.bipush 0, 1) := am_kq135 0 _ _ _ rfl
theorem k135_1 : am_at 135 1 = some (.istore 4, 3) := am_kq135 1 _ _ _ rfl
theorem k135_3 : am_at 135 3 = some (.iload 4, 5) := am_kq135 2 _ _ _ rfl
theorem k135_5 : am_at 135 5 = some (.bipush 16, 7) := am_kq135 3 _ _ _ rfl
theorem k135_7 : am_at 135 7 = some (.if_icmp .ge 54, 10) := am_kq135 4 _ _ _ rfl
theorem k135_10 : am_at 135 10 = some (.aload 0, 11) := am_kq135 5 _ _ _ rfl
theorem k135_11 : am_at 135 11 = some (.getfield 258, 14) := am_kq135 6 _ _ _ rfl
theorem k135_14 : am_at 135 14 = some (.iload 4, 16) := am_kq135 7 _ _ _ rfl
theorem k135_16 : am_at 135 16 = some (.iload 1, 17) := am_kq135 8 _ _ _ rfl
theorem k135_17 : am_at 135 17 = some (.invokestatic 161, 20) := am_kq135 9 _ _ _ rfl
theorem k135_20 : am_at 135 20 = some (.ifCond .eq 48, 23) := am_kq135 10 _ _ _ rfl
theorem k135_23 : am_at 135 23 = some (.aload 0, 24) := am_kq135 11 _ _ _ rfl
theorem k135_24 : am_at 135 24 = some (.getfield 258, 27) := am_kq135 12 _ _ _ rfl
theorem k135_27 : am_at 135 27 = some (.iload 4, 29) := am_kq135 13 _ _ _ rfl
theorem k135_29 : am_at 135 29 = some (.invokestatic 165, 32) := am_kq135 14 _ _ _ rfl
theorem k135_32 : am_at 135 32 = some (.ifCond .eq 48, 35) := am_kq135 15 _ _ _ rfl
theorem k135_35 : am_at 135 35 = some (.aload 0, 36) := am_kq135 16 _ _ _ rfl
theorem k135_36 : am_at 135 36 = some (.iload 4, 38) := am_kq135 17 _ _ _ rfl
theorem k135_38 : am_at 135 38 = some (.iload 2, 39) := am_kq135 18 _ _ _ rfl
theorem k135_39 : am_at 135 39 = some (.iload 3, 40) := am_kq135 19 _ _ _ rfl
theorem k135_40 : am_at 135 40 = some (.invokestatic 139, 43) := am_kq135 20 _ _ _ rfl
theorem k135_43 : am_at 135 43 = some (.ifCond .lt 48, 46) := am_kq135 21 _ _ _ rfl
theorem k135_46 : am_at 135 46 = some (.bipush 1, 47) := am_kq135 22 _ _ _ rfl
theorem k135_47 : am_at 135 47 = some (.ireturn, 48) := am_kq135 23 _ _ _ rfl
theorem k135_48 : am_at 135 48 = some (.iinc 4 1, 51) := am_kq135 24 _ _ _ rfl
theorem k135_51 : am_at 135 51 = some (.goto 3, 54) := am_kq135 25 _ _ _ rfl
theorem k135_54 : am_at 135 54 = some (.bipush 0, 55) := am_kq135 26 _ _ _ rfl
theorem k135_55 : am_at 135 55 = some (.ireturn, 56) := am_kq135 27 _ _ _ rfl
set_option maxRecDepth 20000 in
theorem am_kq136 (i pc : Nat) (x : Instr) (nx : Nat) (hi : am_t136[i]? = some (pc, x, nx)) : am_at 136 pc = some (x, nx) := am_kB 136 am_t136 rfl (by decide +kernel) i pc x nx hi
theorem k136_0 : am_at 136 0 = some (.aload 0, 1) := am_kq136 0 _ _ _ rfl
theorem k136_1 : am_at 136 1 = some (.dup, 2) := am_kq136 1 _ _ _ rfl
theorem k136_2 : am_at 136 2 = some (.getfield 263, 5) := am_kq136 2 _ _ _ rfl
theorem k136_5 : am_at 136 5 = some (.bipush 1, 6) := am_kq136 3 _ _ _ rfl
theorem k136_6 : am_at 136 6 = some (.iadd, 7) := am_kq136 4 _ _ _ rfl
theorem k136_7 : am_at 136 7 = some (.putfield 263, 10) := am_kq136 5 _ _ _ rfl
theorem k136_10 : am_at 136 10 = some (.bipush 0, 11) := am_kq136 6 _ _ _ rfl
theorem k136_11 : am_at 136 11 = some (.istore 5, 13) := am_kq136 7 _ _ _ rfl
theorem k136_13 : am_at 136 13 = some (.iload 5, 15) := am_kq136 8 _ _ _ rfl
theorem k136_15 : am_at 136 15 = some (.bipush 16, 17) := am_kq136 9 _ _ _ rfl
theorem k136_17 : am_at 136 17 = some (.if_icmp .ge 58, 20) := am_kq136 10 _ _ _ rfl
theorem k136_20 : am_at 136 20 = some (.aload 0, 21) := am_kq136 11 _ _ _ rfl
theorem k136_21 : am_at 136 21 = some (.getfield 262, 24) := am_kq136 12 _ _ _ rfl
theorem k136_24 : am_at 136 24 = some (.iload 5, 26) := am_kq136 13 _ _ _ rfl
theorem k136_26 : am_at 136 26 = some (.aload 0, 27) := am_kq136 14 _ _ _ rfl
theorem k136_27 : am_at 136 27 = some (.getfield 258, 30) := am_kq136 15 _ _ _ rfl
theorem k136_30 : am_at 136 30 = some (.iload 5, 32) := am_kq136 16 _ _ _ rfl
theorem k136_32 : am_at 136 32 = some (.iload 1, 33) := am_kq136 17 _ _ _ rfl
theorem k136_33 : am_at 136 33 = some (.invokestatic 161, 36) := am_kq136 18 _ _ _ rfl
theorem k136_36 : am_at 136 36 = some (.ifCond .eq 50, 39) := am_kq136 19 _ _ _ rfl
theorem k136_39 : am_at 136 39 = some (.aload 0, 40) := am_kq136 20 _ _ _ rfl
theorem k136_40 : am_at 136 40 = some (.iload 5, 42) := am_kq136 21 _ _ _ rfl
theorem k136_42 : am_at 136 42 = some (.iload 2, 43) := am_kq136 22 _ _ _ rfl
theorem k136_43 : am_at 136 43 = some (.iload 3, 44) := am_kq136 23 _ _ _ rfl
theorem k136_44 : am_at 136 44 = some (.invokestatic 139, 47) := am_kq136 24 _ _ _ rfl
theorem k136_47 : am_at 136 47 = some (.goto 51, 50) := am_kq136 25 _ _ _ rfl
theorem k136_50 : am_at 136 50 = some (.bipush (-1), 51) := am_kq136 26 _ _ _ rfl
theorem k136_51 : am_at 136 51 = some (.iastore, 52) := am_kq136 27 _ _ _ rfl
theorem k136_52 : am_at 136 52 = some (.iinc 5 1, 55) := am_kq136 28 _ _ _ rfl
theorem k136_55 : am_at 136 55 = some (.goto 13, 58) := am_kq136 29 _ _ _ rfl
theorem k136_58 : am_at 136 58 = some (.aload 4, 60) := am_kq136 30 _ _ _ rfl
theorem k136_60 : am_at 136 60 = some (.bipush 0, 61) := am_kq136 31 _ _ _ rfl
theorem k136_61 : am_at 136 61 = some (.putfield 577, 64) := am_kq136 32 _ _ _ rfl
theorem k136_64 : am_at 136 64 = some (.aload 0, 65) := am_kq136 33 _ _ _ rfl
theorem k136_65 : am_at 136 65 = some (.bipush 3, 66) := am_kq136 34 _ _ _ rfl
theorem k136_66 : am_at 136 66 = some (.aload 4, 68) := am_kq136 35 _ _ _ rfl
theorem k136_68 : am_at 136 68 = some (.invokestatic 137, 71) := am_kq136 36 _ _ _ rfl
theorem k136_71 : am_at 136 71 = some (.aload 4, 73) := am_kq136 37 _ _ _ rfl
theorem k136_73 : am_at 136 73 = some (.aload 4, 75) := am_kq136 38 _ _ _ rfl
theorem k136_75 : am_at 136 75 = some (.getfield 577, 78) := am_kq136 39 _ _ _ rfl
theorem k136_78 : am_at 136 78 = some (.putfield 578, 81) := am_kq136 40 _ _ _ rfl
theorem k136_81 : am_at 136 81 = some (.aload 0, 82) := am_kq136 41 _ _ _ rfl
theorem k136_82 : am_at 136 82 = some (.bipush 1, 83) := am_kq136 42 _ _ _ rfl
theorem k136_83 : am_at 136 83 = some (.aload 4, 85) := am_kq136 43 _ _ _ rfl
theorem k136_85 : am_at 136 85 = some (.invokestatic 137, 88) := am_kq136 44 _ _ _ rfl
theorem k136_88 : am_at 136 88 = some (.aload 4, 90) := am_kq136 45 _ _ _ rfl
theorem k136_90 : am_at 136 90 = some (.aload 4, 92) := am_kq136 46 _ _ _ rfl
theorem k136_92 : am_at 136 92 = some (.getfield 577, 95) := am_kq136 47 _ _ _ rfl
theorem k136_95 : am_at 136 95 = some (.putfield 579, 98) := am_kq136 48 _ _ _ rfl
theorem k136_98 : am_at 136 98 = some (.aload 0, 99) := am_kq136 49 _ _ _ rfl
theorem k136_99 : am_at 136 99 = some (.bipush 0, 100) := am_kq136 50 _ _ _ rfl
theorem k136_100 : am_at 136 100 = some (.aload 4, 102) := am_kq136 51 _ _ _ rfl
theorem k136_102 : am_at 136 102 = some (.invokestatic 137, 105) := am_kq136 52 _ _ _ rfl
theorem k136_105 : am_at 136 105 = some (.aload 4, 107) := am_kq136 53 _ _ _ rfl
theorem k136_107 : am_at 136 107 = some (.aload 4, 109) := am_kq136 54 _ _ _ rfl
theorem k136_109 : am_at 136 109 = some (.getfield 577, 112) := am_kq136 55 _ _ _ rfl
theorem k136_112 : am_at 136 112 = some (.putfield 580, 115) := am_kq136 56 _ _ _ rfl
theorem k136_115 : am_at 136 115 = some (.aload 0, 116) := am_kq136 57 _ _ _ rfl
theorem k136_116 : am_at 136 116 = some (.bipush 2, 117) := am_kq136 58 _ _ _ rfl
theorem k136_117 : am_at 136 117 = some (.aload 4, 119) := am_kq136 59 _ _ _ rfl
theorem k136_119 : am_at 136 119 = some (.invokestatic 137, 122) := am_kq136 60 _ _ _ rfl
theorem k136_122 : am_at 136 122 = some (.return_, 123) := am_kq136 61 _ _ _ rfl
set_option maxRecDepth 20000 in
theorem am_kq137 (i pc : Nat) (x : Instr) (nx : Nat) (hi : am_t137[i]? = some (pc, x, nx)) : am_at 137 pc = some (x, nx) := am_kB 137 am_t137 rfl (by decide +kernel) i pc x nx hi
theorem k137_0 : am_at 137 0 = some (.aload 2, 1) := am_kq137 0 _ _ _ rfl
theorem k137_1 : am_at 137 1 = some (.getfield 577, 4) := am_kq137 1 _ _ _ rfl
theorem k137_4 : am_at 137 4 = some (.istore 3, 5) := am_kq137 2 _ _ _ rfl
theorem k137_5 : am_at 137 5 = some (.bipush 0, 6) := am_kq137 3 _ _ _ rfl
theorem k137_6 : am_at 137 6 = some (.istore 4, 8) := am_kq137 4 _ _ _ rfl
theorem k137_8 : am_at 137 8 = some (.iload 4, 10) := am_kq137 5 _ _ _ rfl
theorem k137_10 : am_at 137 10 = some (.bipush 16, 12) := am_kq137 6 _ _ _ rfl
theorem k137_12 : am_at 137 12 = some (.if_icmp .ge 68, 15) := am_kq137 7 _ _ _ rfl
theorem k137_15 : am_at 137 15 = some (.aload 0, 16) := am_kq137 8 _ _ _ rfl
theorem k137_16 : am_at 137 16 = some (.getfield 262, 19) := am_kq137 9 _ _ _ rfl
theorem k137_19 : am_at 137 19 = some (.iload 4, 21) := am_kq137 10 _ _ _ rfl
theorem k137_21 : am_at 137 21 = some (.iaload, 22) := am_kq137 11 _ _ _ rfl
theorem k137_22 : am_at 137 22 = some (.ifCond .lt 62, 25) := am_kq137 12 _ _ _ rfl
theorem k137_25 : am_at 137 25 = some (.aload 0, 26) := am_kq137 13 _ _ _ rfl
theorem k137_26 : am_at 137 26 = some (.getfield 258, 29) := am_kq137 14 _ _ _ rfl
theorem k137_29 : am_at 137 29 = some (.iload 4, 31) := am_kq137 15 _ _ _ rfl
theorem k137_31 : am_at 137 31 = some (.invokestatic 162, 34) := am_kq137 16 _ _ _ rfl
theorem k137_34 : am_at 137 34 = some (.iload 1, 35) := am_kq137 17 _ _ _ rfl
theorem k137_35 : am_at 137 35 = some (.if_icmp .ne 62, 38) := am_kq137 18 _ _ _ rfl
theorem k137_38 : am_at 137 38 = some (.aload 2, 39) := am_kq137 19 _ _ _ rfl
theorem k137_39 : am_at 137 39 = some (.iload 4, 41) := am_kq137 20 _ _ _ rfl
theorem k137_41 : am_at 137 41 = some (.aload 0, 42) := am_kq137 21 _ _ _ rfl
theorem k137_42 : am_at 137 42 = some (.iload 4, 44) := am_kq137 22 _ _ _ rfl
theorem k137_44 : am_at 137 44 = some (.iload 3, 45) := am_kq137 23 _ _ _ rfl
theorem k137_45 : am_at 137 45 = some (.aload 2, 46) := am_kq137 24 _ _ _ rfl
theorem k137_46 : am_at 137 46 = some (.iload 1, 47) := am_kq137 25 _ _ _ rfl
theorem k137_47 : am_at 137 47 = some (.bipush 2, 48) := am_kq137 26 _ _ _ rfl
theorem k137_48 : am_at 137 48 = some (.if_icmp .ne 55, 51) := am_kq137 27 _ _ _ rfl
theorem k137_51 : am_at 137 51 = some (.bipush 1, 52) := am_kq137 28 _ _ _ rfl
theorem k137_52 : am_at 137 52 = some (.goto 56, 55) := am_kq137 29 _ _ _ rfl
theorem k137_55 : am_at 137 55 = some (.bipush 0, 56) := am_kq137 30 _ _ _ rfl
theorem k137_56 : am_at 137 56 = some (.invokestatic 138, 59) := am_kq137 31 _ _ _ rfl
theorem k137_59 : am_at 137 59 = some (.invokestatic 107, 62) := am_kq137 32 _ _ _ rfl
theorem k137_62 : am_at 137 62 = some (.iinc 4 1, 65) := am_kq137 33 _ _ _ rfl
theorem k137_65 : am_at 137 65 = some (.goto 8, 68) := am_kq137 34 _ _ _ rfl
theorem k137_68 : am_at 137 68 = some (.return_, 69) := am_kq137 35 _ _ _ rfl
set_option maxRecDepth 20000 in
theorem am_kq138 (i pc : Nat) (x : Instr) (nx : Nat) (hi : am_t138[i]? = some (pc, x, nx)) : am_at 138 pc = some (x, nx) := am_kB 138 am_t138 rfl (by decide +kernel) i pc x nx hi
theorem k138_0 : am_at 138 0 = some (.iload 2, 1) := am_kq138 0 _ _ _ rfl
theorem k138_1 : am_at 138 1 = some (.istore 5, 3) := am_kq138 1 _ _ _ rfl
theorem k138_3 : am_at 138 3 = some (.iload 5, 5) := am_kq138 2 _ _ _ rfl
theorem k138_5 : am_at 138 5 = some (.aload 3, 6) := am_kq138 3 _ _ _ rfl
theorem k138_6 : am_at 138 6 = some (.getfield 577, 9) := am_kq138 4 _ _ _ rfl
theorem k138_9 : am_at 138 9 = some (.if_icmp .ge 49, 12) := am_kq138 5 _ _ _ rfl
theorem k138_12 : am_at 138 12 = some (.aload 0, 13) := am_kq138 6 _ _ _ rfl
theorem k138_13 : am_at 138 13 = some (.getfield 262, 16) := am_kq138 7 _ _ _ rfl
theorem k138_16 : am_at 138 16 = some (.aload 3, 17) := am_kq138 8 _ _ _ rfl
theorem k138_17 : am_at 138 17 = some (.getfield 576, 20) := am_kq138 9 _ _ _ rfl
theorem k138_20 : am_at 138 20 = some (.iload 5, 22) := am_kq138 10 _ _ _ rfl
theorem k138_22 : am_at 138 22 = some (.iaload, 23) := am_kq138 11 _ _ _ rfl
theorem k138_23 : am_at 138 23 = some (.iaload, 24) := am_kq138 12 _ _ _ rfl
theorem k138_24 : am_at 138 24 = some (.aload 0, 25) := am_kq138 13 _ _ _ rfl
theorem k138_25 : am_at 138 25 = some (.getfield 262, 28) := am_kq138 14 _ _ _ rfl
theorem k138_28 : am_at 138 28 = some (.iload 1, 29) := am_kq138 15 _ _ _ rfl
theorem k138_29 : am_at 138 29 = some (.iaload, 30) := am_kq138 16 _ _ _ rfl
theorem k138_30 : am_at 138 30 = some (.if_icmp .ge 37, 33) := am_kq138 17 _ _ _ rfl
theorem k138_33 : am_at 138 33 = some (.bipush 1, 34) := am_kq138 18 _ _ _ rfl
theorem k138_34 : am_at 138 34 = some (.goto 38, 37) := am_kq138 19 _ _ _ rfl
theorem k138_37 : am_at 138 37 = some (.bipush 0, 38) := am_kq138 20 _ _ _ rfl
theorem k138_38 : am_at 138 38 = some (.iload 4, 40) := am_kq138 21 _ _ _ rfl
theorem k138_40 : am_at 138 40 = some (.if_icmp .eq 49, 43) := am_kq138 22 _ _ _ rfl
theorem k138_43 : am_at 138 43 = some (.iinc 5 1, 46) := am_kq138 23 _ _ _ rfl
theorem k138_46 : am_at 138 46 = some (.goto 3, 49) := am_kq138 24 _ _ _ rfl
theorem k138_49 : am_at 138 49 = some (.iload 5, 51) := am_kq138 25 _ _ _ rfl
theorem k138_51 : am_at 138 51 = some (.ireturn, 52) := am_kq138 26 _ _ _ rfl
set_option maxRecDepth 20000 in
theorem am_kq139 (i pc : Nat) (x : Instr) (nx : Nat) (hi : am_t139[i]? = some (pc, x, nx)) : am_at 139 pc = some (x, nx) := am_kB 139 am_t139 rfl (by decide +kernel) i pc x nx hi
theorem k139_0 : am_at 139 0 = some (.aload 0, 1) := am_kq139 0 _ _ _ rfl
theorem k139_1 : am_at 139 1 = some (.aload 0, 2) := am_kq139 1 _ _ _ rfl
theorem k139_2 : am_at 139 2 = some (.getfield 258, 5) := am_kq139 2 _ _ _ rfl
theorem k139_5 : am_at 139 5 = some (.iload 1, 6) := am_kq139 3 _ _ _ rfl
theorem k139_6 : am_at 139 6 = some (.invokestatic 163, 9) := am_kq139 4 _ _ _ rfl
theorem k139_9 : am_at 139 9 = some (.iload 2, 10) := am_kq139 5 _ _ _ rfl
theorem k139_10 : am_at 139 10 = some (.invokestatic 140, 13) := am_kq139 6 _ _ _ rfl
theorem k139_13 : am_at 139 13 = some (.istore 4, 15) := am_kq139 7 _ _ _ rfl
theorem k139_15 : am_at 139 15 = some (.iload 4, 17) := am_kq139 8 _ _ _ rfl
theorem k139_17 : am_at 139 17 = some (.ifCond .lt 32, 20) := am_kq139 9 _ _ _ rfl
theorem k139_20 : am_at 139 20 = some (.aload 0, 21) := am_kq139 10 _ _ _ rfl
theorem k139_21 : am_at 139 21 = some (.getfield 258, 24) := am_kq139 11 _ _ _ rfl
theorem k139_24 : am_at 139 24 = some (.iload 1, 25) := am_kq139 12 _ _ _ rfl
theorem k139_25 : am_at 139 25 = some (.invokestatic 164, 28) := am_kq139 13 _ _ _ rfl
theorem k139_28 : am_at 139 28 = some (.bipush (-1), 29) := am_kq139 14 _ _ _ rfl
theorem k139_29 : am_at 139 29 = some (.if_icmp .ne 35, 32) := am_kq139 15 _ _ _ rfl
theorem k139_32 : am_at 139 32 = some (.iload 4, 34) := am_kq139 16 _ _ _ rfl
theorem k139_34 : am_at 139 34 = some (.ireturn, 35) := am_kq139 17 _ _ _ rfl
theorem k139_35 : am_at 139 35 = some (.aload 0, 36) := am_kq139 18 _ _ _ rfl
theorem k139_36 : am_at 139 36 = some (.aload 0, 37) := am_kq139 19 _ _ _ rfl
theorem k139_37 : am_at 139 37 = some (.getfield 258, 40) := am_kq139 20 _ _ _ rfl
theorem k139_40 : am_at 139 40 = some (.iload 1, 41) := am_kq139 21 _ _ _ rfl
theorem k139_41 : am_at 139 41 = some (.invokestatic 164, 44) := am_kq139 22 _ _ _ rfl
theorem k139_44 : am_at 139 44 = some (.iload 3, 45) := am_kq139 23 _ _ _ rfl
theorem k139_45 : am_at 139 45 = some (.invokestatic 140, 48) := am_kq139 24 _ _ _ rfl
theorem k139_48 : am_at 139 48 = some (.istore 5, 50) := am_kq139 25 _ _ _ rfl
theorem k139_50 : am_at 139 50 = some (.iload 5, 52) := am_kq139 26 _ _ _ rfl
theorem k139_52 : am_at 139 52 = some (.ifCond .ge 59, 55) := am_kq139 27 _ _ _ rfl
theorem k139_55 : am_at 139 55 = some (.bipush (-1), 56) := am_kq139 28 _ _ _ rfl
theorem k139_56 : am_at 139 56 = some (.goto 67, 59) := am_kq139 29 _ _ _ rfl
theorem k139_59 : am_at 139 59 = some (.iload 4, 61) := am_kq139 30 _ _ _ rfl
theorem k139_61 : am_at 139 61 = some (.bipush 13, 63) := am_kq139 31 _ _ _ rfl
theorem k139_63 : am_at 139 63 = some (.imul, 64) := am_kq139 32 _ _ _ rfl
theorem k139_64 : am_at 139 64 = some (.iload 5, 66) := am_kq139 33 _ _ _ rfl
theorem k139_66 : am_at 139 66 = some (.iadd, 67) := am_kq139 34 _ _ _ rfl
theorem k139_67 : am_at 139 67 = some (.ireturn, 68) := am_kq139 35 _ _ _ rfl
set_option maxRecDepth 20000 in
theorem am_kq140 (i pc : Nat) (x : Instr) (nx : Nat) (hi : am_t140[i]? = some (pc, x, nx)) : am_at 140 pc = some (x, nx) := am_kB 140 am_t140 rfl (by decide +kernel) i pc x nx hi
theorem k140_0 : am_at 140 0 = some (.iload 1, 1) := am_kq140 0 _ _ _ rfl
theorem k140_1 : am_at 140 1 = some (.bipush 16, 3) := am_kq140 1 _ _ _ rfl
theorem k140_3 : am_at 140 3 = some (.if_icmp .lt 20, 6) := am_kq140 2 _ _ _ rfl
theorem k140_6 : am_at 140 6 = some (.iload 1, 7) := am_kq140 3 _ _ _ rfl
theorem k140_7 : am_at 140 7 = some (.bipush 16, 9) := am_kq140 4 _ _ _ rfl
theorem k140_9 : am_at 140 9 = some (.isub, 10) := am_kq140 5 _ _ _ rfl
theorem k140_10 : am_at 140 10 = some (.iload 2, 11) := am_kq140 6 _ _ _ rfl
theorem k140_11 : am_at 140 11 = some (.if_icmp .ne 18, 14) := am_kq140 7 _ _ _ rfl
theorem k140_14 : am_at 140 14 = some (.bipush 0, 15) := am_kq140 8 _ _ _ rfl
theorem k140_15 : am_at 140 15 = some (.goto 19, 18) := am_kq140 9 _ _ _ rfl
theorem k140_18 : am_at 140 18 = some (.bipush (-1), 19) := am_kq140 10 _ _ _ rfl
theorem k140_19 : am_at 140 19 = some (.ireturn, 20) := am_kq140 11 _ _ _ rfl
theorem k140_20 : am_at 140 20 = some (.aload 0, 21) := am_kq140 12 _ _ _ rfl
theorem k140_21 : am_at 140 21 = some (.getfield 256, 24) := am_kq140 13 _ _ _ rfl
theorem k140_24 : am_at 140 24 = some (.aload 0, 25) := am_kq140 14 _ _ _ rfl
theorem k140_25 : am_at 140 25 = some (.getfield 257, 28) := am_kq140 15 _ _ _ rfl
theorem k140_28 : am_at 140 28 = some (.iload 2, 29) := am_kq140 16 _ _ _ rfl
theorem k140_29 : am_at 140 29 = some (.invokestatic 119, 32) := am_kq140 17 _ _ _ rfl
theorem k140_32 : am_at 140 32 = some (.iload 1, 33) := am_kq140 18 _ _ _ rfl
theorem k140_33 : am_at 140 33 = some (.invokestatic 99, 36) := am_kq140 19 _ _ _ rfl
theorem k140_36 : am_at 140 36 = some (.istore 3, 37) := am_kq140 20 _ _ _ rfl
theorem k140_37 : am_at 140 37 = some (.iload 3, 38) := am_kq140 21 _ _ _ rfl
theorem k140_38 : am_at 140 38 = some (.ifCond .ge 45, 41) := am_kq140 22 _ _ _ rfl
theorem k140_41 : am_at 140 41 = some (.bipush (-1), 42) := am_kq140 23 _ _ _ rfl
theorem k140_42 : am_at 140 42 = some (.goto 48, 45) := am_kq140 24 _ _ _ rfl
theorem k140_45 : am_at 140 45 = some (.iload 3, 46) := am_kq140 25 _ _ _ rfl
theorem k140_46 : am_at 140 46 = some (.bipush 1, 47) := am_kq140 26 _ _ _ rfl
theorem k140_47 : am_at 140 47 = some (.iadd, 48) := am_kq140 27 _ _ _ rfl
theorem k140_48 : am_at 140 48 = some (.ireturn, 49) := am_kq140 28 _ _ _ rfl
set_option maxRecDepth 20000 in
theorem am_kq141 (i pc : Nat) (x : Instr) (nx : Nat) (hi : am_t141[i]? = some (pc, x, nx)) : am_at 141 pc = some (x, nx) := am_kB 141 am_t141 rfl (by decide +kernel) i pc x nx hi
theorem k141_0 : am_at 141 0 = some (.aload 0, 1) := am_kq141 0 _ _ _ rfl
theorem k141_1 : am_at 141 1 = some (.monitorenter, 4) := am_kq141 1 _ _ _ rfl
theorem k141_4 : am_at 141 4 = some (.aload 0, 5) := am_kq141 2 _ _ _ rfl
theorem k141_5 : am_at 141 5 = some (.bipush 12, 7) := am_kq141 3 _ _ _ rfl
theorem k141_7 : am_at 141 7 = some (.anewarray 8, 10) := am_kq141 4 _ _ _ rfl
theorem k141_10 : am_at 141 10 = some (.putfield 454, 13) := am_kq141 5 _ _ _ rfl
theorem k141_13 : am_at 141 13 = some (.aload 0, 14) := am_kq141 6 _ _ _ rfl
theorem k141_14 : am_at 141 14 = some (.bipush 192, 17) := am_kq141 7 _ _ _ rfl
theorem k141_17 : am_at 141 17 = some (.anewarray 10, 20) := am_kq141 8 _ _ _ rfl
theorem k141_20 : am_at 141 20 = some (.putfield 455, 23) := am_kq141 9 _ _ _ rfl
theorem k141_23 : am_at 141 23 = some (.aload 0, 24) := am_kq141 10 _ _ _ rfl
theorem k141_24 : am_at 141 24 = some (.bipush 0, 25) := am_kq141 11 _ _ _ rfl
theorem k141_25 : am_at 141 25 = some (.putfield 456, 28) := am_kq141 12 _ _ _ rfl
theorem k141_28 : am_at 141 28 = some (.aload 0, 29) := am_kq141 13 _ _ _ rfl
theorem k141_29 : am_at 141 29 = some (.bipush 0, 30) := am_kq141 14 _ _ _ rfl
theorem k141_30 : am_at 141 30 = some (.putfield 457, 33) := am_kq141 15 _ _ _ rfl
theorem k141_33 : am_at 141 33 = some (.aload 0, 34) := am_kq141 16 _ _ _ rfl
theorem k141_34 : am_at 141 34 = some (.bipush 0, 35) := am_kq141 17 _ _ _ rfl
theorem k141_35 : am_at 141 35 = some (.putfield 458, 38) := am_kq141 18 _ _ _ rfl
theorem k141_38 : am_at 141 38 = some (.aload 0, 39) := am_kq141 19 _ _ _ rfl
theorem k141_39 : am_at 141 39 = some (.bipush 0, 40) := am_kq141 20 _ _ _ rfl
theorem k141_40 : am_at 141 40 = some (.putfield 459, 43) := am_kq141 21 _ _ _ rfl
theorem k141_43 : am_at 141 43 = some (.aload 0, 44) := am_kq141 22 _ _ _ rfl
theorem k141_44 : am_at 141 44 = some (.bipush 0, 45) := am_kq141 23 _ _ _ rfl
theorem k141_45 : am_at 141 45 = some (.putfield 460, 48) := am_kq141 24 _ _ _ rfl
theorem k141_48 : am_at 141 48 = some (.aload 0, 49) := am_kq141 25 _ _ _ rfl
theorem k141_49 : am_at 141 49 = some (.bipush (-1), 50) := am_kq141 26 _ _ _ rfl
theorem k141_50 : am_at 141 50 = some (.putfield 461, 53) := am_kq141 27 _ _ _ rfl
theorem k141_53 : am_at 141 53 = some (.aload 0, 54) := am_kq141 28 _ _ _ rfl
theorem k141_54 : am_at 141 54 = some (.bipush 0, 55) := am_kq141 29 _ _ _ rfl
theorem k141_55 : am_at 141 55 = some (.putfield 462, 58) := am_kq141 30 _ _ _ rfl
theorem k141_58 : am_at 141 58 = some (.aload 0, 59) := am_kq141 31 _ _ _ rfl
theorem k141_59 : am_at 141 59 = some (.bipush 0, 60) := am_kq141 32 _ _ _ rfl
theorem k141_60 : am_at 141 60 = some (.putfield 463, 63) := am_kq141 33 _ _ _ rfl
theorem k141_63 : am_at 141 63 = some (.aload 0, 64) := am_kq141 34 _ _ _ rfl
theorem k141_64 : am_at 141 64 = some (.bipush 0, 65) := am_kq141 35 _ _ _ rfl
theorem k141_65 : am_at 141 65 = some (.putfield 464, 68) := am_kq141 36 _ _ _ rfl
theorem k141_68 : am_at 141 68 = some (.aload 0, 69) := am_kq141 37 _ _ _ rfl
theorem k141_69 : am_at 141 69 = some (.bipush 0, 70) := am_kq141 38 _ _ _ rfl
theorem k141_70 : am_at 141 70 = some (.putfield 465, 73) := am_kq141 39 _ _ _ rfl
theorem k141_73 : am_at 141 73 = some (.aload 0, 74) := am_kq141 40 _ _ _ rfl
theorem k141_74 : am_at 141 74 = some (.aload 1, 75) := am_kq141 41 _ _ _ rfl
theorem k141_75 : am_at 141 75 = some (.putfield 448, 78) := am_kq141 42 _ _ _ rfl
theorem k141_78 : am_at 141 78 = some (.aload 0, 79) := am_kq141 43 _ _ _ rfl
theorem k141_79 : am_at 141 79 = some (.aload 2, 80) := am_kq141 44 _ _ _ rfl
theorem k141_80 : am_at 141 80 = some (.putfield 449, 83) := am_kq141 45 _ _ _ rfl
theorem k141_83 : am_at 141 83 = some (.aload 0, 84) := am_kq141 46 _ _ _ rfl
theorem k141_84 : am_at 141 84 = some (.aload 3, 85) := am_kq141 47 _ _ _ rfl
theorem k141_85 : am_at 141 85 = some (.putfield 450, 88) := am_kq141 48 _ _ _ rfl
theorem k141_88 : am_at 141 88 = some (.aload 0, 89) := am_kq141 49 _ _ _ rfl
theorem k141_89 : am_at 141 89 = some (.aload 4, 91) := am_kq141 50 _ _ _ rfl
theorem k141_91 : am_at 141 91 = some (.putfield 451, 94) := am_kq141 51 _ _ _ rfl
theorem k141_94 : am_at 141 94 = some (.aload 0, 95) := am_kq141 52 _ _ _ rfl
theorem k141_95 : am_at 141 95 = some (.aload 5, 97) := am_kq141 53 _ _ _ rfl
theorem k141_97 : am_at 141 97 = some (.putfield 452, 100) := am_kq141 54 _ _ _ rfl
theorem k141_100 : am_at 141 100 = some (.aload 0, 101) := am_kq141 55 _ _ _ rfl
theorem k141_101 : am_at 141 101 = some (.aload 6, 103) := am_kq141 56 _ _ _ rfl
theorem k141_103 : am_at 141 103 = some (.putfield 453, 106) := am_kq141 57 _ _ _ rfl
theorem k141_106 : am_at 141 106 = some (.return_, 107) := am_kq141 58 _ _ _ rfl
set_option maxRecDepth 20000 in
theorem am_kq142 (i pc : Nat) (x : Instr) (nx : Nat) (hi : am_t142[i]? = some (pc, x, nx)) : am_at 142 pc = some (x, nx) := am_kB 142 am_t142 rfl (by decide +kernel) i pc x nx hi
theorem k142_0 : am_at 142 0 = some (.aload 0, 1) := am_kq142 0 _ _ _ rfl
theorem k142_1 : am_at 142 1 = some (.getfield 464, 4) := am_kq142 1 _ _ _ rfl
theorem k142_4 : am_at 142 4 = some (.ireturn, 5) := am_kq142 2 _ _ _ rfl
set_option maxRecDepth 20000 in
theorem am_kq143 (i pc : Nat) (x : Instr) (nx : Nat) (hi : am_t143[i]? = some (pc, x, nx)) : am_at 143 pc = some (x, nx) := am_kB 143 am_t143 rfl (by decide +kernel) i pc x nx hi
theorem k143_0 : am_at 143 0 = some (.aload 0, 1) := am_kq143 0 _ _ _ rfl
theorem k143_1 : am_at 143 1 = some (.getfield 465, 4) := am_kq143 1 _ _ _ rfl
theorem k143_4 : am_at 143 4 = some (.ireturn, 5) := am_kq143 2 _ _ _ rfl
set_option maxRecDepth 20000 in
theorem am_kq144 (i pc : Nat) (x : Instr) (nx : Nat) (hi : am_t144[i]? = some (pc, x, nx)) : am_at 144 pc = some (x, nx) := am_kB 144 am_t144 rfl (by decide +kernel) i pc x nx hi
theorem k144_0 : am_at 144 0 = some (.aload 0, 1) := am_kq144 0 _ _ _ rfl
theorem k144_1 : am_at 144 1 = some (.bipush 0, 2) := am_kq144 1 _ _ _ rfl
theorem k144_2 : am_at 144 2 = some (.putfield 456, 5) := am_kq144 2 _ _ _ rfl
theorem k144_5 : am_at 144 5 = some (.aload 0, 6) := am_kq144 3 _ _ _ rfl
theorem k144_6 : am_at 144 6 = some (.bipush 0, 7) := am_kq144 4 _ _ _ rfl
theorem k144_7 : am_at 144 7 = some (.putfield 457, 10) := am_kq144 5 _ _ _ rfl
theorem k144_10 : am_at 144 10 = some (.aload 0, 11) := am_kq144 6 _ _ _ rfl
theorem k144_11 : am_at 144 11 = some (.bipush 0, 12) := am_kq144 7 _ _ _ rfl
theorem k144_12 : am_at 144 12 = some (.putfield 458, 15) := am_kq144 8 _ _ _ rfl
theorem k144_15 : am_at 144 15 = some (.aload 0, 16) := am_kq144 9 _ _ _ rfl
theorem k144_16 : am_at 144 16 = some (.bipush 0, 17) := am_kq144 10 _ _ _ rfl
theorem k144_17 : am_at 144 17 = some (.putfield 459, 20) := am_kq144 11 _ _ _ rfl
theorem k144_20 : am_at 144 20 = some (.aload 0, 21) := am_kq144 12 _ _ _ rfl
theorem k144_21 : am_at 144 21 = some (.iload 1, 22) := am_kq144 13 _ _ _ rfl
theorem k144_22 : am_at 144 22 = some (.iload 2, 23) := am_kq144 14 _ _ _ rfl
theorem k144_23 : am_at 144 23 = some (.iload 3, 24) := am_kq144 15 _ _ _ rfl
theorem k144_24 : am_at 144 24 = some (.invokestatic 146, 27) := am_kq144 16 _ _ _ rfl
theorem k144_27 : am_at 144 27 = some (.bipush 0, 28) := am_kq144 17 _ _ _ rfl
theorem k144_28 : am_at 144 28 = some (.istore 4, 30) := am_kq144 18 _ _ _ rfl
theorem k144_30 : am_at 144 30 = some (.iload 4, 32) := am_kq144 19 _ _ _ rfl
theorem k144_32 : am_at 144 32 = some (.bipush 1000000, 34) := am_kq144 20 _ _ _ rfl
theorem k144_34 : am_at 144 34 = some (.if_icmp .ge 82, 37) := am_kq144 21 _ _ _ rfl
theorem k144_37 : am_at 144 37 = some (.aload 0, 38) := am_kq144 22 _ _ _ rfl
theorem k144_38 : am_at 144 38 = some (.getfield 459, 41) := am_kq144 23 _ _ _ rfl
theorem k144_41 : am_at 144 41 = some (.ifCond .ne 82, 44) := am_kq144 24 _ _ _ rfl
theorem k144_44 : am_at 144 44 = some (.aload 0, 45) := am_kq144 25 _ _ _ rfl
theorem k144_45 : am_at 144 45 = some (.invokestatic 145, 48) := am_kq144 26 _ _ _ rfl
theorem k144_48 : am_at 144 48 = some (.astore 5, 50) := am_kq144 27 _ _ _ rfl
theorem k144_50 : am_at 144 50 = some (.aload 0, 51) := am_kq144 28 _ _ _ rfl
theorem k144_51 : am_at 144 51 = some (.getfield 461, 54) := am_kq144 29 _ _ _ rfl
theorem k144_54 : am_at 144 54 = some (.bipush (-1), 55) := am_kq144 30 _ _ _ rfl
theorem k144_55 : am_at 144 55 = some (.if_icmp .eq 65, 58) := am_kq144 31 _ _ _ rfl
theorem k144_58 : am_at 144 58 = some (.aload 0, 59) := am_kq144 32 _ _ _ rfl
theorem k144_59 : am_at 144 59 = some (.invokestatic 147, 62) := am_kq144 33 _ _ _ rfl
theorem k144_62 : am_at 144 62 = some (.goto 76, 65) := am_kq144 34 _ _ _ rfl
theorem k144_65 : am_at 144 65 = some (.aload 5, 67) := am_kq144 35 _ _ _ rfl
theorem k144_67 : am_at 144 67 = some (.ifnull 82, 70) := am_kq144 36 _ _ _ rfl
theorem k144_70 : am_at 144 70 = some (.aload 0, 71) := am_kq144 37 _ _ _ rfl
theorem k144_71 : am_at 144 71 = some (.aload 5, 73) := am_kq144 38 _ _ _ rfl
theorem k144_73 : am_at 144 73 = some (.invokestatic 149, 76) := am_kq144 39 _ _ _ rfl
theorem k144_76 : am_at 144 76 = some (.iinc 4 1, 79) := am_kq144 40 _ _ _ rfl
theorem k144_79 : am_at 144 79 = some (.goto 30, 82) := am_kq144 41 _ _ _ rfl
theorem k144_82 : am_at 144 82 = some (.aload 0, 83) := am_kq144 42 _ _ _ rfl
theorem k144_83 : am_at 144 83 = some (.getfield 459, 86) := am_kq144 43 _ _ _ rfl
theorem k144_86 : am_at 144 86 = some (.ifCond .eq 101, 89) := am_kq144 44 _ _ _ rfl
theorem k144_89 : am_at 144 89 = some (.sipush 1099511627776, 92) := am_kq144 45 _ _ _ rfl
theorem k144_92 : am_at 144 92 = some (.aload 0, 93) := am_kq144 46 _ _ _ rfl
theorem k144_93 : am_at 144 93 = some (.getfield 459, 96) := am_kq144 47 _ _ _ rfl
theorem k144_96 : am_at 144 96 = some (.i2l, 97) := am_kq144 48 _ _ _ rfl
theorem k144_97 : am_at 144 97 = some (.ladd, 98) := am_kq144 49 _ _ _ rfl
theorem k144_98 : am_at 144 98 = some (.goto 106, 101) := am_kq144 50 _ _ _ rfl
theorem k144_101 : am_at 144 101 = some (.aload 0, 102) := am_kq144 51 _ _ _ rfl
theorem k144_102 : am_at 144 102 = some (.getfield 460, 105) := am_kq144 52 _ _ _ rfl
theorem k144_105 : am_at 144 105 = some (.i2l, 106) := am_kq144 53 _ _ _ rfl
theorem k144_106 : am_at 144 106 = some (.lreturn, 107) := am_kq144 54 _ _ _ rfl
set_option maxRecDepth 20000 in
theorem am_kq145 (i pc : Nat) (x : Instr) (nx : Nat) (hi : am_t145[i]? = some (pc, x, nx)) : am_at 145 pc = some (x, nx) := am_kB 145 am_t145 rfl (by decide +kernel) i pc x nx hi
theorem k145_0 : am_at 145 0 = some (.aload 0, 1) := am_kq145 0 _ _ _ rfl
theorem k145_1 : am_at 145 1 = some (.getfield 457, 4) := am_kq145 1 _ _ _ rfl
theorem k145_4 : am_at 145 4 = some (.ifCond .le 21, 7) := am_kq145 2 _ _ _ rfl
theorem k145_7 : am_at 145 7 = some (.aload 0, 8) := am_kq145 3 _ _ _ rfl
theorem k145_8 : am_at 145 8 = some (.getfield 455, 11) := am_kq145 4 _ _ _ rfl
theorem k145_11 : am_at 145 11 = some (.aload 0, 12) := am_kq145 5 _ _ _ rfl
theorem k145_12 : am_at 145 12 = some (.getfield 457, 15) := am_kq145 6 _ _ _ rfl
theorem k145_15 : am_at 145 15 = some (.bipush 1, 16) := am_kq145 7 _ _ _ rfl
theorem k145_16 : am_at 145 16 = some (.isub, 17) := am_kq145 8 _ _ _ rfl
theorem k145_17 : am_at 145 17 = some (.aaload, 18) := am_kq145 9 _ _ _ rfl
theorem k145_18 : am_at 145 18 = some (.goto 22, 21) := am_kq145 10 _ _ _ rfl
theorem k145_21 : am_at 145 21 = some (.aconst_null, 22) := am_kq145 11 _ _ _ rfl
theorem k145_22 : am_at 145 22 = some (.areturn, 23) := am_kq145 12 _ _ _ rfl
set_option maxRecDepth 20000 in
theorem am_kq146 (i pc : Nat) (x : Instr) (nx : Nat) (hi : am_t146[i]? = some (pc, x, nx)) : am_at 146 pc = some (x, nx) := am_kB 146 am_t146 rfl (by decide +kernel) i pc x nx hi
theorem k146_0 : am_at 146 0 = some (.aload 0, 1) := am_kq146 0 _ _ _ rfl
theorem k146_1 : am_at 146 1 = some (.iload 1, 2) := am_kq146 1 _ _ _ rfl
theorem k146_2 : am_at 146 2 = some (.putfield 461, 5) := am_kq146 2 _ _ _ rfl
theorem k146_5 : am_at 146 5 = some (.aload 0, 6) := am_kq146 3 _ _ _ rfl
theorem k146_6 : am_at 146 6 = some (.iload 2, 7) := am_kq146 4 _ _ _ rfl
theorem k146_7 : am_at 146 7 = some (.putfield 462, 10) := am_kq146 5 _ _ _ rfl
theorem k146_10 : am_at 146 10 = some (.aload 0, 11) := am_kq146 6 _ _ _ rfl
theorem k146_11 : am_at 146 11 = some (.iload 3, 12) := am_kq146 7 _ _ _ rfl
theorem k146_12 : am_at 146 12 = some (.putfield 463, 15) := am_kq146 8 _ _ _ rfl
theorem k146_15 : am_at 146 15 = some (.return_, 16) := am_kq146 9 _ _ _ rfl
set_option maxRecDepth 20000 in
theorem am_kq147 (i pc : Nat) (x : Instr) (nx : Nat) (hi : am_t147[i]? = some (pc, x, nx)) : am_at 147 pc = some (x, nx) := am_kB 147 am_t147 rfl (by decide +kernel) i pc x nx hi
theorem k147_0 : am_at 147 0 = some (.aload 0, 1) := am_kq147 0 _ _ _ rfl
theorem k147_1 : am_at 147 1 = some (.getfield 461, 4) := am_kq147 1 _ _ _ rfl
theorem k147_4 : am_at 147 4 = some (.istore 1, 5) := am_kq147 2 _ _ _ rfl
theorem k147_5 : am_at 147 5 = some (.aload 0, 6) := am_kq147 3 _ _ _ rfl
theorem k147_6 : am_at 147 6 = some (.bipush (-1), 7) := am_kq147 4 _ _ _ rfl
theorem k147_7 : am_at 147 7 = some (.putfield 461, 10) := am_kq147 5 _ _ _ rfl
theorem k147_10 : am_at 147 10 = some (.aload 0, 11) := am_kq147 6 _ _ _ rfl
theorem k147_11 : am_at 147 11 = some (.getfield 450, 14) := am_kq147 7 _ _ _ rfl
theorem k147_14 : am_at 147 14 = some (.iload 1, 15) := am_kq147 8 _ _ _ rfl
theorem k147_15 : am_at 147 15 = some (.invokestatic 159, 18) := am_kq147 9 _ _ _ rfl
theorem k147_18 : am_at 147 18 = some (.ifCond .ne 28, 21) := am_kq147 10 _ _ _ rfl
theorem k147_21 : am_at 147 21 = some (.aload 0, 22) := am_kq147 11 _ _ _ rfl
theorem k147_22 : am_at 147 22 = some (.bipush (-2), 24) := am_kq147 12 _ _ _ rfl
theorem k147_24 : am_at 147 24 = some (.putfield 459, 27) := am_kq147 13 _ _ _ rfl
theorem k147_27 : am_at 147 27 = some (.return_, 28) := am_kq147 14 _ _ _ rfl
theorem k147_28 : am_at 147 28 = some (.aload 0, 29) := am_kq147 15 _ _ _ rfl
theorem k147_29 : am_at 147 29 = some (.getfield 456, 32) := am_kq147 16 _ _ _ rfl
theorem k147_32 : am_at 147 32 = some (.bipush 12, 34) := am_kq147 17 _ _ _ rfl
theorem k147_34 : am_at 147 34 = some (.if_icmp .ne 44, 37) := am_kq147 18 _ _ _ rfl
theorem k147_37 : am_at 147 37 = some (.aload 0, 38) := am_kq147 19 _ _ _ rfl
theorem k147_38 : am_at 147 38 = some (.bipush (-11), 40) := am_kq147 20 _ _ _ rfl
theorem k147_40 : am_at 147 40 = some (.putfield 459, 43) := am_kq147 21 _ _ _ rfl
theorem k147_43 : am_at 147 43 = some (.return_, 44) := am_kq147 22 _ _ _ rfl
theorem k147_44 : am_at 147 44 = some (.aload 0, 45) := am_kq147 23 _ _ _ rfl
theorem k147_45 : am_at 147 45 = some (.getfield 454, 48) := am_kq147 24 _ _ _ rfl
theorem k147_48 : am_at 147 48 = some (.aload 0, 49) := am_kq147 25 _ _ _ rfl
theorem k147_49 : am_at 147 49 = some (.getfield 456, 52) := am_kq147 26 _ _ _ rfl
theorem k147_52 : am_at 147 52 = some (.aaload, 53) := am_kq147 27 _ _ _ rfl
theorem k147_53 : am_at 147 53 = some (.ifnonnull 72, 56) := am_kq147 28 _ _ _ rfl
theorem k147_56 : am_at 147 56 = some (.aload 0, 57) := am_kq147 29 _ _ _ rfl
theorem k147_57 : am_at 147 57 = some (.getfield 454, 60) := am_kq147 30 _ _ _ rfl
theorem k147_60 : am_at 147 60 = some (.aload 0, 61) := am_kq147 31 _ _ _ rfl
theorem k147_61 : am_at 147 61 = some (.getfield 456, 64) := am_kq147 32 _ _ _ rfl
theorem k147_64 : am_at 147 64 = some (.new 8, 67) := am_kq147 33 _ _ _ rfl
theorem k147_67 : am_at 147 67 = some (.dup, 68) := am_kq147 34 _ _ _ rfl
theorem k147_68 : am_at 147 68 = some (.invokestatic 176, 71) := am_kq147 35 _ _ _ rfl
theorem k147_71 : am_at 147 71 = some (.aastore, 72) := am_kq147 36 _ _ _ rfl
theorem k147_72 : am_at 147 72 = some (.aload 0, 73) := am_kq147 37 _ _ _ rfl
theorem k147_73 : am_at 147 73 = some (.getfield 454, 76) := am_kq147 38 _ _ _ rfl
theorem k147_76 : am_at 147 76 = some (.aload 0, 77) := am_kq147 39 _ _ _ rfl
theorem k147_77 : am_at 147 77 = some (.getfield 456, 80) := am_kq147 40 _ _ _ rfl
theorem k147_80 : am_at 147 80 = some (.aaload, 81) := am_kq147 41 _ _ _ rfl
theorem k147_81 : am_at 147 81 = some (.astore 2, 82) := am_kq147 42 _ _ _ rfl
theorem k147_82 : am_at 147 82 = some (.aload 2, 83) := am_kq147 43 _ _ _ rfl
theorem k147_83 : am_at 147 83 = some (.aload 0, 84) := am_kq147 44 _ _ _ rfl
theorem k147_84 : am_at 147 84 = some (.getfield 451, 87) := am_kq147 45 _ _ _ rfl
theorem k147_87 : am_at 147 87 = some (.iload 1, 88) := am_kq147 46 _ _ _ rfl
theorem k147_88 : am_at 147 88 = some (.aload 0, 89) := am_kq147 47 _ _ _ rfl
theorem k147_89 : am_at 147 89 = some (.getfield 462, 92) := am_kq147 48 _ _ _ rfl
theorem k147_92 : am_at 147 92 = some (.aload 0, 93) := am_kq147 49 _ _ _ rfl
theorem k147_93 : am_at 147 93 = some (.getfield 463, 96) := am_kq147 50 _ _ _ rfl
theorem k147_96 : am_at 147 96 = some (.aload 2, 97) := am_kq147 51 _ _ _ rfl
theorem k147_97 : am_at 147 97 = some (.getfield 512, 100) := am_kq147 52 _ _ _ rfl
theorem k147_100 : am_at 147 100 = some (.invokestatic 134, 103) := am_kq147 53 _ _ _ rfl
theorem k147_103 : am_at 147 103 = some (.putfield 513, 106) := am_kq147 54 _ _ _ rfl
theorem k147_106 : am_at 147 106 = some (.aload 2, 107) := am_kq147 55 _ _ _ rfl
theorem k147_107 : am_at 147 107 = some (.getfield 513, 110) := am_kq147 56 _ _ _ rfl
theorem k147_110 : am_at 147 110 = some (.getfield 577, 113) := am_kq147 57 _ _ _ rfl
theorem k147_113 : am_at 147 113 = some (.ifCond .ne 123, 116) := am_kq147 58 _ _ _ rfl
theorem k147_116 : am_at 147 116 = some (.aload 0, 117) := am_kq147 59 _ _ _ rfl
theorem k147_117 : am_at 147 117 = some (.bipush (-8), 119) := am_kq147 60 _ _ _ rfl
theorem k147_119 : am_at 147 119 = some (.putfield 459, 122) := am_kq147 61 _ _ _ rfl
theorem k147_122 : am_at 147 122 = some (.return_, 123) := am_kq147 62 _ _ _ rfl
theorem k147_123 : am_at 147 123 = some (.aload 2, 124) := am_kq147 63 _ _ _ rfl
theorem k147_124 : am_at 147 124 = some (.getfield 513, 127) := am_kq147 64 _ _ _ rfl
theorem k147_127 : am_at 147 127 = some (.invokestatic 108, 130) := am_kq147 65 _ _ _ rfl
theorem k147_130 : am_at 147 130 = some (.ifCond .ne 140, 133) := am_kq147 66 _ _ _ rfl
theorem k147_133 : am_at 147 133 = some (.aload 0, 134) := am_kq147 67 _ _ _ rfl
theorem k147_134 : am_at 147 134 = some (.bipush (-9), 136) := am_kq147 68 _ _ _ rfl
theorem k147_136 : am_at 147 136 = some (.putfield 459, 139) := am_kq147 69 _ _ _ rfl
theorem k147_139 : am_at 147 139 = some (.return_, 140) := am_kq147 70 _ _ _ rfl
theorem k147_140 : am_at 147 140 = some (.aload 0, 141) := am_kq147 71 _ _ _ rfl
theorem k147_141 : am_at 147 141 = some (.dup, 142) := am_kq147 72 _ _ _ rfl
theorem k147_142 : am_at 147 142 = some (.getfield 456, 145) := am_kq147 73 _ _ _ rfl
theorem k147_145 : am_at 147 145 = some (.bipush 1, 146) := am_kq147 74 _ _ _ rfl
theorem k147_146 : am_at 147 146 = some (.iadd, 147) := am_kq147 75 _ _ _ rfl
theorem k147_147 : am_at 147 147 = some (.putfield 456, 150) := am_kq147 76 _ _ _ rfl
theorem k147_150 : am_at 147 150 = some (.aload 2, 151) := am_kq147 77 _ _ _ rfl
theorem k147_151 : am_at 147 151 = some (.aload 0, 152) := am_kq147 78 _ _ _ rfl
theorem k147_152 : am_at 147 152 = some (.getfield 450, 155) := am_kq147 79 _ _ _ rfl
theorem k147_155 : am_at 147 155 = some (.iload 1, 156) := am_kq147 80 _ _ _ rfl
theorem k147_156 : am_at 147 156 = some (.invokestatic 159, 159) := am_kq147 81 _ _ _ rfl
theorem k147_159 : am_at 147 159 = some (.putfield 514, 162) := am_kq147 82 _ _ _ rfl
theorem k147_162 : am_at 147 162 = some (.aload 2, 163) := am_kq147 83 _ _ _ rfl
theorem k147_163 : am_at 147 163 = some (.aload 0, 164) := am_kq147 84 _ _ _ rfl
theorem k147_164 : am_at 147 164 = some (.getfield 462, 167) := am_kq147 85 _ _ _ rfl
theorem k147_167 : am_at 147 167 = some (.putfield 515, 170) := am_kq147 86 _ _ _ rfl
theorem k147_170 : am_at 147 170 = some (.aload 2, 171) := am_kq147 87 _ _ _ rfl
theorem k147_171 : am_at 147 171 = some (.aload 0, 172) := am_kq147 88 _ _ _ rfl
theorem k147_172 : am_at 147 172 = some (.getfield 463, 175) := am_kq147 89 _ _ _ rfl
theorem k147_175 : am_at 147 175 = some (.putfield 516, 178) := am_kq147 90 _ _ _ rfl
theorem k147_178 : am_at 147 178 = some (.aload 2, 179) := am_kq147 91 _ _ _ rfl
theorem k147_179 : am_at 147 179 = some (.aload 0, 180) := am_kq147 92 _ _ _ rfl
theorem k147_180 : am_at 147 180 = some (.getfield 457, 183) := am_kq147 93 _ _ _ rfl
theorem k147_183 : am_at 147 183 = some (.putfield 517, 186) := am_kq147 94 _ _ _ rfl
theorem k147_186 : am_at 147 186 = some (.aload 0, 187) := am_kq147 95 _ _ _ rfl
theorem k147_187 : am_at 147 187 = some (.aload 2, 188) := am_kq147 96 _ _ _ rfl
theorem k147_188 : am_at 147 188 = some (.aload 2, 189) := am_kq147 97 _ _ _ rfl
theorem k147_189 : am_at 147 189 = some (.getfield 513, 192) := am_kq147 98 _ _ _ rfl
theorem k147_192 : am_at 147 192 = some (.invokestatic 109, 195) := am_kq147 99 _ _ _ rfl
theorem k147_195 : am_at 147 195 = some (.invokestatic 148, 198) := am_kq147 100 _ _ _ rfl
theorem k147_198 : am_at 147 198 = some (.return_, 199) := am_kq147 101 _ _ _ rfl
set_option maxRecDepth 20000 in
theorem am_kq148 (i pc : Nat) (x : Instr) (nx : Nat) (hi : am_t148[i]? = some (pc, x, nx)) : am_at 148 pc = some (x, nx) := am_kB 148 am_t148 rfl (by decide +kernel) i pc x nx hi
theorem k148_0 : am_at 148 0 = some (.aload 0, 1) := am_kq148 0 _ _ _ rfl
theorem k148_1 : am_at 148 1 = some (.getfield 457, 4) := am_kq148 1 _ _ _ rfl
theorem k148_4 : am_at 148 4 = some (.bipush 192, 7) := am_kq148 2 _ _ _ rfl
theorem k148_7 : am_at 148 7 = some (.if_icmp .ne 17, 10) := am_kq148 3 _ _ _ rfl
theorem k148_10 : am_at 148 10 = some (.aload 0, 11) := am_kq148 4 _ _ _ rfl
theorem k148_11 : am_at 148 11 = some (.bipush (-11), 13) := am_kq148 5 _ _ _ rfl
theorem k148_13 : am_at 148 13 = some (.putfield 459, 16) := am_kq148 6 _ _ _ rfl
theorem k148_16 : am_at 148 16 = some (.return_, 17) := am_kq148 7 _ _ _ rfl
theorem k148_17 : am_at 148 17 = some (.aload 0, 18) := am_kq148 8 _ _ _ rfl
theorem k148_18 : am_at 148 18 = some (.getfield 455, 21) := am_kq148 9 _ _ _ rfl
theorem k148_21 : am_at 148 21 = some (.aload 0, 22) := am_kq148 10 _ _ _ rfl
theorem k148_22 : am_at 148 22 = some (.getfield 457, 25) := am_kq148 11 _ _ _ rfl
theorem k148_25 : am_at 148 25 = some (.aaload, 26) := am_kq148 12 _ _ _ rfl
theorem k148_26 : am_at 148 26 = some (.ifnonnull 46, 29) := am_kq148 13 _ _ _ rfl
theorem k148_29 : am_at 148 29 = some (.aload 0, 30) := am_kq148 14 _ _ _ rfl
theorem k148_30 : am_at 148 30 = some (.getfield 455, 33) := am_kq148 15 _ _ _ rfl
theorem k148_33 : am_at 148 33 = some (.aload 0, 34) := am_kq148 16 _ _ _ rfl
theorem k148_34 : am_at 148 34 = some (.getfield 457, 37) := am_kq148 17 _ _ _ rfl
theorem k148_37 : am_at 148 37 = some (.new 10, 40) := am_kq148 18 _ _ _ rfl
theorem k148_40 : am_at 148 40 = some (.dup, 41) := am_kq148 19 _ _ _ rfl
theorem k148_41 : am_at 148 41 = some (.aload 1, 42) := am_kq148 20 _ _ _ rfl
theorem k148_42 : am_at 148 42 = some (.invokestatic 112, 45) := am_kq148 21 _ _ _ rfl
theorem k148_45 : am_at 148 45 = some (.aastore, 46) := am_kq148 22 _ _ _ rfl
theorem k148_46 : am_at 148 46 = some (.aload 0, 47) := am_kq148 23 _ _ _ rfl
theorem k148_47 : am_at 148 47 = some (.getfield 455, 50) := am_kq148 24 _ _ _ rfl
theorem k148_50 : am_at 148 50 = some (.aload 0, 51) := am_kq148 25 _ _ _ rfl
theorem k148_51 : am_at 148 51 = some (.getfield 457, 54) := am_kq148 26 _ _ _ rfl
theorem k148_54 : am_at 148 54 = some (.aaload, 55) := am_kq148 27 _ _ _ rfl
theorem k148_55 : am_at 148 55 = some (.astore 3, 56) := am_kq148 28 _ _ _ rfl
theorem k148_56 : am_at 148 56 = some (.aload 0, 57) := am_kq148 29 _ _ _ rfl
theorem k148_57 : am_at 148 57 = some (.dup, 58) := am_kq148 30 _ _ _ rfl
theorem k148_58 : am_at 148 58 = some (.getfield 457, 61) := am_kq148 31 _ _ _ rfl
theorem k148_61 : am_at 148 61 = some (.bipush 1, 62) := am_kq148 32 _ _ _ rfl
theorem k148_62 : am_at 148 62 = some (.iadd, 63) := am_kq148 33 _ _ _ rfl
theorem k148_63 : am_at 148 63 = some (.putfield 457, 66) := am_kq148 34 _ _ _ rfl
theorem k148_66 : am_at 148 66 = some (.aload 1, 67) := am_kq148 35 _ _ _ rfl
theorem k148_67 : am_at 148 67 = some (.getfield 513, 70) := am_kq148 36 _ _ _ rfl
theorem k148_70 : am_at 148 70 = some (.astore 4, 72) := am_kq148 37 _ _ _ rfl
theorem k148_72 : am_at 148 72 = some (.iload 2, 73) := am_kq148 38 _ _ _ rfl
theorem k148_73 : am_at 148 73 = some (.aload 4, 75) := am_kq148 39 _ _ _ rfl
theorem k148_75 : am_at 148 75 = some (.getfield 579, 78) := am_kq148 40 _ _ _ rfl
theorem k148_78 : am_at 148 78 = some (.if_icmp .ne 85, 81) := am_kq148 41 _ _ _ rfl
theorem k148_81 : am_at 148 81 = some (.bipush 1, 82) := am_kq148 42 _ _ _ rfl
theorem k148_82 : am_at 148 82 = some (.goto 86, 85) := am_kq148 43 _ _ _ rfl
theorem k148_85 : am_at 148 85 = some (.bipush 0, 86) := am_kq148 44 _ _ _ rfl
theorem k148_86 : am_at 148 86 = some (.istore 5, 88) := am_kq148 45 _ _ _ rfl
theorem k148_88 : am_at 148 88 = some (.aload 3, 89) := am_kq148 46 _ _ _ rfl
theorem k148_89 : am_at 148 89 = some (.aload 1, 90) := am_kq148 47 _ _ _ rfl
theorem k148_90 : am_at 148 90 = some (.putfield 640, 93) := am_kq148 48 _ _ _ rfl
theorem k148_93 : am_at 148 93 = some (.aload 3, 94) := am_kq148 49 _ _ _ rfl
theorem k148_94 : am_at 148 94 = some (.iload 2, 95) := am_kq148 50 _ _ _ rfl
theorem k148_95 : am_at 148 95 = some (.putfield 641, 98) := am_kq148 51 _ _ _ rfl
theorem k148_98 : am_at 148 98 = some (.aload 3, 99) := am_kq148 52 _ _ _ rfl
theorem k148_99 : am_at 148 99 = some (.aload 0, 100) := am_kq148 53 _ _ _ rfl
theorem k148_100 : am_at 148 100 = some (.getfield 450, 103) := am_kq148 54 _ _ _ rfl
theorem k148_103 : am_at 148 103 = some (.aload 4, 105) := am_kq148 55 _ _ _ rfl
theorem k148_105 : am_at 148 105 = some (.getfield 576, 108) := am_kq148 56 _ _ _ rfl
theorem k148_108 : am_at 148 108 = some (.iload 2, 109) := am_kq148 57 _ _ _ rfl
theorem k148_109 : am_at 148 109 = some (.iaload, 110) := am_kq148 58 _ _ _ rfl
theorem k148_110 : am_at 148 110 = some (.invokestatic 166, 113) := am_kq148 59 _ _ _ rfl
theorem k148_113 : am_at 148 113 = some (.putfield 642, 116) := am_kq148 60 _ _ _ rfl
theorem k148_116 : am_at 148 116 = some (.aload 3, 117) := am_kq148 61 _ _ _ rfl
theorem k148_117 : am_at 148 117 = some (.bipush 0, 118) := am_kq148 62 _ _ _ rfl
theorem k148_118 : am_at 148 118 = some (.putfield 643, 121) := am_kq148 63 _ _ _ rfl
theorem k148_121 : am_at 148 121 = some (.aload 3, 122) := am_kq148 64 _ _ _ rfl
theorem k148_122 : am_at 148 122 = some (.bipush 0, 123) := am_kq148 65 _ _ _ rfl
theorem k148_123 : am_at 148 123 = some (.putfield 644, 126) := am_kq148 66 _ _ _ rfl
theorem k148_126 : am_at 148 126 = some (.aload 3, 127) := am_kq148 67 _ _ _ rfl
theorem k148_127 : am_at 148 127 = some (.bipush 0, 128) := am_kq148 68 _ _ _ rfl
theorem k148_128 : am_at 148 128 = some (.putfield 645, 131) := am_kq148 69 _ _ _ rfl
theorem k148_131 : am_at 148 131 = some (.aload 3, 132) := am_kq148 70 _ _ _ rfl
theorem k148_132 : am_at 148 132 = some (.bipush 0, 133) := am_kq148 71 _ _ _ rfl
theorem k148_133 : am_at 148 133 = some (.putfield 646, 136) := am_kq148 72 _ _ _ rfl
theorem k148_136 : am_at 148 136 = some (.aload 3, 137) := am_kq148 73 _ _ _ rfl
theorem k148_137 : am_at 148 137 = some (.iload 5, 139) := am_kq148 74 _ _ _ rfl
theorem k148_139 : am_at 148 139 = some (.ifCond .eq 150, 142) := am_kq148 75 _ _ _ rfl
theorem k148_142 : am_at 148 142 = some (.aload 4, 144) := am_kq148 76 _ _ _ rfl
theorem k148_144 : am_at 148 144 = some (.getfield 578, 147) := am_kq148 77 _ _ _ rfl
theorem k148_147 : am_at 148 147 = some (.goto 151, 150) := am_kq148 78 _ _ _ rfl
theorem k148_150 : am_at 148 150 = some (.bipush 0, 151) := am_kq148 79 _ _ _ rfl
theorem k148_151 : am_at 148 151 = some (.putfield 647, 154) := am_kq148 80 _ _ _ rfl
theorem k148_154 : am_at 148 154 = some (.aload 3, 155) := am_kq148 81 _ _ _ rfl
theorem k148_155 : am_at 148 155 = some (.iload 5, 157) := am_kq148 82 _ _ _ rfl
theorem k148_157 : am_at 148 157 = some (.ifCond .eq 168, 160) := am_kq148 83 _ _ _ rfl
theorem k148_160 : am_at 148 160 = some (.aload 4, 162) := am_kq148 84 _ _ _ rfl
theorem k148_162 : am_at 148 162 = some (.getfield 579, 165) := am_kq148 85 _ _ _ rfl
theorem k148_165 : am_at 148 165 = some (.goto 169, 168) := am_kq148 86 _ _ _ rfl
theorem k148_168 : am_at 148 168 = some (.bipush 0, 169) := am_kq148 87 _ _ _ rfl
theorem k148_169 : am_at 148 169 = some (.putfield 648, 172) := am_kq148 88 _ _ _ rfl
theorem k148_172 : am_at 148 172 = some (.aload 3, 173) := am_kq148 89 _ _ _ rfl
theorem k148_173 : am_at 148 173 = some (.iload 5, 175) := am_kq148 90 _ _ _ rfl
theorem k148_175 : am_at 148 175 = some (.putfield 649, 178) := am_kq148 91 _ _ _ rfl
theorem k148_178 : am_at 148 178 = some (.return_, 179) := am_kq148 92 _ _ _ rfl
set_option maxRecDepth 20000 in
theorem am_kq149 (i pc : Nat) (x : Instr) (nx : Nat) (hi : am_t149[i]? = some (pc, x, nx)) : am_at 149 pc = some (x, nx) := am_kB 149 am_t149 rfl (by decide +kernel) i pc x nx hi
theorem k149_0 : am_at 149 0 = some (.aload 1, 1) := am_kq149 0 _ _ _ rfl
theorem k149_1 : am_at 149 1 = some (.getfield 647, 4) := am_kq149 1 _ _ _ rfl
theorem k149_4 : am_at 149 4 = some (.aload 1, 5) := am_kq149 2 _ _ _ rfl
theorem k149_5 : am_at 149 5 = some (.getfield 648, 8) := am_kq149 3 _ _ _ rfl
theorem k149_8 : am_at 149 8 = some (.if_icmp .ge 38, 11) := am_kq149 4 _ _ _ rfl
theorem k149_11 : am_at 149 11 = some (.aload 1, 12) := am_kq149 5 _ _ _ rfl
theorem k149_12 : am_at 149 12 = some (.dup, 13) := am_kq149 6 _ _ _ rfl
theorem k149_13 : am_at 149 13 = some (.getfield 647, 16) := am_kq149 7 _ _ _ rfl
theorem k149_16 : am_at 149 16 = some (.bipush 1, 17) := am_kq149 8 _ _ _ rfl
theorem k149_17 : am_at 149 17 = some (.iadd, 18) := am_kq149 9 _ _ _ rfl
theorem k149_18 : am_at 149 18 = some (.putfield 647, 21) := am_kq149 10 _ _ _ rfl
theorem k149_21 : am_at 149 21 = some (.aload 0, 22) := am_kq149 11 _ _ _ rfl
theorem k149_22 : am_at 149 22 = some (.aload 1, 23) := am_kq149 12 _ _ _ rfl
theorem k149_23 : am_at 149 23 = some (.getfield 640, 26) := am_kq149 13 _ _ _ rfl
theorem k149_26 : am_at 149 26 = some (.aload 1, 27) := am_kq149 14 _ _ _ rfl
theorem k149_27 : am_at 149 27 = some (.getfield 647, 30) := am_kq149 15 _ _ _ rfl
theorem k149_30 : am_at 149 30 = some (.bipush 1, 31) := am_kq149 16 _ _ _ rfl
theorem k149_31 : am_at 149 31 = some (.isub, 32) := am_kq149 17 _ _ _ rfl
theorem k149_32 : am_at 149 32 = some (.invokestatic 148, 35) := am_kq149 18 _ _ _ rfl
theorem k149_35 : am_at 149 35 = some (.goto 137, 38) := am_kq149 19 _ _ _ rfl
theorem k149_38 : am_at 149 38 = some (.aload 1, 39) := am_kq149 20 _ _ _ rfl
theorem k149_39 : am_at 149 39 = some (.getfield 645, 42) := am_kq149 21 _ _ _ rfl
theorem k149_42 : am_at 149 42 = some (.ifCond .ne 63, 45) := am_kq149 22 _ _ _ rfl
theorem k149_45 : am_at 149 45 = some (.aload 1, 46) := am_kq149 23 _ _ _ rfl
theorem k149_46 : am_at 149 46 = some (.bipush 1, 47) := am_kq149 24 _ _ _ rfl
theorem k149_47 : am_at 149 47 = some (.putfield 645, 50) := am_kq149 25 _ _ _ rfl
theorem k149_50 : am_at 149 50 = some (.aload 0, 51) := am_kq149 26 _ _ _ rfl
theorem k149_51 : am_at 149 51 = some (.dup, 52) := am_kq149 27 _ _ _ rfl
theorem k149_52 : am_at 149 52 = some (.getfield 464, 55) := am_kq149 28 _ _ _ rfl
theorem k149_55 : am_at 149 55 = some (.bipush 1, 56) := am_kq149 29 _ _ _ rfl
theorem k149_56 : am_at 149 56 = some (.iadd, 57) := am_kq149 30 _ _ _ rfl
theorem k149_57 : am_at 149 57 = some (.putfield 464, 60) := am_kq149 31 _ _ _ rfl
theorem k149_60 : am_at 149 60 = some (.goto 137, 63) := am_kq149 32 _ _ _ rfl
theorem k149_63 : am_at 149 63 = some (.aload 1, 64) := am_kq149 33 _ _ _ rfl
theorem k149_64 : am_at 149 64 = some (.getfield 644, 67) := am_kq149 34 _ _ _ rfl
theorem k149_67 : am_at 149 67 = some (.aload 0, 68) := am_kq149 35 _ _ _ rfl
theorem k149_68 : am_at 149 68 = some (.getfield 452, 71) := am_kq149 36 _ _ _ rfl
theorem k149_71 : am_at 149 71 = some (.aload 1, 72) := am_kq149 37 _ _ _ rfl
theorem k149_72 : am_at 149 72 = some (.getfield 642, 75) := am_kq149 38 _ _ _ rfl
theorem k149_75 : am_at 149 75 = some (.invokestatic 79, 78) := am_kq149 39 _ _ _ rfl
theorem k149_78 : am_at 149 78 = some (.if_icmp .ge 89, 81) := am_kq149 40 _ _ _ rfl
theorem k149_81 : am_at 149 81 = some (.aload 0, 82) := am_kq149 41 _ _ _ rfl
theorem k149_82 : am_at 149 82 = some (.aload 1, 83) := am_kq149 42 _ _ _ rfl
theorem k149_83 : am_at 149 83 = some (.invokestatic 151, 86) := am_kq149 43 _ _ _ rfl
theorem k149_86 : am_at 149 86 = some (.goto 137, 89) := am_kq149 44 _ _ _ rfl
theorem k149_89 : am_at 149 89 = some (.aload 1, 90) := am_kq149 45 _ _ _ rfl
theorem k149_90 : am_at 149 90 = some (.getfield 649, 93) := am_kq149 46 _ _ _ rfl
theorem k149_93 : am_at 149 93 = some (.ifCond .eq 132, 96) := am_kq149 47 _ _ _ rfl
theorem k149_96 : am_at 149 96 = some (.aload 1, 97) := am_kq149 48 _ _ _ rfl
theorem k149_97 : am_at 149 97 = some (.bipush 0, 98) := am_kq149 49 _ _ _ rfl
theorem k149_98 : am_at 149 98 = some (.putfield 649, 101) := am_kq149 50 _ _ _ rfl
theorem k149_101 : am_at 149 101 = some (.aload 1, 102) := am_kq149 51 _ _ _ rfl
theorem k149_102 : am_at 149 102 = some (.aload 1, 103) := am_kq149 52 _ _ _ rfl
theorem k149_103 : am_at 149 103 = some (.getfield 640, 106) := am_kq149 53 _ _ _ rfl
theorem k149_106 : am_at 149 106 = some (.getfield 513, 109) := am_kq149 54 _ _ _ rfl
theorem k149_109 : am_at 149 109 = some (.getfield 580, 112) := am_kq149 55 _ _ _ rfl
theorem k149_112 : am_at 149 112 = some (.putfield 647, 115) := am_kq149 56 _ _ _ rfl
theorem k149_115 : am_at 149 115 = some (.aload 1, 116) := am_kq149 57 _ _ _ rfl
theorem k149_116 : am_at 149 116 = some (.aload 1, 117) := am_kq149 58 _ _ _ rfl
theorem k149_117 : am_at 149 117 = some (.getfield 640, 120) := am_kq149 59 _ _ _ rfl
theorem k149_120 : am_at 149 120 = some (.getfield 513, 123) := am_kq149 60 _ _ _ rfl
theorem k149_123 : am_at 149 123 = some (.getfield 577, 126) := am_kq149 61 _ _ _ rfl
theorem k149_126 : am_at 149 126 = some (.putfield 648, 129) := am_kq149 62 _ _ _ rfl
theorem k149_129 : am_at 149 129 = some (.goto 137, 132) := am_kq149 63 _ _ _ rfl
theorem k149_132 : am_at 149 132 = some (.aload 0, 133) := am_kq149 64 _ _ _ rfl
theorem k149_133 : am_at 149 133 = some (.aload 1, 134) := am_kq149 65 _ _ _ rfl
theorem k149_134 : am_at 149 134 = some (.invokestatic 150, 137) := am_kq149 66 _ _ _ rfl
theorem k149_137 : am_at 149 137 = some (.return_, 138) := am_kq149 67 _ _ _ rfl
set_option maxRecDepth 20000 in
theorem am_kq150 (i pc : Nat) (x : Instr) (nx : Nat) (hi : am_t150[i]? = some (pc, x, nx)) : am_at 150 pc = some (x, nx) := am_kB 150 am_t150 rfl (by decide +kernel) i pc x nx hi
theorem k150_0 : am_at 150 0 = some (.aload 0, 1) := am_kq150 0 _ _ _ rfl
theorem k150_1 : am_at 150 1 = some (.dup, 2) := am_kq150 1 _ _ _ rfl
theorem k150_2 : am_at 150 2 = some (.getfield 457, 5) := am_kq150 2 _ _ _ rfl
theorem k150_5 : am_at 150 5 = some (.bipush 1, 6) := am_kq150 3 _ _ _ rfl
theorem k150_6 : am_at 150 6 = some (.isub, 7) := am_kq150 4 _ _ _ rfl
theorem k150_7 : am_at 150 7 = some (.putfield 457, 10) := am_kq150 5 _ _ _ rfl
theorem k150_10 : am_at 150 10 = some (.aload 0, 11) := am_kq150 6 _ _ _ rfl
theorem k150_11 : am_at 150 11 = some (.getfield 457, 14) := am_kq150 7 _ _ _ rfl
theorem k150_14 : am_at 150 14 = some (.aload 1, 15) := am_kq150 8 _ _ _ rfl
theorem k150_15 : am_at 150 15 = some (.getfield 640, 18) := am_kq150 9 _ _ _ rfl
theorem k150_18 : am_at 150 18 = some (.getfield 517, 21) := am_kq150 10 _ _ _ rfl
theorem k150_21 : am_at 150 21 = some (.if_icmp .ne 34, 24) := am_kq150 11 _ _ _ rfl
theorem k150_24 : am_at 150 24 = some (.aload 0, 25) := am_kq150 12 _ _ _ rfl
theorem k150_25 : am_at 150 25 = some (.dup, 26) := am_kq150 13 _ _ _ rfl
theorem k150_26 : am_at 150 26 = some (.getfield 456, 29) := am_kq150 14 _ _ _ rfl
theorem k150_29 : am_at 150 29 = some (.bipush 1, 30) := am_kq150 15 _ _ _ rfl
theorem k150_30 : am_at 150 30 = some (.isub, 31) := am_kq150 16 _ _ _ rfl
theorem k150_31 : am_at 150 31 = some (.putfield 456, 34) := am_kq150 17 _ _ _ rfl
theorem k150_34 : am_at 150 34 = some (.aload 1, 35) := am_kq150 18 _ _ _ rfl
theorem k150_35 : am_at 150 35 = some (.getfield 640, 38) := am_kq150 19 _ _ _ rfl
theorem k150_38 : am_at 150 38 = some (.getfield 513, 41) := am_kq150 20 _ _ _ rfl
theorem k150_41 : am_at 150 41 = some (.aload 1, 42) := am_kq150 21 _ _ _ rfl
theorem k150_42 : am_at 150 42 = some (.getfield 641, 45) := am_kq150 22 _ _ _ rfl
theorem k150_45 : am_at 150 45 = some (.invokestatic 111, 48) := am_kq150 23 _ _ _ rfl
theorem k150_48 : am_at 150 48 = some (.ifCond .eq 52, 51) := am_kq150 24 _ _ _ rfl
theorem k150_51 : am_at 150 51 = some (.return_, 52) := am_kq150 25 _ _ _ rfl
theorem k150_52 : am_at 150 52 = some (.aload 0, 53) := am_kq150 26 _ _ _ rfl
theorem k150_53 : am_at 150 53 = some (.invokestatic 145, 56) := am_kq150 27 _ _ _ rfl
theorem k150_56 : am_at 150 56 = some (.astore 2, 57) := am_kq150 28 _ _ _ rfl
theorem k150_57 : am_at 150 57 = some (.aload 2, 58) := am_kq150 29 _ _ _ rfl
theorem k150_58 : am_at 150 58 = some (.ifnull 77, 61) := am_kq150 30 _ _ _ rfl
theorem k150_61 : am_at 150 61 = some (.aload 2, 62) := am_kq150 31 _ _ _ rfl
theorem k150_62 : am_at 150 62 = some (.dup, 63) := am_kq150 32 _ _ _ rfl
theorem k150_63 : am_at 150 63 = some (.getfield 643, 66) := am_kq150 33 _ _ _ rfl
theorem k150_66 : am_at 150 66 = some (.aload 1, 67) := am_kq150 34 _ _ _ rfl
theorem k150_67 : am_at 150 67 = some (.getfield 643, 70) := am_kq150 35 _ _ _ rfl
theorem k150_70 : am_at 150 70 = some (.iadd, 71) := am_kq150 36 _ _ _ rfl
theorem k150_71 : am_at 150 71 = some (.putfield 643, 74) := am_kq150 37 _ _ _ rfl
theorem k150_74 : am_at 150 74 = some (.goto 85, 77) := am_kq150 38 _ _ _ rfl
theorem k150_77 : am_at 150 77 = some (.aload 0, 78) := am_kq150 39 _ _ _ rfl
theorem k150_78 : am_at 150 78 = some (.aload 1, 79) := am_kq150 40 _ _ _ rfl
theorem k150_79 : am_at 150 79 = some (.getfield 643, 82) := am_kq150 41 _ _ _ rfl
theorem k150_82 : am_at 150 82 = some (.putfield 460, 85) := am_kq150 42 _ _ _ rfl
theorem k150_85 : am_at 150 85 = some (.return_, 86) := am_kq150 43 _ _ _ rfl
set_option maxRecDepth 20000 in
theorem am_kq151 (i pc : Nat) (x : Instr) (nx : Nat) (hi : am_t151[i]? = some (pc, x, nx)) : am_at 151 pc = some (x, nx) := am_kB 151 am_t151 rfl (by decide +kernel) i pc x nx hi
theorem k151_0 : am_at 151 0 = some (.aload 0, 1) := am_kq151 0 _ _ _ rfl
theorem k151_1 : am_at 151 1 = some (.getfield 458, 4) := am_kq151 1 _ _ _ rfl
theorem k151_4 : am_at 151 4 = some (.bipush 300, 7) := am_kq151 2 _ _ _ rfl
theorem k151_7 : am_at 151 7 = some (.if_icmp .ne 17, 10) := am_kq151 3 _ _ _ rfl
theorem k151_10 : am_at 151 10 = some (.aload 0, 11) := am_kq151 4 _ _ _ rfl
theorem k151_11 : am_at 151 11 = some (.bipush (-11), 13) := am_kq151 5 _ _ _ rfl
theorem k151_13 : am_at 151 13 = some (.putfield 459, 16) := am_kq151 6 _ _ _ rfl
theorem k151_16 : am_at 151 16 = some (.return_, 17) := am_kq151 7 _ _ _ rfl
theorem k151_17 : am_at 151 17 = some (.aload 0, 18) := am_kq151 8 _ _ _ rfl
theorem k151_18 : am_at 151 18 = some (.dup, 19) := am_kq151 9 _ _ _ rfl
theorem k151_19 : am_at 151 19 = some (.getfield 458, 22) := am_kq151 10 _ _ _ rfl
theorem k151_22 : am_at 151 22 = some (.bipush 1, 23) := am_kq151 11 _ _ _ rfl
theorem k151_23 : am_at 151 23 = some (.iadd, 24) := am_kq151 12 _ _ _ rfl
theorem k151_24 : am_at 151 24 = some (.putfield 458, 27) := am_kq151 13 _ _ _ rfl
theorem k151_27 : am_at 151 27 = some (.aload 0, 28) := am_kq151 14 _ _ _ rfl
theorem k151_28 : am_at 151 28 = some (.dup, 29) := am_kq151 15 _ _ _ rfl
theorem k151_29 : am_at 151 29 = some (.getfield 465, 32) := am_kq151 16 _ _ _ rfl
theorem k151_32 : am_at 151 32 = some (.bipush 1, 33) := am_kq151 17 _ _ _ rfl
theorem k151_33 : am_at 151 33 = some (.iadd, 34) := am_kq151 18 _ _ _ rfl
theorem k151_34 : am_at 151 34 = some (.putfield 465, 37) := am_kq151 19 _ _ _ rfl
theorem k151_37 : am_at 151 37 = some (.aload 0, 38) := am_kq151 20 _ _ _ rfl
theorem k151_38 : am_at 151 38 = some (.getfield 452, 41) := am_kq151 21 _ _ _ rfl
theorem k151_41 : am_at 151 41 = some (.aload 1, 42) := am_kq151 22 _ _ _ rfl
theorem k151_42 : am_at 151 42 = some (.getfield 642, 45) := am_kq151 23 _ _ _ rfl
theorem k151_45 : am_at 151 45 = some (.aload 1, 46) := am_kq151 24 _ _ _ rfl
theorem k151_46 : am_at 151 46 = some (.getfield 644, 49) := am_kq151 25 _ _ _ rfl
theorem k151_49 : am_at 151 49 = some (.invokestatic 80, 52) := am_kq151 26 _ _ _ rfl
theorem k151_52 : am_at 151 52 = some (.istore 2, 53) := am_kq151 27 _ _ _ rfl
theorem k151_53 : am_at 151 53 = some (.aload 0, 54) := am_kq151 28 _ _ _ rfl
theorem k151_54 : am_at 151 54 = some (.getfield 452, 57) := am_kq151 29 _ _ _ rfl
theorem k151_57 : am_at 151 57 = some (.aload 1, 58) := am_kq151 30 _ _ _ rfl
theorem k151_58 : am_at 151 58 = some (.getfield 642, 61) := am_kq151 31 _ _ _ rfl
theorem k151_61 : am_at 151 61 = some (.aload 1, 62) := am_kq151 32 _ _ _ rfl
theorem k151_62 : am_at 151 62 = some (.getfield 644, 65) := am_kq151 33 _ _ _ rfl
theorem k151_65 : am_at 151 65 = some (.invokestatic 81, 68) := am_kq151 34 _ _ _ rfl
theorem k151_68 : am_at 151 68 = some (.istore 3, 69) := am_kq151 35 _ _ _ rfl
theorem k151_69 : am_at 151 69 = some (.aload 1, 70) := am_kq151 36 _ _ _ rfl
theorem k151_70 : am_at 151 70 = some (.dup, 71) := am_kq151 37 _ _ _ rfl
theorem k151_71 : am_at 151 71 = some (.getfield 644, 74) := am_kq151 38 _ _ _ rfl
theorem k151_74 : am_at 151 74 = some (.bipush 1, 75) := am_kq151 39 _ _ _ rfl
theorem k151_75 : am_at 151 75 = some (.iadd, 76) := am_kq151 40 _ _ _ rfl
theorem k151_76 : am_at 151 76 = some (.putfield 644, 79) := am_kq151 41 _ _ _ rfl
theorem k151_79 : am_at 151 79 = some (.iload 2, 80) := am_kq151 42 _ _ _ rfl
theorem k151_80 : am_at 151 80 = some (.tableswitch 283 0 9 #[136, 144, 157, 185, 209, 217, 246, 257, 266, 275], 136) := am_kq151 43 _ _ _ rfl
theorem k151_136 : am_at 151 136 = some (.aload 1, 137) := am_kq151 44 _ _ _ rfl
theorem k151_137 : am_at 151 137 = some (.iload 3, 138) := am_kq151 45 _ _ _ rfl
theorem k151_138 : am_at 151 138 = some (.putfield 643, 141) := am_kq151 46 _ _ _ rfl
theorem k151_141 : am_at 151 141 = some (.goto 283, 144) := am_kq151 47 _ _ _ rfl
theorem k151_144 : am_at 151 144 = some (.aload 1, 145) := am_kq151 48 _ _ _ rfl
theorem k151_145 : am_at 151 145 = some (.dup, 146) := am_kq151 49 _ _ _ rfl
theorem k151_146 : am_at 151 146 = some (.getfield 643, 149) := am_kq151 50 _ _ _ rfl
theorem k151_149 : am_at 151 149 = some (.iload 3, 150) := am_kq151 51 _ _ _ rfl
theorem k151_150 : am_at 151 150 = some (.iadd, 151) := am_kq151 52 _ _ _ rfl
theorem k151_151 : am_at 151 151 = some (.putfield 643, 154) := am_kq151 53 _ _ _ rfl
theorem k151_154 : am_at 151 154 = some (.goto 283, 157) := am_kq151 54 _ _ _ rfl
theorem k151_157 : am_at 151 157 = some (.aload 1, 158) := am_kq151 55 _ _ _ rfl
theorem k151_158 : am_at 151 158 = some (.dup, 159) := am_kq151 56 _ _ _ rfl
theorem k151_159 : am_at 151 159 = some (.getfield 643, 162) := am_kq151 57 _ _ _ rfl
theorem k151_162 : am_at 151 162 = some (.aload 0, 163) := am_kq151 58 _ _ _ rfl
theorem k151_163 : am_at 151 163 = some (.aload 0, 164) := am_kq151 59 _ _ _ rfl
theorem k151_164 : am_at 151 164 = some (.getfield 449, 167) := am_kq151 60 _ _ _ rfl
theorem k151_167 : am_at 151 167 = some (.aload 1, 168) := am_kq151 61 _ _ _ rfl
theorem k151_168 : am_at 151 168 = some (.invokestatic 113, 171) := am_kq151 62 _ _ _ rfl
theorem k151_171 : am_at 151 171 = some (.iload 3, 172) := am_kq151 63 _ _ _ rfl
theorem k151_172 : am_at 151 172 = some (.invokestatic 126, 175) := am_kq151 64 _ _ _ rfl
theorem k151_175 : am_at 151 175 = some (.invokestatic 152, 178) := am_kq151 65 _ _ _ rfl
theorem k151_178 : am_at 151 178 = some (.iadd, 179) := am_kq151 66 _ _ _ rfl
theorem k151_179 : am_at 151 179 = some (.putfield 643, 182) := am_kq151 67 _ _ _ rfl
theorem k151_182 : am_at 151 182 = some (.goto 283, 185) := am_kq151 68 _ _ _ rfl
theorem k151_185 : am_at 151 185 = some (.aload 0, 186) := am_kq151 69 _ _ _ rfl
theorem k151_186 : am_at 151 186 = some (.aload 0, 187) := am_kq151 70 _ _ _ rfl
theorem k151_187 : am_at 151 187 = some (.getfield 449, 190) := am_kq151 71 _ _ _ rfl
theorem k151_190 : am_at 151 190 = some (.aload 1, 191) := am_kq151 72 _ _ _ rfl
theorem k151_191 : am_at 151 191 = some (.invokestatic 113, 194) := am_kq151 73 _ _ _ rfl
theorem k151_194 : am_at 151 194 = some (.iload 3, 195) := am_kq151 74 _ _ _ rfl
theorem k151_195 : am_at 151 195 = some (.aload 1, 196) := am_kq151 75 _ _ _ rfl
theorem k151_196 : am_at 151 196 = some (.getfield 643, 199) := am_kq151 76 _ _ _ rfl
theorem k151_199 : am_at 151 199 = some (.invokestatic 127, 202) := am_kq151 77 _ _ _ rfl
theorem k151_202 : am_at 151 202 = some (.invokestatic 152, 205) := am_kq151 78 _ _ _ rfl
theorem k151_205 : am_at 151 205 = some (.pop, 206) := am_kq151 79 _ _ _ rfl
theorem k151_206 : am_at 151 206 = some (.goto 283, 209) := am_kq151 80 _ _ _ rfl
theorem k151_209 : am_at 151 209 = some (.aload 0, 210) := am_kq151 81 _ _ _ rfl
theorem k151_210 : am_at 151 210 = some (.aload 1, 211) := am_kq151 82 _ _ _ rfl
theorem k151_211 : am_at 151 211 = some (.invokestatic 153, 214) := am_kq151 83 _ _ _ rfl
theorem k151_214 : am_at 151 214 = some (.goto 283, 217) := am_kq151 84 _ _ _ rfl
theorem k151_217 : am_at 151 217 = some (.aload 1, 218) := am_kq151 85 _ _ _ rfl
theorem k151_218 : am_at 151 218 = some (.aload 1, 219) := am_kq151 86 _ _ _ rfl
theorem k151_219 : am_at 151 219 = some (.getfield 640, 222) := am_kq151 87 _ _ _ rfl
theorem k151_222 : am_at 151 222 = some (.getfield 513, 225) := am_kq151 88 _ _ _ rfl
theorem k151_225 : am_at 151 225 = some (.aload 1, 226) := am_kq151 89 _ _ _ rfl
theorem k151_226 : am_at 151 226 = some (.getfield 641, 229) := am_kq151 90 _ _ _ rfl
theorem k151_229 : am_at 151 229 = some (.invokestatic 110, 232) := am_kq151 91 _ _ _ rfl
theorem k151_232 : am_at 151 232 = some (.ifCond .lt 239, 235) := am_kq151 92 _ _ _ rfl
theorem k151_235 : am_at 151 235 = some (.bipush 1, 236) := am_kq151 93 _ _ _ rfl
theorem k151_236 : am_at 151 236 = some (.goto 240, 239) := am_kq151 94 _ _ _ rfl
theorem k151_239 : am_at 151 239 = some (.bipush 0, 240) := am_kq151 95 _ _ _ rfl
theorem k151_240 : am_at 151 240 = some (.putfield 643, 243) := am_kq151 96 _ _ _ rfl
theorem k151_243 : am_at 151 243 = some (.goto 283, 246) := am_kq151 97 _ _ _ rfl
theorem k151_246 : am_at 151 246 = some (.aload 0, 247) := am_kq151 98 _ _ _ rfl
theorem k151_247 : am_at 151 247 = some (.getfield 453, 250) := am_kq151 99 _ _ _ rfl
theorem k151_250 : am_at 151 250 = some (.iload 3, 251) := am_kq151 100 _ _ _ rfl
theorem k151_251 : am_at 151 251 = some (.invokestatic 174, 254) := am_kq151 101 _ _ _ rfl
theorem k151_254 : am_at 151 254 = some (.goto 283, 257) := am_kq151 102 _ _ _ rfl
theorem k151_257 : am_at 151 257 = some (.aload 0, 258) := am_kq151 103 _ _ _ rfl
theorem k151_258 : am_at 151 258 = some (.aload 1, 259) := am_kq151 104 _ _ _ rfl
theorem k151_259 : am_at 151 259 = some (.iload 3, 260) := am_kq151 105 _ _ _ rfl
theorem k151_260 : am_at 151 260 = some (.invokestatic 154, 263) := am_kq151 106 _ _ _ rfl
theorem k151_263 : am_at 151 263 = some (.goto 283, 266) := am_kq151 107 _ _ _ rfl
theorem k151_266 : am_at 151 266 = some (.aload 0, 267) := am_kq151 108 _ _ _ rfl
theorem k151_267 : am_at 151 267 = some (.aload 1, 268) := am_kq151 109 _ _ _ rfl
theorem k151_268 : am_at 151 268 = some (.iload 3, 269) := am_kq151 110 _ _ _ rfl
theorem k151_269 : am_at 151 269 = some (.invokestatic 155, 272) := am_kq151 111 _ _ _ rfl
theorem k151_272 : am_at 151 272 = some (.goto 283, 275) := am_kq151 112 _ _ _ rfl
theorem k151_275 : am_at 151 275 = some (.aload 0, 276) := am_kq151 113 _ _ _ rfl
theorem k151_276 : am_at 151 276 = some (.aload 1, 277) := am_kq151 114 _ _ _ rfl
theorem k151_277 : am_at 151 277 = some (.invokestatic 156, 280) := am_kq151 115 _ _ _ rfl
theorem k151_280 : am_at 151 280 = some (.goto 283, 283) := am_kq151 116 _ _ _ rfl
theorem k151_283 : am_at 151 283 = some (.return_, 284) := am_kq151 117 _ _ _ rfl
set_option maxRecDepth 20000 in
theorem am_kq152 (i pc : Nat) (x : Instr) (nx : Nat) (hi : am_t152[i]? = some (pc, x, nx)) : am_at 152 pc = some (x, nx) := am_kB 152 am_t152 rfl (by decide +kernel) i pc x nx hi
theorem k152_0 : am_at 152 0 = some (.lload 1, 1) := am_kq152 0 _ _ _ rfl
theorem k152_1 : am_at 152 1 = some (.invokestatic 28, 4) := am_kq152 1 _ _ _ rfl
theorem k152_4 : am_at 152 4 = some (.ifCond .eq 19, 7) := am_kq152 2 _ _ _ rfl
theorem k152_7 : am_at 152 7 = some (.aload 0, 8) := am_kq152 3 _ _ _ rfl
theorem k152_8 : am_at 152 8 = some (.lload 1, 9) := am_kq152 4 _ _ _ rfl
theorem k152_9 : am_at 152 9 = some (.sipush 1099511627776, 12) := am_kq152 5 _ _ _ rfl
theorem k152_12 : am_at 152 12 = some (.lsub, 13) := am_kq152 6 _ _ _ rfl
theorem k152_13 : am_at 152 13 = some (.l2i, 14) := am_kq152 7 _ _ _ rfl
theorem k152_14 : am_at 152 14 = some (.putfield 459, 17) := am_kq152 8 _ _ _ rfl
theorem k152_17 : am_at 152 17 = some (.bipush 0, 18) := am_kq152 9 _ _ _ rfl
theorem k152_18 : am_at 152 18 = some (.ireturn, 19) := am_kq152 10 _ _ _ rfl
theorem k152_19 : am_at 152 19 = some (.lload 1, 20) := am_kq152 11 _ _ _ rfl
theorem k152_20 : am_at 152 20 = some (.l2i, 21) := am_kq152 12 _ _ _ rfl
theorem k152_21 : am_at 152 21 = some (.ireturn, 22) := am_kq152 13 _ _ _ rfl
set_option maxRecDepth 20000 in
theorem am_kq153 (i pc : Nat) (x : Instr) (nx : Nat) (hi : am_t153[i]? = some (pc, x, nx)) : am_at 153 pc = some (x, nx) := am_kB 153 am_t153 rfl (by decide +kernel) i pc x nx hi
theorem k153_0 : am_at 153 0 = some (.aload 1, 1) := am_kq153 0 _ _ _ rfl
theorem k153_1 : am_at 153 1 = some (.getfield 640, 4) := am_kq153 1 _ _ _ rfl
theorem k153_4 : am_at 153 4 = some (.getfield 513, 7) := am_kq153 2 _ _ _ rfl
theorem k153_7 : am_at 153 7 = some (.aload 1, 8) := am_kq153 3 _ _ _ rfl
theorem k153_8 : am_at 153 8 = some (.getfield 641, 11) := am_kq153 4 _ _ _ rfl
theorem k153_11 : am_at 153 11 = some (.invokestatic 110, 14) := am_kq153 5 _ _ _ rfl
theorem k153_14 : am_at 153 14 = some (.istore 2, 15) := am_kq153 6 _ _ _ rfl
theorem k153_15 : am_at 153 15 = some (.iload 2, 16) := am_kq153 7 _ _ _ rfl
theorem k153_16 : am_at 153 16 = some (.ifCond .ge 28, 19) := am_kq153 8 _ _ _ rfl
theorem k153_19 : am_at 153 19 = some (.aload 0, 20) := am_kq153 9 _ _ _ rfl
theorem k153_20 : am_at 153 20 = some (.bipush (-10), 22) := am_kq153 10 _ _ _ rfl
theorem k153_22 : am_at 153 22 = some (.putfield 459, 25) := am_kq153 11 _ _ _ rfl
theorem k153_25 : am_at 153 25 = some (.goto 37, 28) := am_kq153 12 _ _ _ rfl
theorem k153_28 : am_at 153 28 = some (.aload 0, 29) := am_kq153 13 _ _ _ rfl
theorem k153_29 : am_at 153 29 = some (.aload 1, 30) := am_kq153 14 _ _ _ rfl
theorem k153_30 : am_at 153 30 = some (.getfield 640, 33) := am_kq153 15 _ _ _ rfl
theorem k153_33 : am_at 153 33 = some (.iload 2, 34) := am_kq153 16 _ _ _ rfl
theorem k153_34 : am_at 153 34 = some (.invokestatic 148, 37) := am_kq153 17 _ _ _ rfl
theorem k153_37 : am_at 153 37 = some (.return_, 38) := am_kq153 18 _ _ _ rfl
set_option maxRecDepth 20000 in
theorem am_kq154 (i pc : Nat) (x : Instr) (nx : Nat) (hi : am_t154[i]? = some (pc, x, nx)) : am_at 154 pc = some (x, nx) := am_kB 154 am_t154 rfl (by decide +kernel) i pc x nx hi
theorem k154_0 : am_at 154 0 = some (.aload 1, 1) := am_kq154 0 _ _ _ rfl
theorem k154_1 : am_at 154 1 = some (.invokestatic 113, 4) := am_kq154 1 _ _ _ rfl
theorem k154_4 : am_at 154 4 = some (.istore 3, 5) := am_kq154 2 _ _ _ rfl
theorem k154_5 : am_at 154 5 = some (.aload 0, 6) := am_kq154 3 _ _ _ rfl
theorem k154_6 : am_at 154 6 = some (.iload 2, 7) := am_kq154 4 _ _ _ rfl
theorem k154_7 : am_at 154 7 = some (.iload 3, 8) := am_kq154 5 _ _ _ rfl
theorem k154_8 : am_at 154 8 = some (.aload 1, 9) := am_kq154 6 _ _ _ rfl
theorem k154_9 : am_at 154 9 = some (.getfield 640, 12) := am_kq154 7 _ _ _ rfl
theorem k154_12 : am_at 154 12 = some (.getfield 514, 15) := am_kq154 8 _ _ _ rfl
theorem k154_15 : am_at 154 15 = some (.bipush 2, 16) := am_kq154 9 _ _ _ rfl
theorem k154_16 : am_at 154 16 = some (.if_icmp .ne 26, 19) := am_kq154 10 _ _ _ rfl
theorem k154_19 : am_at 154 19 = some (.aload 1, 20) := am_kq154 11 _ _ _ rfl
theorem k154_20 : am_at 154 20 = some (.invokestatic 114, 23) := am_kq154 12 _ _ _ rfl
theorem k154_23 : am_at 154 23 = some (.goto 27, 26) := am_kq154 13 _ _ _ rfl
theorem k154_26 : am_at 154 26 = some (.iload 3, 27) := am_kq154 14 _ _ _ rfl
theorem k154_27 : am_at 154 27 = some (.invokestatic 146, 30) := am_kq154 15 _ _ _ rfl
theorem k154_30 : am_at 154 30 = some (.return_, 31) := am_kq154 16 _ _ _ rfl
set_option maxRecDepth 20000 in
theorem am_kq155 (i pc : Nat) (x : Instr) (nx : Nat) (hi : am_t155[i]? = some (pc, x, nx)) : am_at 155 pc = some (x, nx) := am_kB 155 am_t155 rfl (by decide +kernel) i pc x nx hi
theorem k155_0 : am_at 155 0 = some (.aload 0, 1) := am_kq155 0 _ _ _ rfl
theorem k155_1 : am_at 155 1 = some (.getfield 448, 4) := am_kq155 1 _ _ _ rfl
theorem k155_4 : am_at 155 4 = some (.iload 2, 5) := am_kq155 2 _ _ _ rfl
theorem k155_5 : am_at 155 5 = some (.invokestatic 85, 8) := am_kq155 3 _ _ _ rfl
theorem k155_8 : am_at 155 8 = some (.ifCond .eq 26, 11) := am_kq155 4 _ _ _ rfl
theorem k155_11 : am_at 155 11 = some (.aload 0, 12) := am_kq155 5 _ _ _ rfl
theorem k155_12 : am_at 155 12 = some (.getfield 449, 15) := am_kq155 6 _ _ _ rfl
theorem k155_15 : am_at 155 15 = some (.aload 1, 16) := am_kq155 7 _ _ _ rfl
theorem k155_16 : am_at 155 16 = some (.invokestatic 113, 19) := am_kq155 8 _ _ _ rfl
theorem k155_19 : am_at 155 19 = some (.iload 2, 20) := am_kq155 9 _ _ _ rfl
theorem k155_20 : am_at 155 20 = some (.invokestatic 123, 23) := am_kq155 10 _ _ _ rfl
theorem k155_23 : am_at 155 23 = some (.goto 32, 26) := am_kq155 11 _ _ _ rfl
theorem k155_26 : am_at 155 26 = some (.aload 0, 27) := am_kq155 12 _ _ _ rfl
theorem k155_27 : am_at 155 27 = some (.bipush (-2), 29) := am_kq155 13 _ _ _ rfl
theorem k155_29 : am_at 155 29 = some (.putfield 459, 32) := am_kq155 14 _ _ _ rfl
theorem k155_32 : am_at 155 32 = some (.return_, 33) := am_kq155 15 _ _ _ rfl
set_option maxRecDepth 20000 in
theorem am_kq156 (i pc : Nat) (x : Instr) (nx : Nat) (hi : am_t156[i]? = some (pc, x, nx)) : am_at 156 pc = some (x, nx) := am_kB 156 am_t156 rfl (by decide +kernel) i pc x nx hi
theorem k156_0 : am_at 156 0 = some (.aload 1, 1) := am_kq156 0 _ _ _ rfl
theorem k156_1 : am_at 156 1 = some (.getfield 640, 4) := am_kq156 1 _ _ _ rfl
theorem k156_4 : am_at 156 4 = some (.getfield 514, 7) := am_kq156 2 _ _ _ rfl
theorem k156_7 : am_at 156 7 = some (.bipush 2, 8) := am_kq156 3 _ _ _ rfl
theorem k156_8 : am_at 156 8 = some (.if_icmp .ne 27, 11) := am_kq156 4 _ _ _ rfl
theorem k156_11 : am_at 156 11 = some (.aload 1, 12) := am_kq156 5 _ _ _ rfl
theorem k156_12 : am_at 156 12 = some (.aload 1, 13) := am_kq156 6 _ _ _ rfl
theorem k156_13 : am_at 156 13 = some (.getfield 646, 16) := am_kq156 7 _ _ _ rfl
theorem k156_16 : am_at 156 16 = some (.ifCond .ne 23, 19) := am_kq156 8 _ _ _ rfl
theorem k156_19 : am_at 156 19 = some (.bipush 1, 20) := am_kq156 9 _ _ _ rfl
theorem k156_20 : am_at 156 20 = some (.goto 24, 23) := am_kq156 10 _ _ _ rfl
theorem k156_23 : am_at 156 23 = some (.bipush 0, 24) := am_kq156 11 _ _ _ rfl
theorem k156_24 : am_at 156 24 = some (.putfield 646, 27) := am_kq156 12 _ _ _ rfl
theorem k156_27 : am_at 156 27 = some (.return_, 28) := am_kq156 13 _ _ _ rfl
set_option maxRecDepth 20000 in
theorem am_kq157 (i pc : Nat) (x : Instr) (nx : Nat) (hi : am_t157[i]? = some (pc, x, nx)) : am_at 157 pc = some (x, nx) := am_kB 157 am_t157 rfl (by decide +kernel) i pc x nx hi
theorem k157_0 : am_at 157 0 = some (.aload 0, 1) := am_kq157 0 _ _ _ rfl
theorem k157_1 : am_at 157 1 = some (.monitorenter, 4) := am_kq157 1 _ _ _ rfl
theorem k157_4 : am_at 157 4 = some (.aload 0, 5) := am_kq157 2 _ _ _ rfl
theorem k157_5 : am_at 157 5 = some (.bipush 5, 6) := am_kq157 3 _ _ _ rfl
theorem k157_6 : am_at 157 6 = some (.newarray .int, 8) := am_kq157 4 _ _ _ rfl
theorem k157_8 : am_at 157 8 = some (.putfield 192, 11) := am_kq157 5 _ _ _ rfl
theorem k157_11 : am_at 157 11 = some (.aload 0, 12) := am_kq157 6 _ _ _ rfl
theorem k157_12 : am_at 157 12 = some (.bipush 16, 14) := am_kq157 7 _ _ _ rfl
theorem k157_14 : am_at 157 14 = some (.newarray .int, 16) := am_kq157 8 _ _ _ rfl
theorem k157_16 : am_at 157 16 = some (.putfield 193, 19) := am_kq157 9 _ _ _ rfl
theorem k157_19 : am_at 157 19 = some (.aload 0, 20) := am_kq157 10 _ _ _ rfl
theorem k157_20 : am_at 157 20 = some (.bipush 16, 22) := am_kq157 11 _ _ _ rfl
theorem k157_22 : am_at 157 22 = some (.newarray .int, 24) := am_kq157 12 _ _ _ rfl
theorem k157_24 : am_at 157 24 = some (.putfield 194, 27) := am_kq157 13 _ _ _ rfl
theorem k157_27 : am_at 157 27 = some (.aload 0, 28) := am_kq157 14 _ _ _ rfl
theorem k157_28 : am_at 157 28 = some (.bipush 16, 30) := am_kq157 15 _ _ _ rfl
theorem k157_30 : am_at 157 30 = some (.newarray .int, 32) := am_kq157 16 _ _ _ rfl
theorem k157_32 : am_at 157 32 = some (.putfield 195, 35) := am_kq157 17 _ _ _ rfl
theorem k157_35 : am_at 157 35 = some (.aload 0, 36) := am_kq157 18 _ _ _ rfl
theorem k157_36 : am_at 157 36 = some (.bipush 16, 38) := am_kq157 19 _ _ _ rfl
theorem k157_38 : am_at 157 38 = some (.newarray .int, 40) := am_kq157 20 _ _ _ rfl
theorem k157_40 : am_at 157 40 = some (.putfield 196, 43) := am_kq157 21 _ _ _ rfl
theorem k157_43 : am_at 157 43 = some (.aload 0, 44) := am_kq157 22 _ _ _ rfl
theorem k157_44 : am_at 157 44 = some (.bipush 16, 46) := am_kq157 23 _ _ _ rfl
theorem k157_46 : am_at 157 46 = some (.newarray .int, 48) := am_kq157 24 _ _ _ rfl
theorem k157_48 : am_at 157 48 = some (.putfield 197, 51) := am_kq157 25 _ _ _ rfl
theorem k157_51 : am_at 157 51 = some (.aload 0, 52) := am_kq157 26 _ _ _ rfl
theorem k157_52 : am_at 157 52 = some (.bipush 0, 53) := am_kq157 27 _ _ _ rfl
theorem k157_53 : am_at 157 53 = some (.putfield 198, 56) := am_kq157 28 _ _ _ rfl
theorem k157_56 : am_at 157 56 = some (.bipush 0, 57) := am_kq157 29 _ _ _ rfl
theorem k157_57 : am_at 157 57 = some (.istore 1, 58) := am_kq157 30 _ _ _ rfl
theorem k157_58 : am_at 157 58 = some (.iload 1, 59) := am_kq157 31 _ _ _ rfl
theorem k157_59 : am_at 157 59 = some (.bipush 16, 61) := am_kq157 32 _ _ _ rfl
theorem k157_61 : am_at 157 61 = some (.if_icmp .ge 77, 64) := am_kq157 33 _ _ _ rfl
theorem k157_64 : am_at 157 64 = some (.aload 0, 65) := am_kq157 34 _ _ _ rfl
theorem k157_65 : am_at 157 65 = some (.getfield 193, 68) := am_kq157 35 _ _ _ rfl
theorem k157_68 : am_at 157 68 = some (.iload 1, 69) := am_kq157 36 _ _ _ rfl
theorem k157_69 : am_at 157 69 = some (.bipush (-1), 70) := am_kq157 37 _ _ _ rfl
theorem k157_70 : am_at 157 70 = some (.iastore, 71) := am_kq157 38 _ _ _ rfl
theorem k157_71 : am_at 157 71 = some (.iinc 1 1, 74) := am_kq157 39 _ _ _ rfl
theorem k157_74 : am_at 157 74 = some (.goto 58, 77) := am_kq157 40 _ _ _ rfl
theorem k157_77 : am_at 157 77 = some (.return_, 78) := am_kq157 41 _ _ _ rfl
set_option maxRecDepth 20000 in
theorem am_kq158 (i pc : Nat) (x : Instr) (nx : Nat) (hi : am_t158[i]? = some (pc, x, nx)) : am_at 158 pc = some (x, nx) := am_kB 158 am_t158 rfl (by decide +kernel) i pc x nx hi
theorem k158_0 : am_at 158 0 = some (.aload 0, 1) := am_kq158 0 _ _ _ rfl
theorem k158_1 : am_at 158 1 = some (.getfield 198, 4) := am_kq158 1 _ _ _ rfl
theorem k158_4 : am_at 158 4 = some (.ireturn, 5) := am_kq158 2 _ _ _ rfl
set_option maxRecDepth 20000 in
theorem am_kq159 (i pc : Nat) (x : Instr) (nx : Nat) (hi : am_t159[i]? = some (pc, x, nx)) : am_at 159 pc = some (x, nx) := am_kB 159 am_t159 rfl (by decide +kernel) i pc x nx hi
theorem k159_0 : am_at 159 0 = some (.aload 0, 1) := am_kq159 0 _ _ _ rfl
theorem k159_1 : am_at 159 1 = some (.getfield 192, 4) := am_kq159 1 _ _ _ rfl
theorem k159_4 : am_at 159 4 = some (.iload 1, 5) := am_kq159 2 _ _ _ rfl
theorem k159_5 : am_at 159 5 = some (.iaload, 6) := am_kq159 3 _ _ _ rfl
theorem k159_6 : am_at 159 6 = some (.ireturn, 7) := am_kq159 4 _ _ _ rfl
set_option maxRecDepth 20000 in
theorem am_kq160 (i pc : Nat) (x : Instr) (nx : Nat) (hi : am_t160[i]? = some (pc, x, nx)) : am_at 160 pc = some (x, nx) := am_kB 160 am_t160 rfl (by decide +kernel) i pc x nx hi
theorem k160_0 : am_at 160 0 = some (.iload 1, 1) := am_kq160 0 _ _ _ rfl
theorem k160_1 : am_at 160 1 = some (.bipush 0, 2) := am_kq160 1 _ _ _ rfl
theorem k160_2 : am_at 160 2 = some (.bipush 15, 4) := am_kq160 2 _ _ _ rfl
theorem k160_4 : am_at 160 4 = some (.invokestatic 27, 7) := am_kq160 3 _ _ _ rfl
theorem k160_7 : am_at 160 7 = some (.ifCond .eq 24, 10) := am_kq160 4 _ _ _ rfl
theorem k160_10 : am_at 160 10 = some (.aload 0, 11) := am_kq160 5 _ _ _ rfl
theorem k160_11 : am_at 160 11 = some (.getfield 193, 14) := am_kq160 6 _ _ _ rfl
theorem k160_14 : am_at 160 14 = some (.iload 1, 15) := am_kq160 7 _ _ _ rfl
theorem k160_15 : am_at 160 15 = some (.iaload, 16) := am_kq160 8 _ _ _ rfl
theorem k160_16 : am_at 160 16 = some (.bipush (-1), 17) := am_kq160 9 _ _ _ rfl
theorem k160_17 : am_at 160 17 = some (.if_icmp .eq 24, 20) := am_kq160 10 _ _ _ rfl
theorem k160_20 : am_at 160 20 = some (.bipush 1, 21) := am_kq160 11 _ _ _ rfl
theorem k160_21 : am_at 160 21 = some (.goto 25, 24) := am_kq160 12 _ _ _ rfl
theorem k160_24 : am_at 160 24 = some (.bipush 0, 25) := am_kq160 13 _ _ _ rfl
theorem k160_25 : am_at 160 25 = some (.ireturn, 26) := am_kq160 14 _ _ _ rfl
set_option maxRecDepth 20000 in
theorem am_kq161 (i pc : Nat) (x : Instr) (nx : Nat) (hi : am_t161[i]? = some (pc, x, nx)) : am_at 161 pc = some (x, nx) := am_kB 161 am_t161 rfl (by decide +kernel) i pc x nx hi
theorem k161_0 : am_at 161 0 = some (.aload 0, 1) := am_kq161 0 _ _ _ rfl
theorem k161_1 : am_at 161 1 = some (.getfield 193, 4) := am_kq161 1 _ _ _ rfl
theorem k161_4 : am_at 161 4 = some (.iload 1, 5) := am_kq161 2 _ _ _ rfl
theorem k161_5 : am_at 161 5 = some (.iaload, 6) := am_kq161 3 _ _ _ rfl
theorem k161_6 : am_at 161 6 = some (.iload 2, 7) := am_kq161 4 _ _ _ rfl
theorem k161_7 : am_at 161 7 = some (.if_icmp .ne 14, 10) := am_kq161 5 _ _ _ rfl
theorem k161_10 : am_at 161 10 = some (.bipush 1, 11) := am_kq161 6 _ _ _ rfl
theorem k161_11 : am_at 161 11 = some (.goto 15, 14) := am_kq161 7 _ _ _ rfl
theorem k161_14 : am_at 161 14 = some (.bipush 0, 15) := am_kq161 8 _ _ _ rfl
theorem k161_15 : am_at 161 15 = some (.ireturn, 16) := am_kq161 9 _ _ _ rfl
set_option maxRecDepth 20000 in
theorem am_kq162 (i pc : Nat) (x : Instr) (nx : Nat) (hi : am_t162[i]? = some (pc, x, nx)) : am_at 162 pc = some (x, nx) := am_kB 162 am_t162 rfl (by decide +kernel) i pc x nx hi
theorem k162_0 : am_at 162 0 = some (.aload 0, 1) := am_kq162 0 _ _ _ rfl
theorem k162_1 : am_at 162 1 = some (.getfield 194, 4) := am_kq162 1 _ _ _ rfl
theorem k162_4 : am_at 162 4 = some (.iload 1, 5) := am_kq162 2 _ _ _ rfl
theorem k162_5 : am_at 162 5 = some (.iaload, 6) := am_kq162 3 _ _ _ rfl
theorem k162_6 : am_at 162 6 = some (.ireturn, 7) := am_kq162 4 _ _ _ rfl
set_option maxRecDepth 20000 in
theorem am_kq163 (i pc : Nat) (x : Instr) (nx : Nat) (hi : am_t163[i]? = some (pc, x, nx)) : am_at 163 pc = some (x, nx) := am_kB 163 am_t163 rfl (by decide +kernel) i pc x nx hi
theorem k163_0 : am_at 163 0 = some (.aload 0, 1) := am_kq163 0 _ _ _ rfl
theorem k163_1 : am_at 163 1 = some (.getfield 195, 4) := am_kq163 1 _ _ _ rfl
theorem k163_4 : am_at 163 4 = some (.iload 1, 5) := am_kq163 2 _ _ _ rfl
theorem k163_5 : am_at 163 5 = some (.iaload, 6) := am_kq163 3 _ _ _ rfl
theorem k163_6 : am_at 163 6 = some (.ireturn, 7) := am_kq163 4 _ _ _ rfl
set_option maxRecDepth 20000 in
theorem am_kq164 (i pc : Nat) (x : Instr) (nx : Nat) (hi : am_t164[i]? = some (pc, x, nx)) : am_at 164 pc = some (x, nx) := am_kB 164 am_t164 rfl (by decide +kernel) i pc x nx hi
theorem k164_0 : am_at 164 0 = some (.aload 0, 1) := am_kq164 0 _ _ _ rfl
theorem k164_1 : am_at 164 1 = some (.getfield 196, 4) := am_kq164 1 _ _ _ rfl
theorem k164_4 : am_at 164 4 = some (.iload 1, 5) := am_kq164 2 _ _ _ rfl
theorem k164_5 : am_at 164 5 = some (.iaload, 6) := am_kq164 3 _ _ _ rfl
theorem k164_6 : am_at 164 6 = some (.ireturn, 7) := am_kq164 4 _ _ _ rfl
set_option maxRecDepth 20000 in
theorem am_kq165 (i pc : Nat) (x : Instr) (nx : Nat) (hi : am_t165[i]? = some (pc, x, nx)) : am_at 165 pc = some (x, nx) := am_kB 165 am_t165 rfl (by decide +kernel) i pc x nx hi
theorem k165_0 : am_at 165 0 = some (.aload 0, 1) := am_kq165 0 _ _ _ rfl
theorem k165_1 : am_at 165 1 = some (.getfield 195, 4) := am_kq165 1 _ _ _ rfl
theorem k165_4 : am_at 165 4 = some (.iload 1, 5) := am_kq165 2 _ _ _ rfl
theorem k165_5 : am_at 165 5 = some (.iaload, 6) := am_kq165 3 _ _ _ rfl
theorem k165_6 : am_at 165 6 = some (.bipush 16, 8) := am_kq165 4 _ _ _ rfl
theorem k165_8 : am_at 165 8 = some (.if_icmp .ge 22, 11) := am_kq165 5 _ _ _ rfl
theorem k165_11 : am_at 165 11 = some (.aload 0, 12) := am_kq165 6 _ _ _ rfl
theorem k165_12 : am_at 165 12 = some (.getfield 196, 15) := am_kq165 7 _ _ _ rfl
theorem k165_15 : am_at 165 15 = some (.iload 1, 16) := am_kq165 8 _ _ _ rfl
theorem k165_16 : am_at 165 16 = some (.iaload, 17) := am_kq165 9 _ _ _ rfl
theorem k165_17 : am_at 165 17 = some (.bipush 16, 19) := am_kq165 10 _ _ _ rfl
theorem k165_19 : am_at 165 19 = some (.if_icmp .lt 26, 22) := am_kq165 11 _ _ _ rfl
theorem k165_22 : am_at 165 22 = some (.bipush 1, 23) := am_kq165 12 _ _ _ rfl
theorem k165_23 : am_at 165 23 = some (.goto 27, 26) := am_kq165 13 _ _ _ rfl
theorem k165_26 : am_at 165 26 = some (.bipush 0, 27) := am_kq165 14 _ _ _ rfl
theorem k165_27 : am_at 165 27 = some (.ireturn, 28) := am_kq165 15 _ _ _ rfl
set_option maxRecDepth 20000 in
theorem am_kq166 (i pc : Nat) (x : Instr) (nx : Nat) (hi : am_t166[i]? = some (pc, x, nx)) : am_at 166 pc = some (x, nx) := am_kB 166 am_t166 rfl (by decide +kernel) i pc x nx hi
theorem k166_0 : am_at 166 0 = some (.aload 0, 1) := am_kq166 0 _ _ _ rfl
theorem k166_1 : am_at 166 1 = some (.getfield 197, 4) := am_kq166 1 _ _ _ rfl
theorem k166_4 : am_at 166 4 = some (.iload 1, 5) := am_kq166 2 _ _ _ rfl
theorem k166_5 : am_at 166 5 = some (.iaload, 6) := am_kq166 3 _ _ _ rfl
theorem k166_6 : am_at 166 6 = some (.ireturn, 7) := am_kq166 4 _ _ _ rfl
set_option maxRecDepth 20000 in
theorem am_kq167 (i pc : Nat) (x : Instr) (nx : Nat) (hi : am_t167[i]? = some (pc, x, nx)) : am_at 167 pc = some (x, nx) := am_kB 167 am_t167 rfl (by decide +kernel) i pc x nx hi
theorem k167_0 : am_at 167 0 = some (.bipush 0, 1) := am_kq167 0 _ _ _ rfl
theorem k167_1 : am_at 167 1 = some (.istore 3, 2) := am_kq167 1 _ _ _ rfl
theorem k167_2 : am_at 167 2 = some (.bipush 0, 3) := am_kq167 2 _ _ _ rfl
theorem k167_3 : am_at 167 3 = some (.istore 4, 5) := am_kq167 3 _ _ _ rfl
theorem k167_5 : am_at 167 5 = some (.iload 4, 7) := am_kq167 4 _ _ _ rfl
theorem k167_7 : am_at 167 7 = some (.bipush 16, 9) := am_kq167 5 _ _ _ rfl
theorem k167_9 : am_at 167 9 = some (.if_icmp .ge 38, 12) := am_kq167 6 _ _ _ rfl
theorem k167_12 : am_at 167 12 = some (.aload 0, 13) := am_kq167 7 _ _ _ rfl
theorem k167_13 : am_at 167 13 = some (.iload 4, 15) := am_kq167 8 _ _ _ rfl
theorem k167_15 : am_at 167 15 = some (.iload 1, 16) := am_kq167 9 _ _ _ rfl
theorem k167_16 : am_at 167 16 = some (.invokestatic 161, 19) := am_kq167 10 _ _ _ rfl
theorem k167_19 : am_at 167 19 = some (.ifCond .eq 32, 22) := am_kq167 11 _ _ _ rfl
theorem k167_22 : am_at 167 22 = some (.aload 0, 23) := am_kq167 12 _ _ _ rfl
theorem k167_23 : am_at 167 23 = some (.iload 4, 25) := am_kq167 13 _ _ _ rfl
theorem k167_25 : am_at 167 25 = some (.invokestatic 171, 28) := am_kq167 14 _ _ _ rfl
theorem k167_28 : am_at 167 28 = some (.pop, 29) := am_kq167 15 _ _ _ rfl
theorem k167_29 : am_at 167 29 = some (.iinc 3 1, 32) := am_kq167 16 _ _ _ rfl
theorem k167_32 : am_at 167 32 = some (.iinc 4 1, 35) := am_kq167 17 _ _ _ rfl
theorem k167_35 : am_at 167 35 = some (.goto 5, 38) := am_kq167 18 _ _ _ rfl
theorem k167_38 : am_at 167 38 = some (.aload 0, 39) := am_kq167 19 _ _ _ rfl
theorem k167_39 : am_at 167 39 = some (.getfield 192, 42) := am_kq167 20 _ _ _ rfl
theorem k167_42 : am_at 167 42 = some (.iload 1, 43) := am_kq167 21 _ _ _ rfl
theorem k167_43 : am_at 167 43 = some (.iload 2, 44) := am_kq167 22 _ _ _ rfl
theorem k167_44 : am_at 167 44 = some (.iastore, 45) := am_kq167 23 _ _ _ rfl
theorem k167_45 : am_at 167 45 = some (.iload 3, 46) := am_kq167 24 _ _ _ rfl
theorem k167_46 : am_at 167 46 = some (.ireturn, 47) := am_kq167 25 _ _ _ rfl
set_option maxRecDepth 20000 in
theorem am_kq168 (i pc : Nat) (x : Instr) (nx : Nat) (hi : am_t168[i]? = some (pc, x, nx)) : am_at 168 pc = some (x, nx) := am_kB 168 am_t168 rfl (by decide +kernel) i pc x nx hi
theorem k168_0 : am_at 168 0 = some (.aload 0, 1) := am_kq168 0 _ _ _ rfl
theorem k168_1 : am_at 168 1 = some (.iload 1, 2) := am_kq168 1 _ _ _ rfl
theorem k168_2 : am_at 168 2 = some (.iload 2, 3) := am_kq168 2 _ _ _ rfl
theorem k168_3 : am_at 168 3 = some (.iload 3, 4) := am_kq168 3 _ _ _ rfl
theorem k168_4 : am_at 168 4 = some (.iload 4, 6) := am_kq168 4 _ _ _ rfl
theorem k168_6 : am_at 168 6 = some (.invokestatic 169, 9) := am_kq168 5 _ _ _ rfl
theorem k168_9 : am_at 168 9 = some (.istore 6, 11) := am_kq168 6 _ _ _ rfl
theorem k168_11 : am_at 168 11 = some (.iload 6, 13) := am_kq168 7 _ _ _ rfl
theorem k168_13 : am_at 168 13 = some (.ifCond .ge 40, 16) := am_kq168 8 _ _ _ rfl
theorem k168_16 : am_at 168 16 = some (.aload 0, 17) := am_kq168 9 _ _ _ rfl
theorem k168_17 : am_at 168 17 = some (.invokestatic 170, 20) := am_kq168 10 _ _ _ rfl
theorem k168_20 : am_at 168 20 = some (.istore 6, 22) := am_kq168 11 _ _ _ rfl
theorem k168_22 : am_at 168 22 = some (.iload 6, 24) := am_kq168 12 _ _ _ rfl
theorem k168_24 : am_at 168 24 = some (.ifCond .ge 30, 27) := am_kq168 13 _ _ _ rfl
theorem k168_27 : am_at 168 27 = some (.bipush (-3), 29) := am_kq168 14 _ _ _ rfl
theorem k168_29 : am_at 168 29 = some (.ireturn, 30) := am_kq168 15 _ _ _ rfl
theorem k168_30 : am_at 168 30 = some (.aload 0, 31) := am_kq168 16 _ _ _ rfl
theorem k168_31 : am_at 168 31 = some (.dup, 32) := am_kq168 17 _ _ _ rfl
theorem k168_32 : am_at 168 32 = some (.getfield 198, 35) := am_kq168 18 _ _ _ rfl
theorem k168_35 : am_at 168 35 = some (.bipush 1, 36) := am_kq168 19 _ _ _ rfl
theorem k168_36 : am_at 168 36 = some (.iadd, 37) := am_kq168 20 _ _ _ rfl
theorem k168_37 : am_at 168 37 = some (.putfield 198, 40) := am_kq168 21 _ _ _ rfl
theorem k168_40 : am_at 168 40 = some (.aload 0, 41) := am_kq168 22 _ _ _ rfl
theorem k168_41 : am_at 168 41 = some (.getfield 193, 44) := am_kq168 23 _ _ _ rfl
theorem k168_44 : am_at 168 44 = some (.iload 6, 46) := am_kq168 24 _ _ _ rfl
theorem k168_46 : am_at 168 46 = some (.iload 1, 47) := am_kq168 25 _ _ _ rfl
theorem k168_47 : am_at 168 47 = some (.iastore, 48) := am_kq168 26 _ _ _ rfl
theorem k168_48 : am_at 168 48 = some (.aload 0, 49) := am_kq168 27 _ _ _ rfl
theorem k168_49 : am_at 168 49 = some (.getfield 194, 52) := am_kq168 28 _ _ _ rfl
theorem k168_52 : am_at 168 52 = some (.iload 6, 54) := am_kq168 29 _ _ _ rfl
theorem k168_54 : am_at 168 54 = some (.iload 2, 55) := am_kq168 30 _ _ _ rfl
theorem k168_55 : am_at 168 55 = some (.iastore, 56) := am_kq168 31 _ _ _ rfl
theorem k168_56 : am_at 168 56 = some (.aload 0, 57) := am_kq168 32 _ _ _ rfl
theorem k168_57 : am_at 168 57 = some (.getfield 195, 60) := am_kq168 33 _ _ _ rfl
theorem k168_60 : am_at 168 60 = some (.iload 6, 62) := am_kq168 34 _ _ _ rfl
theorem k168_62 : am_at 168 62 = some (.iload 3, 63) := am_kq168 35 _ _ _ rfl
theorem k168_63 : am_at 168 63 = some (.iastore, 64) := am_kq168 36 _ _ _ rfl
theorem k168_64 : am_at 168 64 = some (.aload 0, 65) := am_kq168 37 _ _ _ rfl
theorem k168_65 : am_at 168 65 = some (.getfield 196, 68) := am_kq168 38 _ _ _ rfl
theorem k168_68 : am_at 168 68 = some (.iload 6, 70) := am_kq168 39 _ _ _ rfl
theorem k168_70 : am_at 168 70 = some (.iload 4, 72) := am_kq168 40 _ _ _ rfl
theorem k168_72 : am_at 168 72 = some (.iastore, 73) := am_kq168 41 _ _ _ rfl
theorem k168_73 : am_at 168 73 = some (.aload 0, 74) := am_kq168 42 _ _ _ rfl
theorem k168_74 : am_at 168 74 = some (.getfield 197, 77) := am_kq168 43 _ _ _ rfl
theorem k168_77 : am_at 168 77 = some (.iload 6, 79) := am_kq168 44 _ _ _ rfl
theorem k168_79 : am_at 168 79 = some (.iload 5, 81) := am_kq168 45 _ _ _ rfl
theorem k168_81 : am_at 168 81 = some (.iastore, 82) := am_kq168 46 _ _ _ rfl
theorem k168_82 : am_at 168 82 = some (.iload 6, 84) := am_kq168 47 _ _ _ rfl
theorem k168_84 : am_at 168 84 = some (.ireturn, 85) := am_kq168 48 _ _ _ rfl
set_option maxRecDepth 20000 in
theorem am_kq169 (i pc : Nat) (x : Instr) (nx : Nat) (hi : am_t169[i]? = some (pc, x, nx)) : am_at 169 pc = some (x, nx) := am_kB 169 am_t169 rfl (by decide +kernel) i pc x nx hi
theorem k169_0 : am_at 169 0 = some (.bipush 0, 1) := am_kq169 0 _ _ _ rfl
theorem k169_1 : am_at 169 1 = some (.istore 5, 3) := am_kq169 1 _ _ _ rfl
theorem k169_3 : am_at 169 3 = some (.iload 5, 5) := am_kq169 2 _ _ _ rfl
theorem k169_5 : am_at 169 5 = some (.bipush 16, 7) := am_kq169 3 _ _ _ rfl
theorem k169_7 : am_at 169 7 = some (.if_icmp .ge 63, 10) := am_kq169 4 _ _ _ rfl
theorem k169_10 : am_at 169 10 = some (.aload 0, 11) := am_kq169 5 _ _ _ rfl
theorem k169_11 : am_at 169 11 = some (.iload 5, 13) := am_kq169 6 _ _ _ rfl
theorem k169_13 : am_at 169 13 = some (.iload 1, 14) := am_kq169 7 _ _ _ rfl
theorem k169_14 : am_at 169 14 = some (.invokestatic 161, 17) := am_kq169 8 _ _ _ rfl
theorem k169_17 : am_at 169 17 = some (.ifCond .eq 57, 20) := am_kq169 9 _ _ _ rfl
theorem k169_20 : am_at 169 20 = some (.aload 0, 21) := am_kq169 10 _ _ _ rfl
theorem k169_21 : am_at 169 21 = some (.getfield 194, 24) := am_kq169 11 _ _ _ rfl
theorem k169_24 : am_at 169 24 = some (.iload 5, 26) := am_kq169 12 _ _ _ rfl
theorem k169_26 : am_at 169 26 = some (.iaload, 27) := am_kq169 13 _ _ _ rfl
theorem k169_27 : am_at 169 27 = some (.iload 2, 28) := am_kq169 14 _ _ _ rfl
theorem k169_28 : am_at 169 28 = some (.if_icmp .ne 57, 31) := am_kq169 15 _ _ _ rfl
theorem k169_31 : am_at 169 31 = some (.aload 0, 32) := am_kq169 16 _ _ _ rfl
theorem k169_32 : am_at 169 32 = some (.getfield 195, 35) := am_kq169 17 _ _ _ rfl
theorem k169_35 : am_at 169 35 = some (.iload 5, 37) := am_kq169 18 _ _ _ rfl
theorem k169_37 : am_at 169 37 = some (.iaload, 38) := am_kq169 19 _ _ _ rfl
theorem k169_38 : am_at 169 38 = some (.iload 3, 39) := am_kq169 20 _ _ _ rfl
theorem k169_39 : am_at 169 39 = some (.if_icmp .ne 57, 42) := am_kq169 21 _ _ _ rfl
theorem k169_42 : am_at 169 42 = some (.aload 0, 43) := am_kq169 22 _ _ _ rfl
theorem k169_43 : am_at 169 43 = some (.getfield 196, 46) := am_kq169 23 _ _ _ rfl
theorem k169_46 : am_at 169 46 = some (.iload 5, 48) := am_kq169 24 _ _ _ rfl
theorem k169_48 : am_at 169 48 = some (.iaload, 49) := am_kq169 25 _ _ _ rfl
theorem k169_49 : am_at 169 49 = some (.iload 4, 51) := am_kq169 26 _ _ _ rfl
theorem k169_51 : am_at 169 51 = some (.if_icmp .ne 57, 54) := am_kq169 27 _ _ _ rfl
theorem k169_54 : am_at 169 54 = some (.iload 5, 56) := am_kq169 28 _ _ _ rfl
theorem k169_56 : am_at 169 56 = some (.ireturn, 57) := am_kq169 29 _ _ _ rfl
theorem k169_57 : am_at 169 57 = some (.iinc 5 1, 60) := am_kq169 30 _ _ _ rfl
theorem k169_60 : am_at 169 60 = some (.goto 3, 63) := am_kq169 31 _ _ _ rfl
theorem k169_63 : am_at 169 63 = some (.bipush (-1), 64) := am_kq169 32 _ _ _ rfl
theorem k169_64 : am_at 169 64 = some (.ireturn, 65) := am_kq169 33 _ _ _ rfl
set_option maxRecDepth 20000 in
theorem am_kq170 (i pc : Nat) (x : Instr) (nx : Nat) (hi : am_t170[i]? = some (pc, x, nx)) : am_at 170 pc = some (x, nx) := am_kB 170 am_t170 rfl (by decide +kernel) i pc x nx hi
theorem k170_0 : am_at 170 0 = some (.bipush 0, 1) := am_kq170 0 _ _ _ rfl
theorem k170_1 : am_at 170 1 = some (.istore 1, 2) := am_kq170 1 _ _ _ rfl
theorem k170_2 : am_at 170 2 = some (.iload 1, 3) := am_kq170 2 _ _ _ rfl
theorem k170_3 : am_at 170 3 = some (.bipush 16, 5) := am_kq170 3 _ _ _ rfl
theorem k170_5 : am_at 170 5 = some (.if_icmp .ge 26, 8) := am_kq170 4 _ _ _ rfl
theorem k170_8 : am_at 170 8 = some (.aload 0, 9) := am_kq170 5 _ _ _ rfl
theorem k170_9 : am_at 170 9 = some (.getfield 193, 12) := am_kq170 6 _ _ _ rfl
theorem k170_12 : am_at 170 12 = some (.iload 1, 13) := am_kq170 7 _ _ _ rfl
theorem k170_13 : am_at 170 13 = some (.iaload, 14) := am_kq170 8 _ _ _ rfl
theorem k170_14 : am_at 170 14 = some (.bipush (-1), 15) := am_kq170 9 _ _ _ rfl
theorem k170_15 : am_at 170 15 = some (.if_icmp .ne 20, 18) := am_kq170 10 _ _ _ rfl
theorem k170_18 : am_at 170 18 = some (.iload 1, 19) := am_kq170 11 _ _ _ rfl
theorem k170_19 : am_at 170 19 = some (.ireturn, 20) := am_kq170 12 _ _ _ rfl
theorem k170_20 : am_at 170 20 = some (.iinc 1 1, 23) := am_kq170 13 _ _ _ rfl
theorem k170_23 : am_at 170 23 = some (.goto 2, 26) := am_kq170 14 _ _ _ rfl
theorem k170_26 : am_at 170 26 = some (.bipush (-1), 27) := am_kq170 15 _ _ _ rfl
theorem k170_27 : am_at 170 27 = some (.ireturn, 28) := am_kq170 16 _ _ _ rfl
set_option maxRecDepth 20000 in
theorem am_kq171 (i pc : Nat) (x : Instr) (nx : Nat) (hi : am_t171[i]? = some (pc, x, nx)) : am_at 171 pc = some (x, nx) := am_kB 171 am_t171 rfl (by decide +kernel) i pc x nx hi
theorem k171_0 : am_at 171 0 = some (.aload 0, 1) := am_kq171 0 _ _ _ rfl
theorem k171_1 : am_at 171 1 = some (.getfield 193, 4) := am_kq171 1 _ _ _ rfl
theorem k171_4 : am_at 171 4 = some (.iload 1, 5) := am_kq171 2 _ _ _ rfl
theorem k171_5 : am_at 171 5 = some (.iaload, 6) := am_kq171 3 _ _ _ rfl
theorem k171_6 : am_at 171 6 = some (.istore 2, 7) := am_kq171 4 _ _ _ rfl
theorem k171_7 : am_at 171 7 = some (.aload 0, 8) := am_kq171 5 _ _ _ rfl
theorem k171_8 : am_at 171 8 = some (.getfield 193, 11) := am_kq171 6 _ _ _ rfl
theorem k171_11 : am_at 171 11 = some (.iload 1, 12) := am_kq171 7 _ _ _ rfl
theorem k171_12 : am_at 171 12 = some (.bipush (-1), 13) := am_kq171 8 _ _ _ rfl
theorem k171_13 : am_at 171 13 = some (.iastore, 14) := am_kq171 9 _ _ _ rfl
theorem k171_14 : am_at 171 14 = some (.aload 0, 15) := am_kq171 10 _ _ _ rfl
theorem k171_15 : am_at 171 15 = some (.dup, 16) := am_kq171 11 _ _ _ rfl
theorem k171_16 : am_at 171 16 = some (.getfield 198, 19) := am_kq171 12 _ _ _ rfl
theorem k171_19 : am_at 171 19 = some (.bipush 1, 20) := am_kq171 13 _ _ _ rfl
theorem k171_20 : am_at 171 20 = some (.isub, 21) := am_kq171 14 _ _ _ rfl
theorem k171_21 : am_at 171 21 = some (.putfield 198, 24) := am_kq171 15 _ _ _ rfl
theorem k171_24 : am_at 171 24 = some (.iload 2, 25) := am_kq171 16 _ _ _ rfl
theorem k171_25 : am_at 171 25 = some (.ireturn, 26) := am_kq171 17 _ _ _ rfl
set_option maxRecDepth 20000 in
theorem am_kq172 (i pc : Nat) (x : Instr) (nx : Nat) (hi : am_t172[i]? = some (pc, x, nx)) : am_at 172 pc = some (x, nx) := am_kB 172 am_t172 rfl (by decide +kernel) i pc x nx hi
theorem k172_0 : am_at 172 0 = some (.aload 0, 1) := am_kq172 0 _ _ _ rfl
theorem k172_1 : am_at 172 1 = some (.monitorenter, 4) := am_kq172 1 _ _ _ rfl
theorem k172_4 : am_at 172 4 = some (.aload 0, 5) := am_kq172 2 _ _ _ rfl
theorem k172_5 : am_at 172 5 = some (.bipush 20, 7) := am_kq172 3 _ _ _ rfl
theorem k172_7 : am_at 172 7 = some (.newarray .int, 9) := am_kq172 4 _ _ _ rfl
theorem k172_9 : am_at 172 9 = some (.putfield 384, 12) := am_kq172 5 _ _ _ rfl
theorem k172_12 : am_at 172 12 = some (.aload 0, 13) := am_kq172 6 _ _ _ rfl
theorem k172_13 : am_at 172 13 = some (.bipush 0, 14) := am_kq172 7 _ _ _ rfl
theorem k172_14 : am_at 172 14 = some (.putfield 385, 17) := am_kq172 8 _ _ _ rfl
theorem k172_17 : am_at 172 17 = some (.aload 0, 18) := am_kq172 9 _ _ _ rfl
theorem k172_18 : am_at 172 18 = some (.bipush 0, 19) := am_kq172 10 _ _ _ rfl
theorem k172_19 : am_at 172 19 = some (.putfield 386, 22) := am_kq172 11 _ _ _ rfl
theorem k172_22 : am_at 172 22 = some (.aload 0, 23) := am_kq172 12 _ _ _ rfl
theorem k172_23 : am_at 172 23 = some (.bipush 0, 24) := am_kq172 13 _ _ _ rfl
theorem k172_24 : am_at 172 24 = some (.putfield 387, 27) := am_kq172 14 _ _ _ rfl
theorem k172_27 : am_at 172 27 = some (.return_, 28) := am_kq172 15 _ _ _ rfl
set_option maxRecDepth 20000 in
theorem am_kq173 (i pc : Nat) (x : Instr) (nx : Nat) (hi : am_t173[i]? = some (pc, x, nx)) : am_at 173 pc = some (x, nx) := am_kB 173 am_t173 rfl (by decide +kernel) i pc x nx hi
theorem k173_0 : am_at 173 0 = some (.aload 0, 1) := am_kq173 0 _ _ _ rfl
theorem k173_1 : am_at 173 1 = some (.getfield 387, 4) := am_kq173 1 _ _ _ rfl
theorem k173_4 : am_at 173 4 = some (.ireturn, 5) := am_kq173 2 _ _ _ rfl
set_option maxRecDepth 20000 in
theorem am_kq174 (i pc : Nat) (x : Instr) (nx : Nat) (hi : am_t174[i]? = some (pc, x, nx)) : am_at 174 pc = some (x, nx) := am_kB 174 am_t174 rfl (by decide +kernel) i pc x nx hi
theorem k174_0 : am_at 174 0 = some (.aload 0, 1) := am_kq174 0 _ _ _ rfl
theorem k174_1 : am_at 174 1 = some (.getfield 384, 4) := am_kq174 1 _ _ _ rfl
theorem k174_4 : am_at 174 4 = some (.aload 0, 5) := am_kq174 2 _ _ _ rfl
theorem k174_5 : am_at 174 5 = some (.getfield 385, 8) := am_kq174 3 _ _ _ rfl
theorem k174_8 : am_at 174 8 = some (.iload 1, 9) := am_kq174 4 _ _ _ rfl
theorem k174_9 : am_at 174 9 = some (.iastore, 10) := am_kq174 5 _ _ _ rfl
theorem k174_10 : am_at 174 10 = some (.aload 0, 11) := am_kq174 6 _ _ _ rfl
theorem k174_11 : am_at 174 11 = some (.aload 0, 12) := am_kq174 7 _ _ _ rfl
theorem k174_12 : am_at 174 12 = some (.getfield 385, 15) := am_kq174 8 _ _ _ rfl
theorem k174_15 : am_at 174 15 = some (.bipush 1, 16) := am_kq174 9 _ _ _ rfl
theorem k174_16 : am_at 174 16 = some (.iadd, 17) := am_kq174 10 _ _ _ rfl
theorem k174_17 : am_at 174 17 = some (.bipush 20, 19) := am_kq174 11 _ _ _ rfl
theorem k174_19 : am_at 174 19 = some (.irem, 20) := am_kq174 12 _ _ _ rfl
theorem k174_20 : am_at 174 20 = some (.putfield 385, 23) := am_kq174 13 _ _ _ rfl
theorem k174_23 : am_at 174 23 = some (.aload 0, 24) := am_kq174 14 _ _ _ rfl
theorem k174_24 : am_at 174 24 = some (.aload 0, 25) := am_kq174 15 _ _ _ rfl
theorem k174_25 : am_at 174 25 = some (.getfield 386, 28) := am_kq174 16 _ _ _ rfl
theorem k174_28 : am_at 174 28 = some (.bipush 1, 29) := am_kq174 17 _ _ _ rfl
theorem k174_29 : am_at 174 29 = some (.iadd, 30) := am_kq174 18 _ _ _ rfl
theorem k174_30 : am_at 174 30 = some (.bipush 20, 32) := am_kq174 19 _ _ _ rfl
theorem k174_32 : am_at 174 32 = some (.dadd, 35) := am_kq174 20 _ _ _ rfl
theorem k174_35 : am_at 174 35 = some (.putfield 386, 38) := am_kq174 21 _ _ _ rfl
theorem k174_38 : am_at 174 38 = some (.aload 0, 39) := am_kq174 22 _ _ _ rfl
theorem k174_39 : am_at 174 39 = some (.dup, 40) := am_kq174 23 _ _ _ rfl
theorem k174_40 : am_at 174 40 = some (.getfield 387, 43) := am_kq174 24 _ _ _ rfl
theorem k174_43 : am_at 174 43 = some (.bipush 1, 44) := am_kq174 25 _ _ _ rfl
theorem k174_44 : am_at 174 44 = some (.iadd, 45) := am_kq174 26 _ _ _ rfl
theorem k174_45 : am_at 174 45 = some (.putfield 387, 48) := am_kq174 27 _ _ _ rfl
theorem k174_48 : am_at 174 48 = some (.return_, 49) := am_kq174 28 _ _ _ rfl
set_option maxRecDepth 20000 in
theorem am_kq175 (i pc : Nat) (x : Instr) (nx : Nat) (hi : am_t175[i]? = some (pc, x, nx)) : am_at 175 pc = some (x, nx) := am_kB 175 am_t175 rfl (by decide +kernel) i pc x nx hi
theorem k175_0 : am_at 175 0 = some (.iload 1, 1) := am_kq175 0 _ _ _ rfl
theorem k175_1 : am_at 175 1 = some (.bipush 0, 2) := am_kq175 1 _ _ _ rfl
theorem k175_2 : am_at 175 2 = some (.aload 0, 3) := am_kq175 2 _ _ _ rfl
theorem k175_3 : am_at 175 3 = some (.getfield 386, 6) := am_kq175 3 _ _ _ rfl
theorem k175_6 : am_at 175 6 = some (.bipush 1, 7) := am_kq175 4 _ _ _ rfl
theorem k175_7 : am_at 175 7 = some (.isub, 8) := am_kq175 5 _ _ _ rfl
theorem k175_8 : am_at 175 8 = some (.invokestatic 27, 11) := am_kq175 6 _ _ _ rfl
theorem k175_11 : am_at 175 11 = some (.ifCond .eq 36, 14) := am_kq175 7 _ _ _ rfl
theorem k175_14 : am_at 175 14 = some (.aload 0, 15) := am_kq175 8 _ _ _ rfl
theorem k175_15 : am_at 175 15 = some (.getfield 384, 18) := am_kq175 9 _ _ _ rfl
theorem k175_18 : am_at 175 18 = some (.aload 0, 19) := am_kq175 10 _ _ _ rfl
theorem k175_19 : am_at 175 19 = some (.getfield 385, 22) := am_kq175 11 _ _ _ rfl
theorem k175_22 : am_at 175 22 = some (.bipush 20, 24) := am_kq175 12 _ _ _ rfl
theorem k175_24 : am_at 175 24 = some (.iadd, 25) := am_kq175 13 _ _ _ rfl
theorem k175_25 : am_at 175 25 = some (.bipush 1, 26) := am_kq175 14 _ _ _ rfl
theorem k175_26 : am_at 175 26 = some (.isub, 27) := am_kq175 15 _ _ _ rfl
theorem k175_27 : am_at 175 27 = some (.iload 1, 28) := am_kq175 16 _ _ _ rfl
theorem k175_28 : am_at 175 28 = some (.isub, 29) := am_kq175 17 _ _ _ rfl
theorem k175_29 : am_at 175 29 = some (.bipush 20, 31) := am_kq175 18 _ _ _ rfl
theorem k175_31 : am_at 175 31 = some (.irem, 32) := am_kq175 19 _ _ _ rfl
theorem k175_32 : am_at 175 32 = some (.iaload, 33) := am_kq175 20 _ _ _ rfl
theorem k175_33 : am_at 175 33 = some (.goto 38, 36) := am_kq175 21 _ _ _ rfl
theorem k175_36 : am_at 175 36 = some (.bipush (-2), 38) := am_kq175 22 _ _ _ rfl
theorem k175_38 : am_at 175 38 = some (.ireturn, 39) := am_kq175 23 _ _ _ rfl
set_option maxRecDepth 20000 in
theorem am_kq176 (i pc : Nat) (x : Instr) (nx : Nat) (hi : am_t176[i]? = some (pc, x, nx)) : am_at 176 pc = some (x, nx) := am_kB 176 am_t176 rfl (by decide +kernel) i pc x nx hi
theorem k176_0 : am_at 176 0 = some (.aload 0, 1) := am_kq176 0 _ _ _ rfl
theorem k176_1 : am_at 176 1 = some (.monitorenter, 4) := am_kq176 1 _ _ _ rfl
theorem k176_4 : am_at 176 4 = some (.aload 0, 5) := am_kq176 2 _ _ _ rfl
theorem k176_5 : am_at 176 5 = some (.new 9, 8) := am_kq176 3 _ _ _ rfl
theorem k176_8 : am_at 176 8 = some (.dup, 9) := am_kq176 4 _ _ _ rfl
theorem k176_9 : am_at 176 9 = some (.invokestatic 106, 12) := am_kq176 5 _ _ _ rfl
theorem k176_12 : am_at 176 12 = some (.putfield 512, 15) := am_kq176 6 _ _ _ rfl
theorem k176_15 : am_at 176 15 = some (.aload 0, 16) := am_kq176 7 _ _ _ rfl
theorem k176_16 : am_at 176 16 = some (.aload 0, 17) := am_kq176 8 _ _ _ rfl
theorem k176_17 : am_at 176 17 = some (.getfield 512, 20) := am_kq176 9 _ _ _ rfl
theorem k176_20 : am_at 176 20 = some (.putfield 513, 23) := am_kq176 10 _ _ _ rfl
theorem k176_23 : am_at 176 23 = some (.aload 0, 24) := am_kq176 11 _ _ _ rfl
theorem k176_24 : am_at 176 24 = some (.bipush 1, 25) := am_kq176 12 _ _ _ rfl
theorem k176_25 : am_at 176 25 = some (.putfield 514, 28) := am_kq176 13 _ _ _ rfl
theorem k176_28 : am_at 176 28 = some (.aload 0, 29) := am_kq176 14 _ _ _ rfl
theorem k176_29 : am_at 176 29 = some (.bipush 0, 30) := am_kq176 15 _ _ _ rfl
theorem k176_30 : am_at 176 30 = some (.putfield 515, 33) := am_kq176 16 _ _ _ rfl
theorem k176_33 : am_at 176 33 = some (.aload 0, 34) := am_kq176 17 _ _ _ rfl
theorem k176_34 : am_at 176 34 = some (.bipush 0, 35) := am_kq176 18 _ _ _ rfl
theorem k176_35 : am_at 176 35 = some (.putfield 516, 38) := am_kq176 19 _ _ _ rfl
theorem k176_38 : am_at 176 38 = some (.aload 0, 39) := am_kq176 20 _ _ _ rfl
theorem k176_39 : am_at 176 39 = some (.bipush 0, 40) := am_kq176 21 _ _ _ rfl
theorem k176_40 : am_at 176 40 = some (.putfield 517, 43) := am_kq176 22 _ _ _ rfl
theorem k176_43 : am_at 176 43 = some (.return_, 44) := am_kq176 23 _ _ _ rfl
