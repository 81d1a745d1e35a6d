/-! The law's cases. -/
theorem vl_0 {n : Nat} : am_vl n [] := fun i v h => by
  rw [List.getElem?_nil] at h
  cases h
theorem vl_c {n : Nat} {o : Option Value} {L : am_L} (h0 : ∀ v, o = some v → am_vv n v) (h : am_vl n L) : am_vl n (o :: L) := fun i v hv => by
  cases i with
  | zero => rw [List.getElem?_cons_zero] at hv; exact h0 v (Option.some.inj hv)
  | succ i => rw [List.getElem?_cons_succ] at hv; exact h i v hv
theorem vl_r {n q : Nat} {L : am_L} (hq : q < n) (h : am_vl n L) : am_vl n (some (.ref q) :: L) := vl_c (fun v e => by
  have e := Option.some.inj e
  subst e
  exact hq) h
theorem vl_i {n : Nat} {x : Int32} {L : am_L} (h : am_vl n L) : am_vl n (some (.int x) :: L) := vl_c (fun v e => by
  have e := Option.some.inj e
  subst e
  exact True.intro) h
theorem vl_n {n : Nat} {L : am_L} (h : am_vl n L) : am_vl n (none :: L) := vl_c (fun v e => by cases e) h
theorem wp_le {d : am_D} {mi pc : Nat} {L : am_L} {st : List Value} {h : am_H} {Q : Option Value → am_H → Prop} (w : am_wp d mi pc L st h Q) (hv : am_vs h L st) : am_wp d mi pc L st h (fun r hh => Q r hh ∧ am_vh hh ∧ am_le h hh) := by
  obtain ⟨n, r, h', e, q⟩ := w
  obtain ⟨a, _, b⟩ := am_ex_v n d mi pc L st h r h' e hv
  exact ⟨n, r, h', e, q, a, b⟩
theorem lcmp_0 {x : Int64} : lg_cmp x x = 0 := by
  unfold lg_cmp
  simp
theorem L_define {h : am_H} {K : Nat → Nat → Int32} {nn cc i n : Nat} {Q : Option Value → am_H → Prop} (hI : Inv h K nn cc) (hcc : cc < 2 ^ 30) (hnn : nn < 2 ^ 30) (hv : am_vh (am_si h K)) (hn : (am_sh h 0).2.2 = n) (hi : i + 5 < n) (hn31 : n < 2 ^ 31) (kk : ∀ h1 L2 nn', nn' ≤ nn + 42200 → Inv h1 L2 nn' (cc + 2) → am_vh (am_si h1 L2) → (am_sh h1 0).2.2 = n → am_wp (11, 434) 0 768 [some (.ref 0), some (.ref 1), some (.ref 36), some (.int (nI i))] [] (am_si h1 L2) Q) : am_wp (11, 434) 0 120 [some (.ref 0), some (.ref 1), some (.ref 36), some (.int (nI i))] [] (am_si h K) Q := by
  obtain ⟨v, h1, J1, L2, nn', hval, nb, I2, w1, ⟨B1, B0⟩, w2⟩ := O_define (d1 := (11 - 1, 434 - (19 + 6))) (d2 := (11 - 1, 434 - (19 + 8))) (c := (K 0 (i + 1))) (s := (K 0 (i + 2))) (t := (K 0 (i + 3))) (u := (K 0 (i + 4))) hI hcc (by decide) (by decide) (by decide) (by decide)
  obtain ⟨x, rfl⟩ := hval.1 rfl
  have n0 : 74 ≤ am_n h := B0.1
  have n1 : 74 ≤ am_n h1 := B1.1
  refine r_aload k0_120 rfl ?_
  refine r_aload k0_121 rfl ?_
  refine r_iload k0_122 rfl ?_
  refine r_pushn (v := nI 1) k0_123 rfl ?_
  refine r_iaddN k0_124 ?_
  refine r_sld (j := i + 1) (n := n) k0_125 hn rfl (by omega) hn31 ?_
  refine r_aload k0_126 rfl ?_
  refine r_iload k0_127 rfl ?_
  refine r_pushn (v := nI 2) k0_128 rfl ?_
  refine r_iaddN k0_129 ?_
  refine r_sld (j := i + 2) (n := n) k0_130 hn rfl (by omega) hn31 ?_
  refine r_aload k0_131 rfl ?_
  refine r_iload k0_132 rfl ?_
  refine r_pushn (v := nI 3) k0_133 rfl ?_
  refine r_iaddN k0_134 ?_
  refine r_sld (j := i + 3) (n := n) k0_135 hn rfl (by omega) hn31 ?_
  refine r_aload k0_136 rfl ?_
  refine r_iload k0_137 rfl ?_
  refine r_pushn (v := nI 4) k0_138 rfl ?_
  refine r_iaddN k0_139 ?_
  refine r_sld (j := i + 4) (n := n) k0_140 hn rfl (by omega) hn31 ?_
  refine j_call (ml := 6) k0_141 rfl (by decide) (by decide) ⟨Nat.le_of_ble_eq_true rfl, Nat.le_of_ble_eq_true rfl, am_obB B0 rfl, Nat.le_of_ble_eq_true rfl⟩ rfl (rest := []) rfl (wp_le w1 ⟨hv, vl_r (show 1 < am_n h by omega) (vl_i (vl_i (vl_i (vl_i (vl_n vl_0))))), am_vt_0⟩) (fun r hh hq => ?_)
  obtain ⟨⟨rfl, rfl⟩, vh1, le1⟩ := hq
  have e0 : am_I (am_si h1 J1) 0 = K 0 := le1.2.2.2
  have hn1 : (am_sh (am_si h1 J1) 0).2.2 = n := by rw [le1.2.2.1 0 (show 0 < am_n h by omega)]; exact hn
  show am_wp _ _ _ [some (.ref 0), some (.ref 1), some (.ref 36), some (.int (nI i))] [.int x] _ _
  refine r_aload k0_144 rfl ?_
  refine r_aload k0_145 rfl ?_
  refine r_iload k0_146 rfl ?_
  refine r_pushn (v := nI 1) k0_147 rfl ?_
  refine r_iaddN k0_148 ?_
  refine r_sld (j := i + 1) (n := n) k0_149 hn1 rfl (by omega) hn31 ?_
  rw [e0]
  refine r_aload k0_150 rfl ?_
  refine r_iload k0_151 rfl ?_
  refine r_pushn (v := nI 2) k0_152 rfl ?_
  refine r_iaddN k0_153 ?_
  refine r_sld (j := i + 2) (n := n) k0_154 hn1 rfl (by omega) hn31 ?_
  rw [e0]
  refine r_aload k0_155 rfl ?_
  refine r_iload k0_156 rfl ?_
  refine r_pushn (v := nI 3) k0_157 rfl ?_
  refine r_iaddN k0_158 ?_
  refine r_sld (j := i + 3) (n := n) k0_159 hn1 rfl (by omega) hn31 ?_
  rw [e0]
  refine r_aload k0_160 rfl ?_
  refine r_iload k0_161 rfl ?_
  refine r_pushn (v := nI 4) k0_162 rfl ?_
  refine r_iaddN k0_163 ?_
  refine r_sld (j := i + 4) (n := n) k0_164 hn1 rfl (by omega) hn31 ?_
  rw [e0]
  refine j_call (ml := 8) k0_165 rfl (by decide) (by decide) ⟨Nat.le_of_ble_eq_true rfl, Nat.le_of_ble_eq_true rfl, am_obB B1 rfl, Nat.le_of_ble_eq_true rfl⟩ rfl (rest := [.int x]) rfl (wp_le w2 ⟨vh1, vl_r (show 36 < am_n h1 by omega) (vl_i (vl_i (vl_i (vl_i (vl_n (vl_n (vl_n vl_0))))))), am_vt_0⟩) (fun r hh hq => ?_)
  obtain ⟨⟨rfl, rfl⟩, vh2, le2⟩ := hq
  have hn2 : (am_sh (am_si h1 L2) 0).2.2 = n := by rw [le2.2.2.1 0 (show 0 < am_n h1 by omega)]; exact hn1
  show am_wp _ _ _ [some (.ref 0), some (.ref 1), some (.ref 36), some (.int (nI i))] [.int x, .int x] _ _
  exact r_icmpeq k0_168 (fun _ => kk h1 L2 nn' nb I2 vh2 hn2) (fun z => absurd rfl z)
theorem L_slot {h : am_H} {K : Nat → Nat → Int32} {nn cc i n : Nat} {Q : Option Value → am_H → Prop} (hI : Inv h K nn cc) (hcc : cc < 2 ^ 30) (hnn : nn < 2 ^ 30) (hv : am_vh (am_si h K)) (hn : (am_sh h 0).2.2 = n) (hi : i + 5 < n) (hn31 : n < 2 ^ 31) (kk : ∀ h1 L2 nn', nn' ≤ nn + 42200 → Inv h1 L2 nn' (cc + 2) → am_vh (am_si h1 L2) → (am_sh h1 0).2.2 = n → am_wp (11, 434) 0 768 [some (.ref 0), some (.ref 1), some (.ref 36), some (.int (nI i))] [] (am_si h1 L2) Q) : am_wp (11, 434) 0 173 [some (.ref 0), some (.ref 1), some (.ref 36), some (.int (nI i))] [] (am_si h K) Q := by
  obtain ⟨v, h1, J1, L2, nn', hval, nb, I2, w1, ⟨B1, B0⟩, w2⟩ := O_slot (d1 := (11 - 1, 434 - (19 + 5))) (d2 := (11 - 1, 434 - (19 + 5))) (c := (K 0 (i + 1))) (nm := (K 0 (i + 2))) (how := (K 0 (i + 3))) (v := (K 0 (i + 4))) hI hcc (by decide) (by decide) (by decide) (by decide)
  obtain ⟨x, rfl⟩ := hval.1 rfl
  have n0 : 74 ≤ am_n h := B0.1
  have n1 : 74 ≤ am_n h1 := B1.1
  refine r_aload k0_173 rfl ?_
  refine r_aload k0_174 rfl ?_
  refine r_iload k0_175 rfl ?_
  refine r_pushn (v := nI 1) k0_176 rfl ?_
  refine r_iaddN k0_177 ?_
  refine r_sld (j := i + 1) (n := n) k0_178 hn rfl (by omega) hn31 ?_
  refine r_aload k0_179 rfl ?_
  refine r_iload k0_180 rfl ?_
  refine r_pushn (v := nI 2) k0_181 rfl ?_
  refine r_iaddN k0_182 ?_
  refine r_sld (j := i + 2) (n := n) k0_183 hn rfl (by omega) hn31 ?_
  refine r_aload k0_184 rfl ?_
  refine r_iload k0_185 rfl ?_
  refine r_pushn (v := nI 3) k0_186 rfl ?_
  refine r_iaddN k0_187 ?_
  refine r_sld (j := i + 3) (n := n) k0_188 hn rfl (by omega) hn31 ?_
  refine r_aload k0_189 rfl ?_
  refine r_iload k0_190 rfl ?_
  refine r_pushn (v := nI 4) k0_191 rfl ?_
  refine r_iaddN k0_192 ?_
  refine r_sld (j := i + 4) (n := n) k0_193 hn rfl (by omega) hn31 ?_
  refine j_call (ml := 5) k0_194 rfl (by decide) (by decide) ⟨Nat.le_of_ble_eq_true rfl, Nat.le_of_ble_eq_true rfl, am_obB B0 rfl, Nat.le_of_ble_eq_true rfl⟩ rfl (rest := []) rfl (wp_le w1 ⟨hv, vl_r (show 1 < am_n h by omega) (vl_i (vl_i (vl_i (vl_i vl_0)))), am_vt_0⟩) (fun r hh hq => ?_)
  obtain ⟨⟨rfl, rfl⟩, vh1, le1⟩ := hq
  have e0 : am_I (am_si h1 J1) 0 = K 0 := le1.2.2.2
  have hn1 : (am_sh (am_si h1 J1) 0).2.2 = n := by rw [le1.2.2.1 0 (show 0 < am_n h by omega)]; exact hn
  show am_wp _ _ _ [some (.ref 0), some (.ref 1), some (.ref 36), some (.int (nI i))] [.int x] _ _
  refine r_aload k0_197 rfl ?_
  refine r_aload k0_198 rfl ?_
  refine r_iload k0_199 rfl ?_
  refine r_pushn (v := nI 1) k0_200 rfl ?_
  refine r_iaddN k0_201 ?_
  refine r_sld (j := i + 1) (n := n) k0_202 hn1 rfl (by omega) hn31 ?_
  rw [e0]
  refine r_aload k0_203 rfl ?_
  refine r_iload k0_204 rfl ?_
  refine r_pushn (v := nI 2) k0_205 rfl ?_
  refine r_iaddN k0_206 ?_
  refine r_sld (j := i + 2) (n := n) k0_207 hn1 rfl (by omega) hn31 ?_
  rw [e0]
  refine r_aload k0_208 rfl ?_
  refine r_iload k0_209 rfl ?_
  refine r_pushn (v := nI 3) k0_210 rfl ?_
  refine r_iaddN k0_211 ?_
  refine r_sld (j := i + 3) (n := n) k0_212 hn1 rfl (by omega) hn31 ?_
  rw [e0]
  refine r_aload k0_213 rfl ?_
  refine r_iload k0_214 rfl ?_
  refine r_pushn (v := nI 4) k0_215 rfl ?_
  refine r_iaddN k0_216 ?_
  refine r_sld (j := i + 4) (n := n) k0_217 hn1 rfl (by omega) hn31 ?_
  rw [e0]
  refine j_call (ml := 5) k0_218 rfl (by decide) (by decide) ⟨Nat.le_of_ble_eq_true rfl, Nat.le_of_ble_eq_true rfl, am_obB B1 rfl, Nat.le_of_ble_eq_true rfl⟩ rfl (rest := [.int x]) rfl (wp_le w2 ⟨vh1, vl_r (show 36 < am_n h1 by omega) (vl_i (vl_i (vl_i (vl_i vl_0)))), am_vt_0⟩) (fun r hh hq => ?_)
  obtain ⟨⟨rfl, rfl⟩, vh2, le2⟩ := hq
  have hn2 : (am_sh (am_si h1 L2) 0).2.2 = n := by rw [le2.2.2.1 0 (show 0 < am_n h1 by omega)]; exact hn1
  show am_wp _ _ _ [some (.ref 0), some (.ref 1), some (.ref 36), some (.int (nI i))] [.int x, .int x] _ _
  exact r_icmpeq k0_221 (fun _ => kk h1 L2 nn' nb I2 vh2 hn2) (fun z => absurd rfl z)
theorem L_make {h : am_H} {K : Nat → Nat → Int32} {nn cc i n : Nat} {Q : Option Value → am_H → Prop} (hI : Inv h K nn cc) (hcc : cc < 2 ^ 30) (hnn : nn < 2 ^ 30) (hv : am_vh (am_si h K)) (hn : (am_sh h 0).2.2 = n) (hi : i + 5 < n) (hn31 : n < 2 ^ 31) (kk : ∀ h1 L2 nn', nn' ≤ nn + 42200 → Inv h1 L2 nn' (cc + 2) → am_vh (am_si h1 L2) → (am_sh h1 0).2.2 = n → am_wp (11, 434) 0 768 [some (.ref 0), some (.ref 1), some (.ref 36), some (.int (nI i))] [] (am_si h1 L2) Q) : am_wp (11, 434) 0 226 [some (.ref 0), some (.ref 1), some (.ref 36), some (.int (nI i))] [] (am_si h K) Q := by
  obtain ⟨v, h1, J1, L2, nn', hval, nb, I2, w1, ⟨B1, B0⟩, w2⟩ := O_make (d1 := (11 - 1, 434 - (19 + 2))) (d2 := (11 - 1, 434 - (19 + 3))) (c := (K 0 (i + 1))) hI hcc (by decide) (by decide) (by decide) (by decide)
  obtain ⟨x, rfl⟩ := hval.1 rfl
  have n0 : 74 ≤ am_n h := B0.1
  have n1 : 74 ≤ am_n h1 := B1.1
  refine r_aload k0_226 rfl ?_
  refine r_aload k0_227 rfl ?_
  refine r_iload k0_228 rfl ?_
  refine r_pushn (v := nI 1) k0_229 rfl ?_
  refine r_iaddN k0_230 ?_
  refine r_sld (j := i + 1) (n := n) k0_231 hn rfl (by omega) hn31 ?_
  refine j_call (ml := 2) k0_232 rfl (by decide) (by decide) ⟨Nat.le_of_ble_eq_true rfl, Nat.le_of_ble_eq_true rfl, am_obB B0 rfl, Nat.le_of_ble_eq_true rfl⟩ rfl (rest := []) rfl (wp_le w1 ⟨hv, vl_r (show 1 < am_n h by omega) (vl_i vl_0), am_vt_0⟩) (fun r hh hq => ?_)
  obtain ⟨⟨rfl, rfl⟩, vh1, le1⟩ := hq
  have e0 : am_I (am_si h1 J1) 0 = K 0 := le1.2.2.2
  have hn1 : (am_sh (am_si h1 J1) 0).2.2 = n := by rw [le1.2.2.1 0 (show 0 < am_n h by omega)]; exact hn
  show am_wp _ _ _ [some (.ref 0), some (.ref 1), some (.ref 36), some (.int (nI i))] [.int x] _ _
  refine r_aload k0_235 rfl ?_
  refine r_aload k0_236 rfl ?_
  refine r_iload k0_237 rfl ?_
  refine r_pushn (v := nI 1) k0_238 rfl ?_
  refine r_iaddN k0_239 ?_
  refine r_sld (j := i + 1) (n := n) k0_240 hn1 rfl (by omega) hn31 ?_
  rw [e0]
  refine j_call (ml := 3) k0_241 rfl (by decide) (by decide) ⟨Nat.le_of_ble_eq_true rfl, Nat.le_of_ble_eq_true rfl, am_obB B1 rfl, Nat.le_of_ble_eq_true rfl⟩ rfl (rest := [.int x]) rfl (wp_le w2 ⟨vh1, vl_r (show 36 < am_n h1 by omega) (vl_i (vl_n vl_0)), am_vt_0⟩) (fun r hh hq => ?_)
  obtain ⟨⟨rfl, rfl⟩, vh2, le2⟩ := hq
  have hn2 : (am_sh (am_si h1 L2) 0).2.2 = n := by rw [le2.2.2.1 0 (show 0 < am_n h1 by omega)]; exact hn1
  show am_wp _ _ _ [some (.ref 0), some (.ref 1), some (.ref 36), some (.int (nI i))] [.int x, .int x] _ _
  exact r_icmpeq k0_244 (fun _ => kk h1 L2 nn' nb I2 vh2 hn2) (fun z => absurd rfl z)
theorem L_become {h : am_H} {K : Nat → Nat → Int32} {nn cc i n : Nat} {Q : Option Value → am_H → Prop} (hI : Inv h K nn cc) (hcc : cc < 2 ^ 30) (hnn : nn < 2 ^ 30) (hv : am_vh (am_si h K)) (hn : (am_sh h 0).2.2 = n) (hi : i + 5 < n) (hn31 : n < 2 ^ 31) (kk : ∀ h1 L2 nn', nn' ≤ nn + 42200 → Inv h1 L2 nn' (cc + 2) → am_vh (am_si h1 L2) → (am_sh h1 0).2.2 = n → am_wp (11, 434) 0 768 [some (.ref 0), some (.ref 1), some (.ref 36), some (.int (nI i))] [] (am_si h1 L2) Q) : am_wp (11, 434) 0 249 [some (.ref 0), some (.ref 1), some (.ref 36), some (.int (nI i))] [] (am_si h K) Q := by
  obtain ⟨v, h1, J1, L2, nn', hval, nb, I2, w1, ⟨B1, B0⟩, w2⟩ := O_become (d1 := (11 - 1, 434 - (19 + 3))) (d2 := (11 - 1, 434 - (19 + 3))) (i := (K 0 (i + 1))) (c := (K 0 (i + 2))) hI hcc (by decide) (by decide) (by decide) (by decide)
  obtain ⟨x, rfl⟩ := hval.1 rfl
  have n0 : 74 ≤ am_n h := B0.1
  have n1 : 74 ≤ am_n h1 := B1.1
  refine r_aload k0_249 rfl ?_
  refine r_aload k0_250 rfl ?_
  refine r_iload k0_251 rfl ?_
  refine r_pushn (v := nI 1) k0_252 rfl ?_
  refine r_iaddN k0_253 ?_
  refine r_sld (j := i + 1) (n := n) k0_254 hn rfl (by omega) hn31 ?_
  refine r_aload k0_255 rfl ?_
  refine r_iload k0_256 rfl ?_
  refine r_pushn (v := nI 2) k0_257 rfl ?_
  refine r_iaddN k0_258 ?_
  refine r_sld (j := i + 2) (n := n) k0_259 hn rfl (by omega) hn31 ?_
  refine j_call (ml := 3) k0_260 rfl (by decide) (by decide) ⟨Nat.le_of_ble_eq_true rfl, Nat.le_of_ble_eq_true rfl, am_obB B0 rfl, Nat.le_of_ble_eq_true rfl⟩ rfl (rest := []) rfl (wp_le w1 ⟨hv, vl_r (show 1 < am_n h by omega) (vl_i (vl_i vl_0)), am_vt_0⟩) (fun r hh hq => ?_)
  obtain ⟨⟨rfl, rfl⟩, vh1, le1⟩ := hq
  have e0 : am_I (am_si h1 J1) 0 = K 0 := le1.2.2.2
  have hn1 : (am_sh (am_si h1 J1) 0).2.2 = n := by rw [le1.2.2.1 0 (show 0 < am_n h by omega)]; exact hn
  show am_wp _ _ _ [some (.ref 0), some (.ref 1), some (.ref 36), some (.int (nI i))] [.int x] _ _
  refine r_aload k0_263 rfl ?_
  refine r_aload k0_264 rfl ?_
  refine r_iload k0_265 rfl ?_
  refine r_pushn (v := nI 1) k0_266 rfl ?_
  refine r_iaddN k0_267 ?_
  refine r_sld (j := i + 1) (n := n) k0_268 hn1 rfl (by omega) hn31 ?_
  rw [e0]
  refine r_aload k0_269 rfl ?_
  refine r_iload k0_270 rfl ?_
  refine r_pushn (v := nI 2) k0_271 rfl ?_
  refine r_iaddN k0_272 ?_
  refine r_sld (j := i + 2) (n := n) k0_273 hn1 rfl (by omega) hn31 ?_
  rw [e0]
  refine j_call (ml := 3) k0_274 rfl (by decide) (by decide) ⟨Nat.le_of_ble_eq_true rfl, Nat.le_of_ble_eq_true rfl, am_obB B1 rfl, Nat.le_of_ble_eq_true rfl⟩ rfl (rest := [.int x]) rfl (wp_le w2 ⟨vh1, vl_r (show 36 < am_n h1 by omega) (vl_i (vl_i vl_0)), am_vt_0⟩) (fun r hh hq => ?_)
  obtain ⟨⟨rfl, rfl⟩, vh2, le2⟩ := hq
  have hn2 : (am_sh (am_si h1 L2) 0).2.2 = n := by rw [le2.2.2.1 0 (show 0 < am_n h1 by omega)]; exact hn1
  show am_wp _ _ _ [some (.ref 0), some (.ref 1), some (.ref 36), some (.int (nI i))] [.int x, .int x] _ _
  exact r_icmpeq k0_277 (fun _ => kk h1 L2 nn' nb I2 vh2 hn2) (fun z => absurd rfl z)
theorem L_get {h : am_H} {K : Nat → Nat → Int32} {nn cc i n : Nat} {Q : Option Value → am_H → Prop} (hI : Inv h K nn cc) (hcc : cc < 2 ^ 30) (hnn : nn < 2 ^ 30) (hv : am_vh (am_si h K)) (hn : (am_sh h 0).2.2 = n) (hi : i + 5 < n) (hn31 : n < 2 ^ 31) (kk : ∀ h1 L2 nn', nn' ≤ nn + 42200 → Inv h1 L2 nn' (cc + 2) → am_vh (am_si h1 L2) → (am_sh h1 0).2.2 = n → am_wp (11, 434) 0 768 [some (.ref 0), some (.ref 1), some (.ref 36), some (.int (nI i))] [] (am_si h1 L2) Q) : am_wp (11, 434) 0 282 [some (.ref 0), some (.ref 1), some (.ref 36), some (.int (nI i))] [] (am_si h K) Q := by
  obtain ⟨v, h1, J1, L2, nn', hval, nb, I2, w1, ⟨B1, B0⟩, w2⟩ := O_get (d1 := (11 - 1, 434 - (19 + 4))) (d2 := (11 - 1, 434 - (19 + 4))) (i := (K 0 (i + 1))) (nm := (K 0 (i + 2))) hI hcc (by decide) (by decide) (by decide) (by decide)
  obtain ⟨x, rfl⟩ := hval.2 rfl
  have n0 : 74 ≤ am_n h := B0.1
  have n1 : 74 ≤ am_n h1 := B1.1
  refine r_aload k0_282 rfl ?_
  refine r_aload k0_283 rfl ?_
  refine r_iload k0_284 rfl ?_
  refine r_pushn (v := nI 1) k0_285 rfl ?_
  refine r_iaddN k0_286 ?_
  refine r_sld (j := i + 1) (n := n) k0_287 hn rfl (by omega) hn31 ?_
  refine r_aload k0_288 rfl ?_
  refine r_iload k0_289 rfl ?_
  refine r_pushn (v := nI 2) k0_290 rfl ?_
  refine r_iaddN k0_291 ?_
  refine r_sld (j := i + 2) (n := n) k0_292 hn rfl (by omega) hn31 ?_
  refine j_call (ml := 4) k0_293 rfl (by decide) (by decide) ⟨Nat.le_of_ble_eq_true rfl, Nat.le_of_ble_eq_true rfl, am_obB B0 rfl, Nat.le_of_ble_eq_true rfl⟩ rfl (rest := []) rfl (wp_le w1 ⟨hv, vl_r (show 1 < am_n h by omega) (vl_i (vl_i (vl_n vl_0))), am_vt_0⟩) (fun r hh hq => ?_)
  obtain ⟨⟨rfl, rfl⟩, vh1, le1⟩ := hq
  have e0 : am_I (am_si h1 J1) 0 = K 0 := le1.2.2.2
  have hn1 : (am_sh (am_si h1 J1) 0).2.2 = n := by rw [le1.2.2.1 0 (show 0 < am_n h by omega)]; exact hn
  show am_wp _ _ _ [some (.ref 0), some (.ref 1), some (.ref 36), some (.int (nI i))] [.long x] _ _
  refine r_aload k0_296 rfl ?_
  refine r_aload k0_297 rfl ?_
  refine r_iload k0_298 rfl ?_
  refine r_pushn (v := nI 1) k0_299 rfl ?_
  refine r_iaddN k0_300 ?_
  refine r_sld (j := i + 1) (n := n) k0_301 hn1 rfl (by omega) hn31 ?_
  rw [e0]
  refine r_aload k0_302 rfl ?_
  refine r_iload k0_303 rfl ?_
  refine r_pushn (v := nI 2) k0_304 rfl ?_
  refine r_iaddN k0_305 ?_
  refine r_sld (j := i + 2) (n := n) k0_306 hn1 rfl (by omega) hn31 ?_
  rw [e0]
  refine j_call (ml := 4) k0_307 rfl (by decide) (by decide) ⟨Nat.le_of_ble_eq_true rfl, Nat.le_of_ble_eq_true rfl, am_obB B1 rfl, Nat.le_of_ble_eq_true rfl⟩ rfl (rest := [.long x]) rfl (wp_le w2 ⟨vh1, vl_r (show 36 < am_n h1 by omega) (vl_i (vl_i (vl_n vl_0))), am_vt_0⟩) (fun r hh hq => ?_)
  obtain ⟨⟨rfl, rfl⟩, vh2, le2⟩ := hq
  have hn2 : (am_sh (am_si h1 L2) 0).2.2 = n := by rw [le2.2.2.1 0 (show 0 < am_n h1 by omega)]; exact hn1
  show am_wp _ _ _ [some (.ref 0), some (.ref 1), some (.ref 36), some (.int (nI i))] [.long x, .long x] _ _
  refine r_lcmp k0_310 ?_
  rw [lcmp_0]
  exact r_ifeq k0_311 (fun _ => kk h1 L2 nn' nb I2 vh2 hn2) (fun z => absurd rfl z)
theorem L_put {h : am_H} {K : Nat → Nat → Int32} {nn cc i n : Nat} {Q : Option Value → am_H → Prop} (hI : Inv h K nn cc) (hcc : cc < 2 ^ 30) (hnn : nn < 2 ^ 30) (hv : am_vh (am_si h K)) (hn : (am_sh h 0).2.2 = n) (hi : i + 5 < n) (hn31 : n < 2 ^ 31) (kk : ∀ h1 L2 nn', nn' ≤ nn + 42200 → Inv h1 L2 nn' (cc + 2) → am_vh (am_si h1 L2) → (am_sh h1 0).2.2 = n → am_wp (11, 434) 0 768 [some (.ref 0), some (.ref 1), some (.ref 36), some (.int (nI i))] [] (am_si h1 L2) Q) : am_wp (11, 434) 0 316 [some (.ref 0), some (.ref 1), some (.ref 36), some (.int (nI i))] [] (am_si h K) Q := by
  obtain ⟨v, h1, J1, L2, nn', hval, nb, I2, w1, ⟨B1, B0⟩, w2⟩ := O_put (d1 := (11 - 1, 434 - (19 + 5))) (d2 := (11 - 1, 434 - (19 + 5))) (i := (K 0 (i + 1))) (nm := (K 0 (i + 2))) (v := (K 0 (i + 3))) hI hcc (by decide) (by decide) (by decide) (by decide)
  obtain ⟨x, rfl⟩ := hval.2 rfl
  have n0 : 74 ≤ am_n h := B0.1
  have n1 : 74 ≤ am_n h1 := B1.1
  refine r_aload k0_316 rfl ?_
  refine r_aload k0_317 rfl ?_
  refine r_iload k0_318 rfl ?_
  refine r_pushn (v := nI 1) k0_319 rfl ?_
  refine r_iaddN k0_320 ?_
  refine r_sld (j := i + 1) (n := n) k0_321 hn rfl (by omega) hn31 ?_
  refine r_aload k0_322 rfl ?_
  refine r_iload k0_323 rfl ?_
  refine r_pushn (v := nI 2) k0_324 rfl ?_
  refine r_iaddN k0_325 ?_
  refine r_sld (j := i + 2) (n := n) k0_326 hn rfl (by omega) hn31 ?_
  refine r_aload k0_327 rfl ?_
  refine r_iload k0_328 rfl ?_
  refine r_pushn (v := nI 3) k0_329 rfl ?_
  refine r_iaddN k0_330 ?_
  refine r_sld (j := i + 3) (n := n) k0_331 hn rfl (by omega) hn31 ?_
  refine j_call (ml := 5) k0_332 rfl (by decide) (by decide) ⟨Nat.le_of_ble_eq_true rfl, Nat.le_of_ble_eq_true rfl, am_obB B0 rfl, Nat.le_of_ble_eq_true rfl⟩ rfl (rest := []) rfl (wp_le w1 ⟨hv, vl_r (show 1 < am_n h by omega) (vl_i (vl_i (vl_i (vl_n vl_0)))), am_vt_0⟩) (fun r hh hq => ?_)
  obtain ⟨⟨rfl, rfl⟩, vh1, le1⟩ := hq
  have e0 : am_I (am_si h1 J1) 0 = K 0 := le1.2.2.2
  have hn1 : (am_sh (am_si h1 J1) 0).2.2 = n := by rw [le1.2.2.1 0 (show 0 < am_n h by omega)]; exact hn
  show am_wp _ _ _ [some (.ref 0), some (.ref 1), some (.ref 36), some (.int (nI i))] [.long x] _ _
  refine r_aload k0_335 rfl ?_
  refine r_aload k0_336 rfl ?_
  refine r_iload k0_337 rfl ?_
  refine r_pushn (v := nI 1) k0_338 rfl ?_
  refine r_iaddN k0_339 ?_
  refine r_sld (j := i + 1) (n := n) k0_340 hn1 rfl (by omega) hn31 ?_
  rw [e0]
  refine r_aload k0_341 rfl ?_
  refine r_iload k0_342 rfl ?_
  refine r_pushn (v := nI 2) k0_343 rfl ?_
  refine r_iaddN k0_344 ?_
  refine r_sld (j := i + 2) (n := n) k0_345 hn1 rfl (by omega) hn31 ?_
  rw [e0]
  refine r_aload k0_346 rfl ?_
  refine r_iload k0_347 rfl ?_
  refine r_pushn (v := nI 3) k0_348 rfl ?_
  refine r_iaddN k0_349 ?_
  refine r_sld (j := i + 3) (n := n) k0_350 hn1 rfl (by omega) hn31 ?_
  rw [e0]
  refine j_call (ml := 5) k0_351 rfl (by decide) (by decide) ⟨Nat.le_of_ble_eq_true rfl, Nat.le_of_ble_eq_true rfl, am_obB B1 rfl, Nat.le_of_ble_eq_true rfl⟩ rfl (rest := [.long x]) rfl (wp_le w2 ⟨vh1, vl_r (show 36 < am_n h1 by omega) (vl_i (vl_i (vl_i (vl_n vl_0)))), am_vt_0⟩) (fun r hh hq => ?_)
  obtain ⟨⟨rfl, rfl⟩, vh2, le2⟩ := hq
  have hn2 : (am_sh (am_si h1 L2) 0).2.2 = n := by rw [le2.2.2.1 0 (show 0 < am_n h1 by omega)]; exact hn1
  show am_wp _ _ _ [some (.ref 0), some (.ref 1), some (.ref 36), some (.int (nI i))] [.long x, .long x] _ _
  refine r_lcmp k0_354 ?_
  rw [lcmp_0]
  exact r_ifeq k0_355 (fun _ => kk h1 L2 nn' nb I2 vh2 hn2) (fun z => absurd rfl z)
theorem L_unbind {h : am_H} {K : Nat → Nat → Int32} {nn cc i n : Nat} {Q : Option Value → am_H → Prop} (hI : Inv h K nn cc) (hcc : cc < 2 ^ 30) (hnn : nn < 2 ^ 30) (hv : am_vh (am_si h K)) (hn : (am_sh h 0).2.2 = n) (hi : i + 5 < n) (hn31 : n < 2 ^ 31) (kk : ∀ h1 L2 nn', nn' ≤ nn + 42200 → Inv h1 L2 nn' (cc + 2) → am_vh (am_si h1 L2) → (am_sh h1 0).2.2 = n → am_wp (11, 434) 0 768 [some (.ref 0), some (.ref 1), some (.ref 36), some (.int (nI i))] [] (am_si h1 L2) Q) : am_wp (11, 434) 0 360 [some (.ref 0), some (.ref 1), some (.ref 36), some (.int (nI i))] [] (am_si h K) Q := by
  obtain ⟨v, h1, J1, L2, nn', hval, nb, I2, w1, ⟨B1, B0⟩, w2⟩ := O_unbind (d1 := (11 - 1, 434 - (19 + 4))) (d2 := (11 - 1, 434 - (19 + 5))) (i := (K 0 (i + 1))) (nm := (K 0 (i + 2))) hI hcc (by decide) (by decide) (by decide) (by decide)
  obtain ⟨x, rfl⟩ := hval.2 rfl
  have n0 : 74 ≤ am_n h := B0.1
  have n1 : 74 ≤ am_n h1 := B1.1
  refine r_aload k0_360 rfl ?_
  refine r_aload k0_361 rfl ?_
  refine r_iload k0_362 rfl ?_
  refine r_pushn (v := nI 1) k0_363 rfl ?_
  refine r_iaddN k0_364 ?_
  refine r_sld (j := i + 1) (n := n) k0_365 hn rfl (by omega) hn31 ?_
  refine r_aload k0_366 rfl ?_
  refine r_iload k0_367 rfl ?_
  refine r_pushn (v := nI 2) k0_368 rfl ?_
  refine r_iaddN k0_369 ?_
  refine r_sld (j := i + 2) (n := n) k0_370 hn rfl (by omega) hn31 ?_
  refine j_call (ml := 4) k0_371 rfl (by decide) (by decide) ⟨Nat.le_of_ble_eq_true rfl, Nat.le_of_ble_eq_true rfl, am_obB B0 rfl, Nat.le_of_ble_eq_true rfl⟩ rfl (rest := []) rfl (wp_le w1 ⟨hv, vl_r (show 1 < am_n h by omega) (vl_i (vl_i (vl_n vl_0))), am_vt_0⟩) (fun r hh hq => ?_)
  obtain ⟨⟨rfl, rfl⟩, vh1, le1⟩ := hq
  have e0 : am_I (am_si h1 J1) 0 = K 0 := le1.2.2.2
  have hn1 : (am_sh (am_si h1 J1) 0).2.2 = n := by rw [le1.2.2.1 0 (show 0 < am_n h by omega)]; exact hn
  show am_wp _ _ _ [some (.ref 0), some (.ref 1), some (.ref 36), some (.int (nI i))] [.long x] _ _
  refine r_aload k0_374 rfl ?_
  refine r_aload k0_375 rfl ?_
  refine r_iload k0_376 rfl ?_
  refine r_pushn (v := nI 1) k0_377 rfl ?_
  refine r_iaddN k0_378 ?_
  refine r_sld (j := i + 1) (n := n) k0_379 hn1 rfl (by omega) hn31 ?_
  rw [e0]
  refine r_aload k0_380 rfl ?_
  refine r_iload k0_381 rfl ?_
  refine r_pushn (v := nI 2) k0_382 rfl ?_
  refine r_iaddN k0_383 ?_
  refine r_sld (j := i + 2) (n := n) k0_384 hn1 rfl (by omega) hn31 ?_
  rw [e0]
  refine j_call (ml := 5) k0_385 rfl (by decide) (by decide) ⟨Nat.le_of_ble_eq_true rfl, Nat.le_of_ble_eq_true rfl, am_obB B1 rfl, Nat.le_of_ble_eq_true rfl⟩ rfl (rest := [.long x]) rfl (wp_le w2 ⟨vh1, vl_r (show 36 < am_n h1 by omega) (vl_i (vl_i (vl_n (vl_n vl_0)))), am_vt_0⟩) (fun r hh hq => ?_)
  obtain ⟨⟨rfl, rfl⟩, vh2, le2⟩ := hq
  have hn2 : (am_sh (am_si h1 L2) 0).2.2 = n := by rw [le2.2.2.1 0 (show 0 < am_n h1 by omega)]; exact hn1
  show am_wp _ _ _ [some (.ref 0), some (.ref 1), some (.ref 36), some (.int (nI i))] [.long x, .long x] _ _
  refine r_lcmp k0_388 ?_
  rw [lcmp_0]
  exact r_ifeq k0_389 (fun _ => kk h1 L2 nn' nb I2 vh2 hn2) (fun z => absurd rfl z)
theorem L_generic {h : am_H} {K : Nat → Nat → Int32} {nn cc i n : Nat} {Q : Option Value → am_H → Prop} (hI : Inv h K nn cc) (hcc : cc < 2 ^ 30) (hnn : nn < 2 ^ 30) (hv : am_vh (am_si h K)) (hn : (am_sh h 0).2.2 = n) (hi : i + 5 < n) (hn31 : n < 2 ^ 31) (kk : ∀ h1 L2 nn', nn' ≤ nn + 42200 → Inv h1 L2 nn' (cc + 2) → am_vh (am_si h1 L2) → (am_sh h1 0).2.2 = n → am_wp (11, 434) 0 768 [some (.ref 0), some (.ref 1), some (.ref 36), some (.int (nI i))] [] (am_si h1 L2) Q) : am_wp (11, 434) 0 394 [some (.ref 0), some (.ref 1), some (.ref 36), some (.int (nI i))] [] (am_si h K) Q := by
  obtain ⟨v, h1, J1, L2, nn', hval, nb, I2, w1, ⟨B1, B0⟩, w2⟩ := O_generic (d1 := (11 - 1, 434 - (19 + 3))) (d2 := (11 - 1, 434 - (19 + 5))) (g := (K 0 (i + 1))) (n := (K 0 (i + 2))) hI hcc (by decide) (by decide) (by decide) (by decide)
  obtain ⟨x, rfl⟩ := hval.1 rfl
  have n0 : 74 ≤ am_n h := B0.1
  have n1 : 74 ≤ am_n h1 := B1.1
  refine r_aload k0_394 rfl ?_
  refine r_aload k0_395 rfl ?_
  refine r_iload k0_396 rfl ?_
  refine r_pushn (v := nI 1) k0_397 rfl ?_
  refine r_iaddN k0_398 ?_
  refine r_sld (j := i + 1) (n := n) k0_399 hn rfl (by omega) hn31 ?_
  refine r_aload k0_400 rfl ?_
  refine r_iload k0_401 rfl ?_
  refine r_pushn (v := nI 2) k0_402 rfl ?_
  refine r_iaddN k0_403 ?_
  refine r_sld (j := i + 2) (n := n) k0_404 hn rfl (by omega) hn31 ?_
  refine j_call (ml := 3) k0_405 rfl (by decide) (by decide) ⟨Nat.le_of_ble_eq_true rfl, Nat.le_of_ble_eq_true rfl, am_obB B0 rfl, Nat.le_of_ble_eq_true rfl⟩ rfl (rest := []) rfl (wp_le w1 ⟨hv, vl_r (show 1 < am_n h by omega) (vl_i (vl_i vl_0)), am_vt_0⟩) (fun r hh hq => ?_)
  obtain ⟨⟨rfl, rfl⟩, vh1, le1⟩ := hq
  have e0 : am_I (am_si h1 J1) 0 = K 0 := le1.2.2.2
  have hn1 : (am_sh (am_si h1 J1) 0).2.2 = n := by rw [le1.2.2.1 0 (show 0 < am_n h by omega)]; exact hn
  show am_wp _ _ _ [some (.ref 0), some (.ref 1), some (.ref 36), some (.int (nI i))] [.int x] _ _
  refine r_aload k0_408 rfl ?_
  refine r_aload k0_409 rfl ?_
  refine r_iload k0_410 rfl ?_
  refine r_pushn (v := nI 1) k0_411 rfl ?_
  refine r_iaddN k0_412 ?_
  refine r_sld (j := i + 1) (n := n) k0_413 hn1 rfl (by omega) hn31 ?_
  rw [e0]
  refine r_aload k0_414 rfl ?_
  refine r_iload k0_415 rfl ?_
  refine r_pushn (v := nI 2) k0_416 rfl ?_
  refine r_iaddN k0_417 ?_
  refine r_sld (j := i + 2) (n := n) k0_418 hn1 rfl (by omega) hn31 ?_
  rw [e0]
  refine j_call (ml := 5) k0_419 rfl (by decide) (by decide) ⟨Nat.le_of_ble_eq_true rfl, Nat.le_of_ble_eq_true rfl, am_obB B1 rfl, Nat.le_of_ble_eq_true rfl⟩ rfl (rest := [.int x]) rfl (wp_le w2 ⟨vh1, vl_r (show 36 < am_n h1 by omega) (vl_i (vl_i (vl_n (vl_n vl_0)))), am_vt_0⟩) (fun r hh hq => ?_)
  obtain ⟨⟨rfl, rfl⟩, vh2, le2⟩ := hq
  have hn2 : (am_sh (am_si h1 L2) 0).2.2 = n := by rw [le2.2.2.1 0 (show 0 < am_n h1 by omega)]; exact hn1
  show am_wp _ _ _ [some (.ref 0), some (.ref 1), some (.ref 36), some (.int (nI i))] [.int x, .int x] _ _
  exact r_icmpeq k0_422 (fun _ => kk h1 L2 nn' nb I2 vh2 hn2) (fun z => absurd rfl z)
theorem L_method {h : am_H} {K : Nat → Nat → Int32} {nn cc i n : Nat} {Q : Option Value → am_H → Prop} (hI : Inv h K nn cc) (hcc : cc < 2 ^ 30) (hnn : nn < 2 ^ 30) (hv : am_vh (am_si h K)) (hn : (am_sh h 0).2.2 = n) (hi : i + 5 < n) (hn31 : n < 2 ^ 31) (kk : ∀ h1 L2 nn', nn' ≤ nn + 42200 → Inv h1 L2 nn' (cc + 2) → am_vh (am_si h1 L2) → (am_sh h1 0).2.2 = n → am_wp (11, 434) 0 768 [some (.ref 0), some (.ref 1), some (.ref 36), some (.int (nI i))] [] (am_si h1 L2) Q) : am_wp (11, 434) 0 427 [some (.ref 0), some (.ref 1), some (.ref 36), some (.int (nI i))] [] (am_si h K) Q := by
  obtain ⟨v, h1, J1, L2, nn', hval, nb, I2, w1, ⟨B1, B0⟩, w2⟩ := O_method (d1 := (11 - 1, 434 - (19 + 9))) (d2 := (11 - 1, 434 - (19 + 9))) (g := (K 0 (i + 1))) (kind := (K 0 (i + 2))) (s := (K 0 (i + 3))) (t := (K 0 (i + 4))) (body := (K 0 (i + 5))) hI hcc (by decide) (by decide) (by decide) (by decide)
  obtain ⟨x, rfl⟩ := hval.1 rfl
  have n0 : 74 ≤ am_n h := B0.1
  have n1 : 74 ≤ am_n h1 := B1.1
  refine r_aload k0_427 rfl ?_
  refine r_aload k0_428 rfl ?_
  refine r_iload k0_429 rfl ?_
  refine r_pushn (v := nI 1) k0_430 rfl ?_
  refine r_iaddN k0_431 ?_
  refine r_sld (j := i + 1) (n := n) k0_432 hn rfl (by omega) hn31 ?_
  refine r_aload k0_433 rfl ?_
  refine r_iload k0_434 rfl ?_
  refine r_pushn (v := nI 2) k0_435 rfl ?_
  refine r_iaddN k0_436 ?_
  refine r_sld (j := i + 2) (n := n) k0_437 hn rfl (by omega) hn31 ?_
  refine r_aload k0_438 rfl ?_
  refine r_iload k0_439 rfl ?_
  refine r_pushn (v := nI 3) k0_440 rfl ?_
  refine r_iaddN k0_441 ?_
  refine r_sld (j := i + 3) (n := n) k0_442 hn rfl (by omega) hn31 ?_
  refine r_aload k0_443 rfl ?_
  refine r_iload k0_444 rfl ?_
  refine r_pushn (v := nI 4) k0_445 rfl ?_
  refine r_iaddN k0_446 ?_
  refine r_sld (j := i + 4) (n := n) k0_447 hn rfl (by omega) hn31 ?_
  refine r_aload k0_448 rfl ?_
  refine r_iload k0_449 rfl ?_
  refine r_pushn (v := nI 5) k0_450 rfl ?_
  refine r_iaddN k0_451 ?_
  refine r_sld (j := i + 5) (n := n) k0_452 hn rfl (by omega) hn31 ?_
  refine j_call (ml := 9) k0_453 rfl (by decide) (by decide) ⟨Nat.le_of_ble_eq_true rfl, Nat.le_of_ble_eq_true rfl, am_obB B0 rfl, Nat.le_of_ble_eq_true rfl⟩ rfl (rest := []) rfl (wp_le w1 ⟨hv, vl_r (show 1 < am_n h by omega) (vl_i (vl_i (vl_i (vl_i (vl_i (vl_n (vl_n (vl_n vl_0)))))))), am_vt_0⟩) (fun r hh hq => ?_)
  obtain ⟨⟨rfl, rfl⟩, vh1, le1⟩ := hq
  have e0 : am_I (am_si h1 J1) 0 = K 0 := le1.2.2.2
  have hn1 : (am_sh (am_si h1 J1) 0).2.2 = n := by rw [le1.2.2.1 0 (show 0 < am_n h by omega)]; exact hn
  show am_wp _ _ _ [some (.ref 0), some (.ref 1), some (.ref 36), some (.int (nI i))] [.int x] _ _
  refine r_aload k0_456 rfl ?_
  refine r_aload k0_457 rfl ?_
  refine r_iload k0_458 rfl ?_
  refine r_pushn (v := nI 1) k0_459 rfl ?_
  refine r_iaddN k0_460 ?_
  refine r_sld (j := i + 1) (n := n) k0_461 hn1 rfl (by omega) hn31 ?_
  rw [e0]
  refine r_aload k0_462 rfl ?_
  refine r_iload k0_463 rfl ?_
  refine r_pushn (v := nI 2) k0_464 rfl ?_
  refine r_iaddN k0_465 ?_
  refine r_sld (j := i + 2) (n := n) k0_466 hn1 rfl (by omega) hn31 ?_
  rw [e0]
  refine r_aload k0_467 rfl ?_
  refine r_iload k0_468 rfl ?_
  refine r_pushn (v := nI 3) k0_469 rfl ?_
  refine r_iaddN k0_470 ?_
  refine r_sld (j := i + 3) (n := n) k0_471 hn1 rfl (by omega) hn31 ?_
  rw [e0]
  refine r_aload k0_472 rfl ?_
  refine r_iload k0_473 rfl ?_
  refine r_pushn (v := nI 4) k0_474 rfl ?_
  refine r_iaddN k0_475 ?_
  refine r_sld (j := i + 4) (n := n) k0_476 hn1 rfl (by omega) hn31 ?_
  rw [e0]
  refine r_aload k0_477 rfl ?_
  refine r_iload k0_478 rfl ?_
  refine r_pushn (v := nI 5) k0_479 rfl ?_
  refine r_iaddN k0_480 ?_
  refine r_sld (j := i + 5) (n := n) k0_481 hn1 rfl (by omega) hn31 ?_
  rw [e0]
  refine j_call (ml := 9) k0_482 rfl (by decide) (by decide) ⟨Nat.le_of_ble_eq_true rfl, Nat.le_of_ble_eq_true rfl, am_obB B1 rfl, Nat.le_of_ble_eq_true rfl⟩ rfl (rest := [.int x]) rfl (wp_le w2 ⟨vh1, vl_r (show 36 < am_n h1 by omega) (vl_i (vl_i (vl_i (vl_i (vl_i (vl_n (vl_n (vl_n vl_0)))))))), am_vt_0⟩) (fun r hh hq => ?_)
  obtain ⟨⟨rfl, rfl⟩, vh2, le2⟩ := hq
  have hn2 : (am_sh (am_si h1 L2) 0).2.2 = n := by rw [le2.2.2.1 0 (show 0 < am_n h1 by omega)]; exact hn1
  show am_wp _ _ _ [some (.ref 0), some (.ref 1), some (.ref 36), some (.int (nI i))] [.int x, .int x] _ _
  exact r_icmpeq k0_485 (fun _ => kk h1 L2 nn' nb I2 vh2 hn2) (fun z => absurd rfl z)
theorem L_remove {h : am_H} {K : Nat → Nat → Int32} {nn cc i n : Nat} {Q : Option Value → am_H → Prop} (hI : Inv h K nn cc) (hcc : cc < 2 ^ 30) (hnn : nn < 2 ^ 30) (hv : am_vh (am_si h K)) (hn : (am_sh h 0).2.2 = n) (hi : i + 5 < n) (hn31 : n < 2 ^ 31) (kk : ∀ h1 L2 nn', nn' ≤ nn + 42200 → Inv h1 L2 nn' (cc + 2) → am_vh (am_si h1 L2) → (am_sh h1 0).2.2 = n → am_wp (11, 434) 0 768 [some (.ref 0), some (.ref 1), some (.ref 36), some (.int (nI i))] [] (am_si h1 L2) Q) : am_wp (11, 434) 0 490 [some (.ref 0), some (.ref 1), some (.ref 36), some (.int (nI i))] [] (am_si h K) Q := by
  obtain ⟨v, h1, J1, L2, nn', hval, nb, I2, w1, ⟨B1, B0⟩, w2⟩ := O_remove (d1 := (11 - 1, 434 - (19 + 3))) (d2 := (11 - 1, 434 - (19 + 3))) (m := (K 0 (i + 1))) hI hcc (by decide) (by decide) (by decide) (by decide)
  obtain ⟨x, rfl⟩ := hval.1 rfl
  have n0 : 74 ≤ am_n h := B0.1
  have n1 : 74 ≤ am_n h1 := B1.1
  refine r_aload k0_490 rfl ?_
  refine r_aload k0_491 rfl ?_
  refine r_iload k0_492 rfl ?_
  refine r_pushn (v := nI 1) k0_493 rfl ?_
  refine r_iaddN k0_494 ?_
  refine r_sld (j := i + 1) (n := n) k0_495 hn rfl (by omega) hn31 ?_
  refine j_call (ml := 3) k0_496 rfl (by decide) (by decide) ⟨Nat.le_of_ble_eq_true rfl, Nat.le_of_ble_eq_true rfl, am_obB B0 rfl, Nat.le_of_ble_eq_true rfl⟩ rfl (rest := []) rfl (wp_le w1 ⟨hv, vl_r (show 1 < am_n h by omega) (vl_i (vl_n vl_0)), am_vt_0⟩) (fun r hh hq => ?_)
  obtain ⟨⟨rfl, rfl⟩, vh1, le1⟩ := hq
  have e0 : am_I (am_si h1 J1) 0 = K 0 := le1.2.2.2
  have hn1 : (am_sh (am_si h1 J1) 0).2.2 = n := by rw [le1.2.2.1 0 (show 0 < am_n h by omega)]; exact hn
  show am_wp _ _ _ [some (.ref 0), some (.ref 1), some (.ref 36), some (.int (nI i))] [.int x] _ _
  refine r_aload k0_499 rfl ?_
  refine r_aload k0_500 rfl ?_
  refine r_iload k0_501 rfl ?_
  refine r_pushn (v := nI 1) k0_502 rfl ?_
  refine r_iaddN k0_503 ?_
  refine r_sld (j := i + 1) (n := n) k0_504 hn1 rfl (by omega) hn31 ?_
  rw [e0]
  refine j_call (ml := 3) k0_505 rfl (by decide) (by decide) ⟨Nat.le_of_ble_eq_true rfl, Nat.le_of_ble_eq_true rfl, am_obB B1 rfl, Nat.le_of_ble_eq_true rfl⟩ rfl (rest := [.int x]) rfl (wp_le w2 ⟨vh1, vl_r (show 36 < am_n h1 by omega) (vl_i (vl_n vl_0)), am_vt_0⟩) (fun r hh hq => ?_)
  obtain ⟨⟨rfl, rfl⟩, vh2, le2⟩ := hq
  have hn2 : (am_sh (am_si h1 L2) 0).2.2 = n := by rw [le2.2.2.1 0 (show 0 < am_n h1 by omega)]; exact hn1
  show am_wp _ _ _ [some (.ref 0), some (.ref 1), some (.ref 36), some (.int (nI i))] [.int x, .int x] _ _
  exact r_icmpeq k0_508 (fun _ => kk h1 L2 nn' nb I2 vh2 hn2) (fun z => absurd rfl z)
theorem L_step {h : am_H} {K : Nat → Nat → Int32} {nn cc i n : Nat} {Q : Option Value → am_H → Prop} (hI : Inv h K nn cc) (hcc : cc < 2 ^ 30) (hnn : nn < 2 ^ 30) (hv : am_vh (am_si h K)) (hn : (am_sh h 0).2.2 = n) (hi : i + 5 < n) (hn31 : n < 2 ^ 31) (kk : ∀ h1 L2 nn', nn' ≤ nn + 42200 → Inv h1 L2 nn' (cc + 2) → am_vh (am_si h1 L2) → (am_sh h1 0).2.2 = n → am_wp (11, 434) 0 768 [some (.ref 0), some (.ref 1), some (.ref 36), some (.int (nI i))] [] (am_si h1 L2) Q) : am_wp (11, 434) 0 513 [some (.ref 0), some (.ref 1), some (.ref 36), some (.int (nI i))] [] (am_si h K) Q := by
  obtain ⟨v, h1, J1, L2, nn', hval, nb, I2, w1, ⟨B1, B0⟩, w2⟩ := O_step (d1 := (11 - 1, 434 - (19 + 4))) (d2 := (11 - 1, 434 - (19 + 4))) (b := (K 0 (i + 1))) (op := (K 0 (i + 2))) (x := (K 0 (i + 3))) hI hcc (by decide) (by decide) (by decide) (by decide)
  obtain ⟨x, rfl⟩ := hval.1 rfl
  have n0 : 74 ≤ am_n h := B0.1
  have n1 : 74 ≤ am_n h1 := B1.1
  refine r_aload k0_513 rfl ?_
  refine r_aload k0_514 rfl ?_
  refine r_iload k0_515 rfl ?_
  refine r_pushn (v := nI 1) k0_516 rfl ?_
  refine r_iaddN k0_517 ?_
  refine r_sld (j := i + 1) (n := n) k0_518 hn rfl (by omega) hn31 ?_
  refine r_aload k0_519 rfl ?_
  refine r_iload k0_520 rfl ?_
  refine r_pushn (v := nI 2) k0_521 rfl ?_
  refine r_iaddN k0_522 ?_
  refine r_sld (j := i + 2) (n := n) k0_523 hn rfl (by omega) hn31 ?_
  refine r_aload k0_524 rfl ?_
  refine r_iload k0_525 rfl ?_
  refine r_pushn (v := nI 3) k0_526 rfl ?_
  refine r_iaddN k0_527 ?_
  refine r_sld (j := i + 3) (n := n) k0_528 hn rfl (by omega) hn31 ?_
  refine j_call (ml := 4) k0_529 rfl (by decide) (by decide) ⟨Nat.le_of_ble_eq_true rfl, Nat.le_of_ble_eq_true rfl, am_obB B0 rfl, Nat.le_of_ble_eq_true rfl⟩ rfl (rest := []) rfl (wp_le w1 ⟨hv, vl_r (show 1 < am_n h by omega) (vl_i (vl_i (vl_i vl_0))), am_vt_0⟩) (fun r hh hq => ?_)
  obtain ⟨⟨rfl, rfl⟩, vh1, le1⟩ := hq
  have e0 : am_I (am_si h1 J1) 0 = K 0 := le1.2.2.2
  have hn1 : (am_sh (am_si h1 J1) 0).2.2 = n := by rw [le1.2.2.1 0 (show 0 < am_n h by omega)]; exact hn
  show am_wp _ _ _ [some (.ref 0), some (.ref 1), some (.ref 36), some (.int (nI i))] [.int x] _ _
  refine r_aload k0_532 rfl ?_
  refine r_aload k0_533 rfl ?_
  refine r_iload k0_534 rfl ?_
  refine r_pushn (v := nI 1) k0_535 rfl ?_
  refine r_iaddN k0_536 ?_
  refine r_sld (j := i + 1) (n := n) k0_537 hn1 rfl (by omega) hn31 ?_
  rw [e0]
  refine r_aload k0_538 rfl ?_
  refine r_iload k0_539 rfl ?_
  refine r_pushn (v := nI 2) k0_540 rfl ?_
  refine r_iaddN k0_541 ?_
  refine r_sld (j := i + 2) (n := n) k0_542 hn1 rfl (by omega) hn31 ?_
  rw [e0]
  refine r_aload k0_543 rfl ?_
  refine r_iload k0_544 rfl ?_
  refine r_pushn (v := nI 3) k0_545 rfl ?_
  refine r_iaddN k0_546 ?_
  refine r_sld (j := i + 3) (n := n) k0_547 hn1 rfl (by omega) hn31 ?_
  rw [e0]
  refine j_call (ml := 4) k0_548 rfl (by decide) (by decide) ⟨Nat.le_of_ble_eq_true rfl, Nat.le_of_ble_eq_true rfl, am_obB B1 rfl, Nat.le_of_ble_eq_true rfl⟩ rfl (rest := [.int x]) rfl (wp_le w2 ⟨vh1, vl_r (show 36 < am_n h1 by omega) (vl_i (vl_i (vl_i vl_0))), am_vt_0⟩) (fun r hh hq => ?_)
  obtain ⟨⟨rfl, rfl⟩, vh2, le2⟩ := hq
  have hn2 : (am_sh (am_si h1 L2) 0).2.2 = n := by rw [le2.2.2.1 0 (show 0 < am_n h1 by omega)]; exact hn1
  show am_wp _ _ _ [some (.ref 0), some (.ref 1), some (.ref 36), some (.int (nI i))] [.int x, .int x] _ _
  exact r_icmpeq k0_551 (fun _ => kk h1 L2 nn' nb I2 vh2 hn2) (fun z => absurd rfl z)
theorem L_clear {h : am_H} {K : Nat → Nat → Int32} {nn cc i n : Nat} {Q : Option Value → am_H → Prop} (hI : Inv h K nn cc) (hcc : cc < 2 ^ 30) (hnn : nn < 2 ^ 30) (hv : am_vh (am_si h K)) (hn : (am_sh h 0).2.2 = n) (hi : i + 5 < n) (hn31 : n < 2 ^ 31) (kk : ∀ h1 L2 nn', nn' ≤ nn + 42200 → Inv h1 L2 nn' (cc + 2) → am_vh (am_si h1 L2) → (am_sh h1 0).2.2 = n → am_wp (11, 434) 0 768 [some (.ref 0), some (.ref 1), some (.ref 36), some (.int (nI i))] [] (am_si h1 L2) Q) : am_wp (11, 434) 0 556 [some (.ref 0), some (.ref 1), some (.ref 36), some (.int (nI i))] [] (am_si h K) Q := by
  obtain ⟨v, h1, J1, L2, nn', hval, nb, I2, w1, ⟨B1, B0⟩, w2⟩ := O_clear (d1 := (11 - 1, 434 - (19 + 2))) (d2 := (11 - 1, 434 - (19 + 3))) (b := (K 0 (i + 1))) hI hcc (by decide) (by decide) (by decide) (by decide)
  obtain ⟨x, rfl⟩ := hval.1 rfl
  have n0 : 74 ≤ am_n h := B0.1
  have n1 : 74 ≤ am_n h1 := B1.1
  refine r_aload k0_556 rfl ?_
  refine r_aload k0_557 rfl ?_
  refine r_iload k0_558 rfl ?_
  refine r_pushn (v := nI 1) k0_559 rfl ?_
  refine r_iaddN k0_560 ?_
  refine r_sld (j := i + 1) (n := n) k0_561 hn rfl (by omega) hn31 ?_
  refine j_call (ml := 2) k0_562 rfl (by decide) (by decide) ⟨Nat.le_of_ble_eq_true rfl, Nat.le_of_ble_eq_true rfl, am_obB B0 rfl, Nat.le_of_ble_eq_true rfl⟩ rfl (rest := []) rfl (wp_le w1 ⟨hv, vl_r (show 1 < am_n h by omega) (vl_i vl_0), am_vt_0⟩) (fun r hh hq => ?_)
  obtain ⟨⟨rfl, rfl⟩, vh1, le1⟩ := hq
  have e0 : am_I (am_si h1 J1) 0 = K 0 := le1.2.2.2
  have hn1 : (am_sh (am_si h1 J1) 0).2.2 = n := by rw [le1.2.2.1 0 (show 0 < am_n h by omega)]; exact hn
  show am_wp _ _ _ [some (.ref 0), some (.ref 1), some (.ref 36), some (.int (nI i))] [.int x] _ _
  refine r_aload k0_565 rfl ?_
  refine r_aload k0_566 rfl ?_
  refine r_iload k0_567 rfl ?_
  refine r_pushn (v := nI 1) k0_568 rfl ?_
  refine r_iaddN k0_569 ?_
  refine r_sld (j := i + 1) (n := n) k0_570 hn1 rfl (by omega) hn31 ?_
  rw [e0]
  refine j_call (ml := 3) k0_571 rfl (by decide) (by decide) ⟨Nat.le_of_ble_eq_true rfl, Nat.le_of_ble_eq_true rfl, am_obB B1 rfl, Nat.le_of_ble_eq_true rfl⟩ rfl (rest := [.int x]) rfl (wp_le w2 ⟨vh1, vl_r (show 36 < am_n h1 by omega) (vl_i (vl_n vl_0)), am_vt_0⟩) (fun r hh hq => ?_)
  obtain ⟨⟨rfl, rfl⟩, vh2, le2⟩ := hq
  have hn2 : (am_sh (am_si h1 L2) 0).2.2 = n := by rw [le2.2.2.1 0 (show 0 < am_n h1 by omega)]; exact hn1
  show am_wp _ _ _ [some (.ref 0), some (.ref 1), some (.ref 36), some (.int (nI i))] [.int x, .int x] _ _
  exact r_icmpeq k0_574 (fun _ => kk h1 L2 nn' nb I2 vh2 hn2) (fun z => absurd rfl z)
theorem L_call {h : am_H} {K : Nat → Nat → Int32} {nn cc i n : Nat} {Q : Option Value → am_H → Prop} (hI : Inv h K nn cc) (hcc : cc < 2 ^ 30) (hnn : nn < 2 ^ 30) (hv : am_vh (am_si h K)) (hn : (am_sh h 0).2.2 = n) (hi : i + 5 < n) (hn31 : n < 2 ^ 31) (kk : ∀ h1 L2 nn', nn' ≤ nn + 42200 → Inv h1 L2 nn' (cc + 2) → am_vh (am_si h1 L2) → (am_sh h1 0).2.2 = n → am_wp (11, 434) 0 768 [some (.ref 0), some (.ref 1), some (.ref 36), some (.int (nI i))] [] (am_si h1 L2) Q) : am_wp (11, 434) 0 579 [some (.ref 0), some (.ref 1), some (.ref 36), some (.int (nI i))] [] (am_si h K) Q := by
  obtain ⟨v, h1, J1, L2, nn', hval, nb, I2, w1, ⟨B1, B0⟩, w2⟩ := O_call (d1 := (11 - 1, 434 - (19 + 7))) (d2 := (11 - 1, 434 - (19 + 5))) (g := (K 0 (i + 1))) (x := (K 0 (i + 2))) (y := (K 0 (i + 3))) hI (by decide) (by decide) (by decide) (by decide)
  obtain ⟨x, rfl⟩ := hval.2 rfl
  have n0 : 74 ≤ am_n h := B0.1
  have n1 : 74 ≤ am_n h1 := B1.1
  refine r_aload k0_579 rfl ?_
  refine r_aload k0_580 rfl ?_
  refine r_iload k0_581 rfl ?_
  refine r_pushn (v := nI 1) k0_582 rfl ?_
  refine r_iaddN k0_583 ?_
  refine r_sld (j := i + 1) (n := n) k0_584 hn rfl (by omega) hn31 ?_
  refine r_aload k0_585 rfl ?_
  refine r_iload k0_586 rfl ?_
  refine r_pushn (v := nI 2) k0_587 rfl ?_
  refine r_iaddN k0_588 ?_
  refine r_sld (j := i + 2) (n := n) k0_589 hn rfl (by omega) hn31 ?_
  refine r_aload k0_590 rfl ?_
  refine r_iload k0_591 rfl ?_
  refine r_pushn (v := nI 3) k0_592 rfl ?_
  refine r_iaddN k0_593 ?_
  refine r_sld (j := i + 3) (n := n) k0_594 hn rfl (by omega) hn31 ?_
  refine j_call (ml := 7) k0_595 rfl (by decide) (by decide) ⟨Nat.le_of_ble_eq_true rfl, Nat.le_of_ble_eq_true rfl, am_obB B0 rfl, Nat.le_of_ble_eq_true rfl⟩ rfl (rest := []) rfl (wp_le w1 ⟨hv, vl_r (show 1 < am_n h by omega) (vl_i (vl_i (vl_i (vl_n (vl_n (vl_n vl_0)))))), am_vt_0⟩) (fun r hh hq => ?_)
  obtain ⟨⟨rfl, rfl⟩, vh1, le1⟩ := hq
  have e0 : am_I (am_si h1 J1) 0 = K 0 := le1.2.2.2
  have hn1 : (am_sh (am_si h1 J1) 0).2.2 = n := by rw [le1.2.2.1 0 (show 0 < am_n h by omega)]; exact hn
  show am_wp _ _ _ [some (.ref 0), some (.ref 1), some (.ref 36), some (.int (nI i))] [.long x] _ _
  refine r_aload k0_598 rfl ?_
  refine r_aload k0_599 rfl ?_
  refine r_iload k0_600 rfl ?_
  refine r_pushn (v := nI 1) k0_601 rfl ?_
  refine r_iaddN k0_602 ?_
  refine r_sld (j := i + 1) (n := n) k0_603 hn1 rfl (by omega) hn31 ?_
  rw [e0]
  refine r_aload k0_604 rfl ?_
  refine r_iload k0_605 rfl ?_
  refine r_pushn (v := nI 2) k0_606 rfl ?_
  refine r_iaddN k0_607 ?_
  refine r_sld (j := i + 2) (n := n) k0_608 hn1 rfl (by omega) hn31 ?_
  rw [e0]
  refine r_aload k0_609 rfl ?_
  refine r_iload k0_610 rfl ?_
  refine r_pushn (v := nI 3) k0_611 rfl ?_
  refine r_iaddN k0_612 ?_
  refine r_sld (j := i + 3) (n := n) k0_613 hn1 rfl (by omega) hn31 ?_
  rw [e0]
  refine j_call (ml := 5) k0_614 rfl (by decide) (by decide) ⟨Nat.le_of_ble_eq_true rfl, Nat.le_of_ble_eq_true rfl, am_obB B1 rfl, Nat.le_of_ble_eq_true rfl⟩ rfl (rest := [.long x]) rfl (wp_le w2 ⟨vh1, vl_r (show 36 < am_n h1 by omega) (vl_i (vl_i (vl_i (vl_n vl_0)))), am_vt_0⟩) (fun r hh hq => ?_)
  obtain ⟨⟨rfl, rfl⟩, vh2, le2⟩ := hq
  have hn2 : (am_sh (am_si h1 L2) 0).2.2 = n := by rw [le2.2.2.1 0 (show 0 < am_n h1 by omega)]; exact hn1
  show am_wp _ _ _ [some (.ref 0), some (.ref 1), some (.ref 36), some (.int (nI i))] [.long x, .long x] _ _
  refine r_lcmp k0_617 ?_
  rw [lcmp_0]
  exact r_ifeq k0_618 (fun _ => kk h1 L2 nn' nb I2 vh2 hn2) (fun z => absurd rfl z)
theorem L_prec {h : am_H} {K : Nat → Nat → Int32} {nn cc i n : Nat} {Q : Option Value → am_H → Prop} (hI : Inv h K nn cc) (hcc : cc < 2 ^ 30) (hnn : nn < 2 ^ 30) (hv : am_vh (am_si h K)) (hn : (am_sh h 0).2.2 = n) (hi : i + 5 < n) (hn31 : n < 2 ^ 31) (kk : ∀ h1 L2 nn', nn' ≤ nn + 42200 → Inv h1 L2 nn' (cc + 2) → am_vh (am_si h1 L2) → (am_sh h1 0).2.2 = n → am_wp (11, 434) 0 768 [some (.ref 0), some (.ref 1), some (.ref 36), some (.int (nI i))] [] (am_si h1 L2) Q) : am_wp (11, 434) 0 623 [some (.ref 0), some (.ref 1), some (.ref 36), some (.int (nI i))] [] (am_si h K) Q := by
  obtain ⟨v, h1, J1, L2, nn', hval, nb, I2, w1, ⟨B1, B0⟩, w2⟩ := O_prec (d1 := (11 - 1, 434 - (19 + 3))) (d2 := (11 - 1, 434 - (19 + 3))) (c := (K 0 (i + 1))) (k := (K 0 (i + 2))) hI hcc hnn (by decide) (by decide) (by decide) (by decide)
  obtain ⟨x, rfl⟩ := hval.1 rfl
  have n0 : 74 ≤ am_n h := B0.1
  have n1 : 74 ≤ am_n h1 := B1.1
  refine r_aload k0_623 rfl ?_
  refine r_aload k0_624 rfl ?_
  refine r_iload k0_625 rfl ?_
  refine r_pushn (v := nI 1) k0_626 rfl ?_
  refine r_iaddN k0_627 ?_
  refine r_sld (j := i + 1) (n := n) k0_628 hn rfl (by omega) hn31 ?_
  refine r_aload k0_629 rfl ?_
  refine r_iload k0_630 rfl ?_
  refine r_pushn (v := nI 2) k0_631 rfl ?_
  refine r_iaddN k0_632 ?_
  refine r_sld (j := i + 2) (n := n) k0_633 hn rfl (by omega) hn31 ?_
  refine j_call (ml := 3) k0_634 rfl (by decide) (by decide) ⟨Nat.le_of_ble_eq_true rfl, Nat.le_of_ble_eq_true rfl, am_obB B0 rfl, Nat.le_of_ble_eq_true rfl⟩ rfl (rest := []) rfl (wp_le w1 ⟨hv, vl_r (show 1 < am_n h by omega) (vl_i (vl_i vl_0)), am_vt_0⟩) (fun r hh hq => ?_)
  obtain ⟨⟨rfl, rfl⟩, vh1, le1⟩ := hq
  have e0 : am_I (am_si h1 J1) 0 = K 0 := le1.2.2.2
  have hn1 : (am_sh (am_si h1 J1) 0).2.2 = n := by rw [le1.2.2.1 0 (show 0 < am_n h by omega)]; exact hn
  show am_wp _ _ _ [some (.ref 0), some (.ref 1), some (.ref 36), some (.int (nI i))] [.int x] _ _
  refine r_aload k0_637 rfl ?_
  refine r_aload k0_638 rfl ?_
  refine r_iload k0_639 rfl ?_
  refine r_pushn (v := nI 1) k0_640 rfl ?_
  refine r_iaddN k0_641 ?_
  refine r_sld (j := i + 1) (n := n) k0_642 hn1 rfl (by omega) hn31 ?_
  rw [e0]
  refine r_aload k0_643 rfl ?_
  refine r_iload k0_644 rfl ?_
  refine r_pushn (v := nI 2) k0_645 rfl ?_
  refine r_iaddN k0_646 ?_
  refine r_sld (j := i + 2) (n := n) k0_647 hn1 rfl (by omega) hn31 ?_
  rw [e0]
  refine j_call (ml := 3) k0_648 rfl (by decide) (by decide) ⟨Nat.le_of_ble_eq_true rfl, Nat.le_of_ble_eq_true rfl, am_obB B1 rfl, Nat.le_of_ble_eq_true rfl⟩ rfl (rest := [.int x]) rfl (wp_le w2 ⟨vh1, vl_r (show 36 < am_n h1 by omega) (vl_i (vl_i vl_0)), am_vt_0⟩) (fun r hh hq => ?_)
  obtain ⟨⟨rfl, rfl⟩, vh2, le2⟩ := hq
  have hn2 : (am_sh (am_si h1 L2) 0).2.2 = n := by rw [le2.2.2.1 0 (show 0 < am_n h1 by omega)]; exact hn1
  show am_wp _ _ _ [some (.ref 0), some (.ref 1), some (.ref 36), some (.int (nI i))] [.int x, .int x] _ _
  exact r_icmpeq k0_651 (fun _ => kk h1 L2 nn' nb I2 vh2 hn2) (fun z => absurd rfl z)
theorem L_has {h : am_H} {K : Nat → Nat → Int32} {nn cc i n : Nat} {Q : Option Value → am_H → Prop} (hI : Inv h K nn cc) (hcc : cc < 2 ^ 30) (hnn : nn < 2 ^ 30) (hv : am_vh (am_si h K)) (hn : (am_sh h 0).2.2 = n) (hi : i + 5 < n) (hn31 : n < 2 ^ 31) (kk : ∀ h1 L2 nn', nn' ≤ nn + 42200 → Inv h1 L2 nn' (cc + 2) → am_vh (am_si h1 L2) → (am_sh h1 0).2.2 = n → am_wp (11, 434) 0 768 [some (.ref 0), some (.ref 1), some (.ref 36), some (.int (nI i))] [] (am_si h1 L2) Q) : am_wp (11, 434) 0 656 [some (.ref 0), some (.ref 1), some (.ref 36), some (.int (nI i))] [] (am_si h K) Q := by
  obtain ⟨v, h1, J1, L2, nn', hval, nb, I2, w1, ⟨B1, B0⟩, w2⟩ := O_has (d1 := (11 - 1, 434 - (19 + 3))) (d2 := (11 - 1, 434 - (19 + 4))) (c := (K 0 (i + 1))) (nm := (K 0 (i + 2))) hI hcc hnn (by decide) (by decide) (by decide) (by decide)
  obtain ⟨x, rfl⟩ := hval.1 rfl
  have n0 : 74 ≤ am_n h := B0.1
  have n1 : 74 ≤ am_n h1 := B1.1
  refine r_aload k0_656 rfl ?_
  refine r_aload k0_657 rfl ?_
  refine r_iload k0_658 rfl ?_
  refine r_pushn (v := nI 1) k0_659 rfl ?_
  refine r_iaddN k0_660 ?_
  refine r_sld (j := i + 1) (n := n) k0_661 hn rfl (by omega) hn31 ?_
  refine r_aload k0_662 rfl ?_
  refine r_iload k0_663 rfl ?_
  refine r_pushn (v := nI 2) k0_664 rfl ?_
  refine r_iaddN k0_665 ?_
  refine r_sld (j := i + 2) (n := n) k0_666 hn rfl (by omega) hn31 ?_
  refine j_call (ml := 3) k0_667 rfl (by decide) (by decide) ⟨Nat.le_of_ble_eq_true rfl, Nat.le_of_ble_eq_true rfl, am_obB B0 rfl, Nat.le_of_ble_eq_true rfl⟩ rfl (rest := []) rfl (wp_le w1 ⟨hv, vl_r (show 1 < am_n h by omega) (vl_i (vl_i vl_0)), am_vt_0⟩) (fun r hh hq => ?_)
  obtain ⟨⟨rfl, rfl⟩, vh1, le1⟩ := hq
  have e0 : am_I (am_si h1 J1) 0 = K 0 := le1.2.2.2
  have hn1 : (am_sh (am_si h1 J1) 0).2.2 = n := by rw [le1.2.2.1 0 (show 0 < am_n h by omega)]; exact hn
  show am_wp _ _ _ [some (.ref 0), some (.ref 1), some (.ref 36), some (.int (nI i))] [.int x] _ _
  refine r_aload k0_670 rfl ?_
  refine r_aload k0_671 rfl ?_
  refine r_iload k0_672 rfl ?_
  refine r_pushn (v := nI 1) k0_673 rfl ?_
  refine r_iaddN k0_674 ?_
  refine r_sld (j := i + 1) (n := n) k0_675 hn1 rfl (by omega) hn31 ?_
  rw [e0]
  refine r_aload k0_676 rfl ?_
  refine r_iload k0_677 rfl ?_
  refine r_pushn (v := nI 2) k0_678 rfl ?_
  refine r_iaddN k0_679 ?_
  refine r_sld (j := i + 2) (n := n) k0_680 hn1 rfl (by omega) hn31 ?_
  rw [e0]
  refine j_call (ml := 4) k0_681 rfl (by decide) (by decide) ⟨Nat.le_of_ble_eq_true rfl, Nat.le_of_ble_eq_true rfl, am_obB B1 rfl, Nat.le_of_ble_eq_true rfl⟩ rfl (rest := [.int x]) rfl (wp_le w2 ⟨vh1, vl_r (show 36 < am_n h1 by omega) (vl_i (vl_i (vl_n vl_0))), am_vt_0⟩) (fun r hh hq => ?_)
  obtain ⟨⟨rfl, rfl⟩, vh2, le2⟩ := hq
  have hn2 : (am_sh (am_si h1 L2) 0).2.2 = n := by rw [le2.2.2.1 0 (show 0 < am_n h1 by omega)]; exact hn1
  show am_wp _ _ _ [some (.ref 0), some (.ref 1), some (.ref 36), some (.int (nI i))] [.int x, .int x] _ _
  exact r_icmpeq k0_684 (fun _ => kk h1 L2 nn' nb I2 vh2 hn2) (fun z => absurd rfl z)
theorem L_look {h : am_H} {K : Nat → Nat → Int32} {nn cc i n : Nat} {Q : Option Value → am_H → Prop} (hI : Inv h K nn cc) (hcc : cc < 2 ^ 30) (hnn : nn < 2 ^ 30) (hv : am_vh (am_si h K)) (hn : (am_sh h 0).2.2 = n) (hi : i + 5 < n) (hn31 : n < 2 ^ 31) (kk : ∀ h1 L2 nn', nn' ≤ nn + 42200 → Inv h1 L2 nn' (cc + 2) → am_vh (am_si h1 L2) → (am_sh h1 0).2.2 = n → am_wp (11, 434) 0 768 [some (.ref 0), some (.ref 1), some (.ref 36), some (.int (nI i))] [] (am_si h1 L2) Q) : am_wp (11, 434) 0 689 [some (.ref 0), some (.ref 1), some (.ref 36), some (.int (nI i))] [] (am_si h K) Q := by
  obtain ⟨v, h1, J1, L2, nn', hval, nb, I2, w1, ⟨B1, B0⟩, w2⟩ := O_look (d1 := (11 - 1, 434 - (19 + 3))) (d2 := (11 - 1, 434 - (19 + 3))) (i := (K 0 (i + 1))) (what := (K 0 (i + 2))) hI hcc hnn (by decide) (by decide) (by decide) (by decide)
  obtain ⟨x, rfl⟩ := hval.1 rfl
  have n0 : 74 ≤ am_n h := B0.1
  have n1 : 74 ≤ am_n h1 := B1.1
  refine r_aload k0_689 rfl ?_
  refine r_aload k0_690 rfl ?_
  refine r_iload k0_691 rfl ?_
  refine r_pushn (v := nI 1) k0_692 rfl ?_
  refine r_iaddN k0_693 ?_
  refine r_sld (j := i + 1) (n := n) k0_694 hn rfl (by omega) hn31 ?_
  refine r_aload k0_695 rfl ?_
  refine r_iload k0_696 rfl ?_
  refine r_pushn (v := nI 2) k0_697 rfl ?_
  refine r_iaddN k0_698 ?_
  refine r_sld (j := i + 2) (n := n) k0_699 hn rfl (by omega) hn31 ?_
  refine j_call (ml := 3) k0_700 rfl (by decide) (by decide) ⟨Nat.le_of_ble_eq_true rfl, Nat.le_of_ble_eq_true rfl, am_obB B0 rfl, Nat.le_of_ble_eq_true rfl⟩ rfl (rest := []) rfl (wp_le w1 ⟨hv, vl_r (show 1 < am_n h by omega) (vl_i (vl_i vl_0)), am_vt_0⟩) (fun r hh hq => ?_)
  obtain ⟨⟨rfl, rfl⟩, vh1, le1⟩ := hq
  have e0 : am_I (am_si h1 J1) 0 = K 0 := le1.2.2.2
  have hn1 : (am_sh (am_si h1 J1) 0).2.2 = n := by rw [le1.2.2.1 0 (show 0 < am_n h by omega)]; exact hn
  show am_wp _ _ _ [some (.ref 0), some (.ref 1), some (.ref 36), some (.int (nI i))] [.int x] _ _
  refine r_aload k0_703 rfl ?_
  refine r_aload k0_704 rfl ?_
  refine r_iload k0_705 rfl ?_
  refine r_pushn (v := nI 1) k0_706 rfl ?_
  refine r_iaddN k0_707 ?_
  refine r_sld (j := i + 1) (n := n) k0_708 hn1 rfl (by omega) hn31 ?_
  rw [e0]
  refine r_aload k0_709 rfl ?_
  refine r_iload k0_710 rfl ?_
  refine r_pushn (v := nI 2) k0_711 rfl ?_
  refine r_iaddN k0_712 ?_
  refine r_sld (j := i + 2) (n := n) k0_713 hn1 rfl (by omega) hn31 ?_
  rw [e0]
  refine j_call (ml := 3) k0_714 rfl (by decide) (by decide) ⟨Nat.le_of_ble_eq_true rfl, Nat.le_of_ble_eq_true rfl, am_obB B1 rfl, Nat.le_of_ble_eq_true rfl⟩ rfl (rest := [.int x]) rfl (wp_le w2 ⟨vh1, vl_r (show 36 < am_n h1 by omega) (vl_i (vl_i vl_0)), am_vt_0⟩) (fun r hh hq => ?_)
  obtain ⟨⟨rfl, rfl⟩, vh2, le2⟩ := hq
  have hn2 : (am_sh (am_si h1 L2) 0).2.2 = n := by rw [le2.2.2.1 0 (show 0 < am_n h1 by omega)]; exact hn1
  show am_wp _ _ _ [some (.ref 0), some (.ref 1), some (.ref 36), some (.int (nI i))] [.int x, .int x] _ _
  exact r_icmpeq k0_717 (fun _ => kk h1 L2 nn' nb I2 vh2 hn2) (fun z => absurd rfl z)
theorem L_noted {h : am_H} {K : Nat → Nat → Int32} {nn cc i n : Nat} {Q : Option Value → am_H → Prop} (hI : Inv h K nn cc) (hcc : cc < 2 ^ 30) (hnn : nn < 2 ^ 30) (hv : am_vh (am_si h K)) (hn : (am_sh h 0).2.2 = n) (hi : i + 5 < n) (hn31 : n < 2 ^ 31) (kk : ∀ h1 L2 nn', nn' ≤ nn + 42200 → Inv h1 L2 nn' (cc + 2) → am_vh (am_si h1 L2) → (am_sh h1 0).2.2 = n → am_wp (11, 434) 0 768 [some (.ref 0), some (.ref 1), some (.ref 36), some (.int (nI i))] [] (am_si h1 L2) Q) : am_wp (11, 434) 0 722 [some (.ref 0), some (.ref 1), some (.ref 36), some (.int (nI i))] [] (am_si h K) Q := by
  obtain ⟨v, h1, J1, L2, nn', hval, nb, I2, w1, ⟨B1, B0⟩, w2⟩ := O_noted (d1 := (11 - 1, 434 - (19 + 2))) (d2 := (11 - 1, 434 - (19 + 2))) (k := (K 0 (i + 1))) hI hcc hnn (by decide) (by decide) (by decide) (by decide)
  obtain ⟨x, rfl⟩ := hval.1 rfl
  have n0 : 74 ≤ am_n h := B0.1
  have n1 : 74 ≤ am_n h1 := B1.1
  refine r_aload k0_722 rfl ?_
  refine r_aload k0_723 rfl ?_
  refine r_iload k0_724 rfl ?_
  refine r_pushn (v := nI 1) k0_725 rfl ?_
  refine r_iaddN k0_726 ?_
  refine r_sld (j := i + 1) (n := n) k0_727 hn rfl (by omega) hn31 ?_
  refine j_call (ml := 2) k0_728 rfl (by decide) (by decide) ⟨Nat.le_of_ble_eq_true rfl, Nat.le_of_ble_eq_true rfl, am_obB B0 rfl, Nat.le_of_ble_eq_true rfl⟩ rfl (rest := []) rfl (wp_le w1 ⟨hv, vl_r (show 1 < am_n h by omega) (vl_i vl_0), am_vt_0⟩) (fun r hh hq => ?_)
  obtain ⟨⟨rfl, rfl⟩, vh1, le1⟩ := hq
  have e0 : am_I (am_si h1 J1) 0 = K 0 := le1.2.2.2
  have hn1 : (am_sh (am_si h1 J1) 0).2.2 = n := by rw [le1.2.2.1 0 (show 0 < am_n h by omega)]; exact hn
  show am_wp _ _ _ [some (.ref 0), some (.ref 1), some (.ref 36), some (.int (nI i))] [.int x] _ _
  refine r_aload k0_731 rfl ?_
  refine r_aload k0_732 rfl ?_
  refine r_iload k0_733 rfl ?_
  refine r_pushn (v := nI 1) k0_734 rfl ?_
  refine r_iaddN k0_735 ?_
  refine r_sld (j := i + 1) (n := n) k0_736 hn1 rfl (by omega) hn31 ?_
  rw [e0]
  refine j_call (ml := 2) k0_737 rfl (by decide) (by decide) ⟨Nat.le_of_ble_eq_true rfl, Nat.le_of_ble_eq_true rfl, am_obB B1 rfl, Nat.le_of_ble_eq_true rfl⟩ rfl (rest := [.int x]) rfl (wp_le w2 ⟨vh1, vl_r (show 36 < am_n h1 by omega) (vl_i vl_0), am_vt_0⟩) (fun r hh hq => ?_)
  obtain ⟨⟨rfl, rfl⟩, vh2, le2⟩ := hq
  have hn2 : (am_sh (am_si h1 L2) 0).2.2 = n := by rw [le2.2.2.1 0 (show 0 < am_n h1 by omega)]; exact hn1
  show am_wp _ _ _ [some (.ref 0), some (.ref 1), some (.ref 36), some (.int (nI i))] [.int x, .int x] _ _
  exact r_icmpeq k0_740 (fun _ => kk h1 L2 nn' nb I2 vh2 hn2) (fun z => absurd rfl z)
theorem L_count {h : am_H} {K : Nat → Nat → Int32} {nn cc i n : Nat} {Q : Option Value → am_H → Prop} (hI : Inv h K nn cc) (hcc : cc < 2 ^ 30) (hnn : nn < 2 ^ 30) (hv : am_vh (am_si h K)) (hn : (am_sh h 0).2.2 = n) (hi : i + 5 < n) (hn31 : n < 2 ^ 31) (kk : ∀ h1 L2 nn', nn' ≤ nn + 42200 → Inv h1 L2 nn' (cc + 2) → am_vh (am_si h1 L2) → (am_sh h1 0).2.2 = n → am_wp (11, 434) 0 768 [some (.ref 0), some (.ref 1), some (.ref 36), some (.int (nI i))] [] (am_si h1 L2) Q) : am_wp (11, 434) 0 745 [some (.ref 0), some (.ref 1), some (.ref 36), some (.int (nI i))] [] (am_si h K) Q := by
  obtain ⟨v, h1, J1, L2, nn', hval, nb, I2, w1, ⟨B1, B0⟩, w2⟩ := O_count (d1 := (11 - 1, 434 - (19 + 2))) (d2 := (11 - 1, 434 - (19 + 4))) (what := (K 0 (i + 1))) hI hcc hnn (by decide) (by decide) (by decide) (by decide)
  obtain ⟨x, rfl⟩ := hval.1 rfl
  have n0 : 74 ≤ am_n h := B0.1
  have n1 : 74 ≤ am_n h1 := B1.1
  refine r_aload k0_745 rfl ?_
  refine r_aload k0_746 rfl ?_
  refine r_iload k0_747 rfl ?_
  refine r_pushn (v := nI 1) k0_748 rfl ?_
  refine r_iaddN k0_749 ?_
  refine r_sld (j := i + 1) (n := n) k0_750 hn rfl (by omega) hn31 ?_
  refine j_call (ml := 2) k0_751 rfl (by decide) (by decide) ⟨Nat.le_of_ble_eq_true rfl, Nat.le_of_ble_eq_true rfl, am_obB B0 rfl, Nat.le_of_ble_eq_true rfl⟩ rfl (rest := []) rfl (wp_le w1 ⟨hv, vl_r (show 1 < am_n h by omega) (vl_i vl_0), am_vt_0⟩) (fun r hh hq => ?_)
  obtain ⟨⟨rfl, rfl⟩, vh1, le1⟩ := hq
  have e0 : am_I (am_si h1 J1) 0 = K 0 := le1.2.2.2
  have hn1 : (am_sh (am_si h1 J1) 0).2.2 = n := by rw [le1.2.2.1 0 (show 0 < am_n h by omega)]; exact hn
  show am_wp _ _ _ [some (.ref 0), some (.ref 1), some (.ref 36), some (.int (nI i))] [.int x] _ _
  refine r_aload k0_754 rfl ?_
  refine r_aload k0_755 rfl ?_
  refine r_iload k0_756 rfl ?_
  refine r_pushn (v := nI 1) k0_757 rfl ?_
  refine r_iaddN k0_758 ?_
  refine r_sld (j := i + 1) (n := n) k0_759 hn1 rfl (by omega) hn31 ?_
  rw [e0]
  refine j_call (ml := 4) k0_760 rfl (by decide) (by decide) ⟨Nat.le_of_ble_eq_true rfl, Nat.le_of_ble_eq_true rfl, am_obB B1 rfl, Nat.le_of_ble_eq_true rfl⟩ rfl (rest := [.int x]) rfl (wp_le w2 ⟨vh1, vl_r (show 36 < am_n h1 by omega) (vl_i (vl_n (vl_n vl_0))), am_vt_0⟩) (fun r hh hq => ?_)
  obtain ⟨⟨rfl, rfl⟩, vh2, le2⟩ := hq
  have hn2 : (am_sh (am_si h1 L2) 0).2.2 = n := by rw [le2.2.2.1 0 (show 0 < am_n h1 by omega)]; exact hn1
  show am_wp _ _ _ [some (.ref 0), some (.ref 1), some (.ref 36), some (.int (nI i))] [.int x, .int x] _ _
  exact r_icmpeq k0_763 (fun _ => kk h1 L2 nn' nb I2 vh2 hn2) (fun z => absurd rfl z)
theorem L_disp {h : am_H} {K : Nat → Nat → Int32} {nn cc i n : Nat} {Q : Option Value → am_H → Prop} (hI : Inv h K nn cc) (hcc : cc < 2 ^ 30) (hnn : nn < 2 ^ 30) (hv : am_vh (am_si h K)) (hn : (am_sh h 0).2.2 = n) (hi : i + 5 < n) (hn31 : n < 2 ^ 31) (kk : ∀ h1 L2 nn', nn' ≤ nn + 42200 → Inv h1 L2 nn' (cc + 2) → am_vh (am_si h1 L2) → (am_sh h1 0).2.2 = n → am_wp (11, 434) 0 768 [some (.ref 0), some (.ref 1), some (.ref 36), some (.int (nI i))] [] (am_si h1 L2) Q) {x : Int32} : am_wp (11, 434) 0 33 [some (.ref 0), some (.ref 1), some (.ref 36), some (.int (nI i))] [.int x] (am_si h K) Q := by
  by_cases z0 : x = nI 0
  · rw [z0]
    refine r_tsIn (t := 120) k0_33 (by rw [nI_toInt (by decide)]; decide) (by rw [nI_toInt (by decide)]; rfl) ?_
    exact L_define hI hcc hnn hv hn hi hn31 kk
  by_cases z1 : x = nI 1
  · rw [z1]
    refine r_tsIn (t := 173) k0_33 (by rw [nI_toInt (by decide)]; decide) (by rw [nI_toInt (by decide)]; rfl) ?_
    exact L_slot hI hcc hnn hv hn hi hn31 kk
  by_cases z2 : x = nI 2
  · rw [z2]
    refine r_tsIn (t := 226) k0_33 (by rw [nI_toInt (by decide)]; decide) (by rw [nI_toInt (by decide)]; rfl) ?_
    exact L_make hI hcc hnn hv hn hi hn31 kk
  by_cases z3 : x = nI 3
  · rw [z3]
    refine r_tsIn (t := 249) k0_33 (by rw [nI_toInt (by decide)]; decide) (by rw [nI_toInt (by decide)]; rfl) ?_
    exact L_become hI hcc hnn hv hn hi hn31 kk
  by_cases z4 : x = nI 4
  · rw [z4]
    refine r_tsIn (t := 282) k0_33 (by rw [nI_toInt (by decide)]; decide) (by rw [nI_toInt (by decide)]; rfl) ?_
    exact L_get hI hcc hnn hv hn hi hn31 kk
  by_cases z5 : x = nI 5
  · rw [z5]
    refine r_tsIn (t := 316) k0_33 (by rw [nI_toInt (by decide)]; decide) (by rw [nI_toInt (by decide)]; rfl) ?_
    exact L_put hI hcc hnn hv hn hi hn31 kk
  by_cases z6 : x = nI 6
  · rw [z6]
    refine r_tsIn (t := 360) k0_33 (by rw [nI_toInt (by decide)]; decide) (by rw [nI_toInt (by decide)]; rfl) ?_
    exact L_unbind hI hcc hnn hv hn hi hn31 kk
  by_cases z7 : x = nI 7
  · rw [z7]
    refine r_tsIn (t := 394) k0_33 (by rw [nI_toInt (by decide)]; decide) (by rw [nI_toInt (by decide)]; rfl) ?_
    exact L_generic hI hcc hnn hv hn hi hn31 kk
  by_cases z8 : x = nI 8
  · rw [z8]
    refine r_tsIn (t := 427) k0_33 (by rw [nI_toInt (by decide)]; decide) (by rw [nI_toInt (by decide)]; rfl) ?_
    exact L_method hI hcc hnn hv hn hi hn31 kk
  by_cases z9 : x = nI 9
  · rw [z9]
    refine r_tsIn (t := 490) k0_33 (by rw [nI_toInt (by decide)]; decide) (by rw [nI_toInt (by decide)]; rfl) ?_
    exact L_remove hI hcc hnn hv hn hi hn31 kk
  by_cases z10 : x = nI 10
  · rw [z10]
    refine r_tsIn (t := 513) k0_33 (by rw [nI_toInt (by decide)]; decide) (by rw [nI_toInt (by decide)]; rfl) ?_
    exact L_step hI hcc hnn hv hn hi hn31 kk
  by_cases z11 : x = nI 11
  · rw [z11]
    refine r_tsIn (t := 556) k0_33 (by rw [nI_toInt (by decide)]; decide) (by rw [nI_toInt (by decide)]; rfl) ?_
    exact L_clear hI hcc hnn hv hn hi hn31 kk
  by_cases z12 : x = nI 12
  · rw [z12]
    refine r_tsIn (t := 579) k0_33 (by rw [nI_toInt (by decide)]; decide) (by rw [nI_toInt (by decide)]; rfl) ?_
    exact L_call hI hcc hnn hv hn hi hn31 kk
  by_cases z13 : x = nI 13
  · rw [z13]
    refine r_tsIn (t := 623) k0_33 (by rw [nI_toInt (by decide)]; decide) (by rw [nI_toInt (by decide)]; rfl) ?_
    exact L_prec hI hcc hnn hv hn hi hn31 kk
  by_cases z14 : x = nI 14
  · rw [z14]
    refine r_tsIn (t := 656) k0_33 (by rw [nI_toInt (by decide)]; decide) (by rw [nI_toInt (by decide)]; rfl) ?_
    exact L_has hI hcc hnn hv hn hi hn31 kk
  by_cases z15 : x = nI 15
  · rw [z15]
    refine r_tsIn (t := 689) k0_33 (by rw [nI_toInt (by decide)]; decide) (by rw [nI_toInt (by decide)]; rfl) ?_
    exact L_look hI hcc hnn hv hn hi hn31 kk
  by_cases z16 : x = nI 16
  · rw [z16]
    refine r_tsIn (t := 722) k0_33 (by rw [nI_toInt (by decide)]; decide) (by rw [nI_toInt (by decide)]; rfl) ?_
    exact L_noted hI hcc hnn hv hn hi hn31 kk
  by_cases z17 : x = nI 17
  · rw [z17]
    refine r_tsIn (t := 745) k0_33 (by rw [nI_toInt (by decide)]; decide) (by rw [nI_toInt (by decide)]; rfl) ?_
    exact L_count hI hcc hnn hv hn hi hn31 kk
  refine r_tsOut k0_33 ?_ ?_
  · by_cases y0 : x.toInt < 0
    · exact Or.inl y0
    · refine Or.inr (Int.not_le.mp (fun y1 => ?_))
      obtain ⟨j, hj, rfl⟩ := nI_oi (show 0 ≤ x.toInt by omega)
      rw [nI_toInt hj] at y1
      have c : j = 0 ∨ j = 1 ∨ j = 2 ∨ j = 3 ∨ j = 4 ∨ j = 5 ∨ j = 6 ∨ j = 7 ∨ j = 8 ∨ j = 9 ∨ j = 10 ∨ j = 11 ∨ j = 12 ∨ j = 13 ∨ j = 14 ∨ j = 15 ∨ j = 16 ∨ j = 17 := by omega
      rcases c with rfl | rfl | rfl | rfl | rfl | rfl | rfl | rfl | rfl | rfl | rfl | rfl | rfl | rfl | rfl | rfl | rfl | rfl
      · exact z0 rfl
      · exact z1 rfl
      · exact z2 rfl
      · exact z3 rfl
      · exact z4 rfl
      · exact z5 rfl
      · exact z6 rfl
      · exact z7 rfl
      · exact z8 rfl
      · exact z9 rfl
      · exact z10 rfl
      · exact z11 rfl
      · exact z12 rfl
      · exact z13 rfl
      · exact z14 rfl
      · exact z15 rfl
      · exact z16 rfl
      · exact z17 rfl
  · exact kk h K nn (Nat.le_add_right nn _) (O_none hI) hv hn
