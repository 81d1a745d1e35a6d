/-! The reference: arrange. -/
noncomputable def R_a3 (c : Nat) (r : Nat) (e : Nat) : Nat → Nat → (Nat → Nat → Int32) → Int32 → Int32
  | 0, k, J, w => (w)
  | m + 1, k, J, w => (am_ite (((w >>> ((nI e) &&& 31)) &&& (nI 1)) = (nI 1)) (am_ite ((J 41 ((3 * e) + k)) < 0) (R_a3 c r e m (k + 1) J w) (R_a3 c r e m (k + 1) J (w ||| ((nI 1) <<< ((nI (jn J 41 ((3 * e) + k))) &&& 31))))) (w))
set_option maxRecDepth 20000 in
theorem l_R_a3 {d : am_D} {h : am_H} {Q : Option Value → am_H → Prop} (hB : am_B h) (c : Nat) (r : Nat) (e : Nat) (he : e < 12) : ∀ (m k : Nat) (J : Nat → Nat → Int32), am_ty2 J → k + m = 3 → ∀ (w : Int32), (am_wp d 36 79 [some (.ref 36), some (.int (nI (c))), some (.int ((R_a3 c r e m k J w))), some (.int (nI (r))), some (.int (nI (e))), none, none, none, none, none] [] (am_si h J) Q) → am_wp d 36 25 [some (.ref 36), some (.int (nI (c))), some (.int (w)), some (.int (nI (r))), some (.int (nI (e))), some (.int (nI (k))), none, none, none, none] [] (am_si h J) Q := by
  intro m
  induction m with
  | zero =>
    intro k J hT hk w HQ
    refine r_iload k36_25 rfl ?_
    refine r_pushn (v := nI 3) k36_27 rfl ?_
    refine r_icmpgeN (by omega) (by omega) k36_28 (fun z28 => ?_) (fun z28 => ?_)
    · have e9 : R_a3 c r e 0 k J w = (w) := by rw [R_a3]
      rw [e9] at HQ
      exact wp_L (L := [some (.ref 36), some (.int (nI (c))), some (.int (w)), some (.int (nI (r))), some (.int (nI (e))), none, none, none, none, none]) (⟨Or.inr rfl, Or.inr rfl, Or.inr rfl, Or.inr rfl, Or.inr rfl, Or.inl rfl, Or.inl rfl, Or.inl rfl, Or.inl rfl, Or.inl rfl, True.intro⟩) (HQ)
    · exact absurd z28 (by omega)
  | succ m ih =>
    intro k J hT hk w HQ
    refine r_iload k36_25 rfl ?_
    refine r_pushn (v := nI 3) k36_27 rfl ?_
    refine r_icmpgeN (by omega) (by omega) k36_28 (fun z28 => ?_) (fun z28 => ?_)
    · exact absurd z28 (by omega)
    · refine r_iload k36_31 rfl ?_
      refine r_iload k36_32 rfl ?_
      refine r_ishr k36_34 ?_
      refine r_pushn (v := nI 1) k36_35 rfl ?_
      refine r_iand k36_36 ?_
      refine r_pushn (v := nI 1) k36_37 rfl ?_
      refine r_icmpne k36_38 (fun z38 => ?_) (fun z38 => ?_)
      · have e9 : R_a3 c r e (m + 1) k J w = (w) := by rw [R_a3]; rw [am_ite_f z38]
        rw [e9] at HQ
        exact wp_L (L := [some (.ref 36), some (.int (nI (c))), some (.int (w)), some (.int (nI (r))), some (.int (nI (e))), none, none, none, none, none]) (⟨Or.inr rfl, Or.inr rfl, Or.inr rfl, Or.inr rfl, Or.inr rfl, Or.inl rfl, Or.inl rfl, Or.inl rfl, Or.inl rfl, Or.inl rfl, True.intro⟩) (HQ)
      · refine r_aload k36_41 rfl ?_
        refine j_ref (b := 41) k36_42 hB rfl ?_
        refine r_pushn (v := nI 3) k36_45 rfl ?_
        refine r_iload k36_46 rfl ?_
        refine r_imulN k36_48 ?_
        refine r_iload k36_49 rfl ?_
        refine r_iaddN k36_51 ?_
        refine j_ald (n := 36) (j := ((3 * e) + k)) (v := (J 41 ((3 * e) + k))) k36_52 hB rfl rfl (by omega) rfl ?_
        refine r_iflt k36_53 (fun z53 => ?_) (fun z53 => ?_)
        · refine r_iinc (v := (nI (k + 1))) (L' := [some (.ref 36), some (.int (nI (c))), some (.int (w)), some (.int (nI (r))), some (.int (nI (e))), some (.int (nI (k + 1))), none, none, none, none]) k36_73 rfl (Nat.le_of_ble_eq_true rfl) (nI_1 _) rfl ?_
          refine r_goto k36_76 ?_
          have e9 : R_a3 c r e (m + 1) k J w = R_a3 c r e m (k + 1) J w := by rw [R_a3]; rw [am_ite_t z38, am_ite_t z53]
          rw [e9] at HQ
          exact ih (k + 1) J hT (by omega) w HQ
        · have c53 := ty_ml hT (q := 41) (B := 12) (by decide) (by decide) ((3 * e) + k) z53
          refine r_iload k36_56 rfl ?_
          refine r_pushn (v := nI 1) k36_57 rfl ?_
          refine r_aload k36_58 rfl ?_
          refine j_ref (b := 41) k36_59 hB rfl ?_
          refine r_pushn (v := nI 3) k36_62 rfl ?_
          refine r_iload k36_63 rfl ?_
          refine r_imulN k36_65 ?_
          refine r_iload k36_66 rfl ?_
          refine r_iaddN k36_68 ?_
          refine j_ald (n := 36) (j := ((3 * e) + k)) (v := (nI (jn J 41 ((3 * e) + k)))) k36_69 hB rfl rfl (by omega) c53.1 ?_
          refine r_ishl k36_70 ?_
          refine r_ior k36_71 ?_
          refine r_istore (L' := [some (.ref 36), some (.int (nI (c))), some (.int (w ||| ((nI 1) <<< ((nI (jn J 41 ((3 * e) + k))) &&& 31)))), some (.int (nI (r))), some (.int (nI (e))), some (.int (nI (k))), none, none, none, none]) k36_72 (Nat.le_of_ble_eq_true rfl) rfl ?_
          refine r_iinc (v := (nI (k + 1))) (L' := [some (.ref 36), some (.int (nI (c))), some (.int (w ||| ((nI 1) <<< ((nI (jn J 41 ((3 * e) + k))) &&& 31)))), some (.int (nI (r))), some (.int (nI (e))), some (.int (nI (k + 1))), none, none, none, none]) k36_73 rfl (Nat.le_of_ble_eq_true rfl) (nI_1 _) rfl ?_
          refine r_goto k36_76 ?_
          have e9 : R_a3 c r e (m + 1) k J w = R_a3 c r e m (k + 1) J (w ||| ((nI 1) <<< ((nI (jn J 41 ((3 * e) + k))) &&& 31))) := by rw [R_a3]; rw [am_ite_t z38, am_ite_f z53]
          rw [e9] at HQ
          exact ih (k + 1) J hT (by omega) (w ||| ((nI 1) <<< ((nI (jn J 41 ((3 * e) + k))) &&& 31))) HQ
noncomputable def R_a2 (c : Nat) (r : Nat) : Nat → Nat → (Nat → Nat → Int32) → Int32 → Int32
  | 0, k, J, w => (w)
  | m + 1, k, J, w => (R_a2 c r m (k + 1) J ((R_a3 c r k 3 0 J w)))
set_option maxRecDepth 20000 in
theorem l_R_a2 {d : am_D} {h : am_H} {Q : Option Value → am_H → Prop} (hB : am_B h) (c : Nat) (r : Nat) : ∀ (m k : Nat) (J : Nat → Nat → Int32), am_ty2 J → k + m = 12 → ∀ (w : Int32), (am_wp d 36 85 [some (.ref 36), some (.int (nI (c))), some (.int ((R_a2 c r m k J w))), some (.int (nI (r))), none, none, none, none, none, none] [] (am_si h J) Q) → am_wp d 36 15 [some (.ref 36), some (.int (nI (c))), some (.int (w)), some (.int (nI (r))), some (.int (nI (k))), none, none, none, none, none] [] (am_si h J) Q := by
  intro m
  induction m with
  | zero =>
    intro k J hT hk w HQ
    refine r_iload k36_15 rfl ?_
    refine r_pushn (v := nI 12) k36_17 rfl ?_
    refine r_icmpgeN (by omega) (by omega) k36_19 (fun z19 => ?_) (fun z19 => ?_)
    · have e9 : R_a2 c r 0 k J w = (w) := by rw [R_a2]
      rw [e9] at HQ
      exact wp_L (L := [some (.ref 36), some (.int (nI (c))), some (.int (w)), some (.int (nI (r))), none, none, none, none, none, none]) (⟨Or.inr rfl, Or.inr rfl, Or.inr rfl, Or.inr rfl, Or.inl rfl, Or.inl rfl, Or.inl rfl, Or.inl rfl, Or.inl rfl, Or.inl rfl, True.intro⟩) (HQ)
    · exact absurd z19 (by omega)
  | succ m ih =>
    intro k J hT hk w HQ
    refine r_iload k36_15 rfl ?_
    refine r_pushn (v := nI 12) k36_17 rfl ?_
    refine r_icmpgeN (by omega) (by omega) k36_19 (fun z19 => ?_) (fun z19 => ?_)
    · exact absurd z19 (by omega)
    · refine r_pushn (v := nI 0) k36_22 rfl ?_
      refine r_istore (L' := [some (.ref 36), some (.int (nI (c))), some (.int (w)), some (.int (nI (r))), some (.int (nI (k))), some (.int (nI 0)), none, none, none, none]) k36_23 (Nat.le_of_ble_eq_true rfl) rfl ?_
      refine (l_R_a3 hB c r k (by omega) 3 0 J hT (by omega) w ?_)
      refine r_iinc (v := (nI (k + 1))) (L' := [some (.ref 36), some (.int (nI (c))), some (.int ((R_a3 c r k 3 0 J w))), some (.int (nI (r))), some (.int (nI (k + 1))), none, none, none, none, none]) k36_79 rfl (Nat.le_of_ble_eq_true rfl) (nI_1 _) rfl ?_
      refine r_goto k36_82 ?_
      have e9 : R_a2 c r (m + 1) k J w = R_a2 c r m (k + 1) J ((R_a3 c r k 3 0 J w)) := by rw [R_a2]
      rw [e9] at HQ
      exact ih (k + 1) J hT (by omega) ((R_a3 c r k 3 0 J w)) HQ
noncomputable def R_a1 (c : Nat) : Nat → Nat → (Nat → Nat → Int32) → Int32 → Int32
  | 0, k, J, w => (w)
  | m + 1, k, J, w => (R_a1 c m (k + 1) J ((R_a2 c k 12 0 J w)))
set_option maxRecDepth 20000 in
theorem l_R_a1 {d : am_D} {h : am_H} {Q : Option Value → am_H → Prop} (hB : am_B h) (c : Nat) : ∀ (m k : Nat) (J : Nat → Nat → Int32), am_ty2 J → k + m = 12 → ∀ (w : Int32), (am_wp d 36 91 [some (.ref 36), some (.int (nI (c))), some (.int ((R_a1 c m k J w))), none, none, none, none, none, none, none] [] (am_si h J) Q) → am_wp d 36 6 [some (.ref 36), some (.int (nI (c))), some (.int (w)), some (.int (nI (k))), none, none, none, none, none, none] [] (am_si h J) Q := by
  intro m
  induction m with
  | zero =>
    intro k J hT hk w HQ
    refine r_iload k36_6 rfl ?_
    refine r_pushn (v := nI 12) k36_7 rfl ?_
    refine r_icmpgeN (by omega) (by omega) k36_9 (fun z9 => ?_) (fun z9 => ?_)
    · have e9 : R_a1 c 0 k J w = (w) := by rw [R_a1]
      rw [e9] at HQ
      exact wp_L (L := [some (.ref 36), some (.int (nI (c))), some (.int (w)), none, none, none, none, none, none, none]) (⟨Or.inr rfl, Or.inr rfl, Or.inr rfl, Or.inl rfl, Or.inl rfl, Or.inl rfl, Or.inl rfl, Or.inl rfl, Or.inl rfl, Or.inl rfl, True.intro⟩) (HQ)
    · exact absurd z9 (by omega)
  | succ m ih =>
    intro k J hT hk w HQ
    refine r_iload k36_6 rfl ?_
    refine r_pushn (v := nI 12) k36_7 rfl ?_
    refine r_icmpgeN (by omega) (by omega) k36_9 (fun z9 => ?_) (fun z9 => ?_)
    · exact absurd z9 (by omega)
    · refine r_pushn (v := nI 0) k36_12 rfl ?_
      refine r_istore (L' := [some (.ref 36), some (.int (nI (c))), some (.int (w)), some (.int (nI (k))), some (.int (nI 0)), none, none, none, none, none]) k36_13 (Nat.le_of_ble_eq_true rfl) rfl ?_
      refine (l_R_a2 hB c k 12 0 J hT (by omega) w ?_)
      refine r_iinc (v := (nI (k + 1))) (L' := [some (.ref 36), some (.int (nI (c))), some (.int ((R_a2 c k 12 0 J w))), some (.int (nI (k + 1))), none, none, none, none, none, none]) k36_85 rfl (Nat.le_of_ble_eq_true rfl) (nI_1 _) rfl ?_
      refine r_goto k36_88 ?_
      have e9 : R_a1 c (m + 1) k J w = R_a1 c m (k + 1) J ((R_a2 c k 12 0 J w)) := by rw [R_a1]
      rw [e9] at HQ
      exact ih (k + 1) J hT (by omega) ((R_a2 c k 12 0 J w)) HQ
noncomputable def R_f2 (c : Nat) (set : Int32) (n : Nat) (left : Int32) (e : Nat) : Nat → Nat → (Nat → Nat → Int32) → Int32 → Nat → Int32 × Nat
  | 0, k, J, fr, la => (fr, la)
  | m + 1, k, J, fr, la => (am_ite (0 ≤ (J 41 ((3 * e) + k))) (am_ite (((left >>> ((nI la) &&& 31)) &&& (nI 1)) = (nI 1)) (R_f2 c set n left e m (k + 1) J (fr &&& (((nI 1) <<< ((nI (jn J 41 ((3 * e) + k))) &&& 31)) ^^^ ((-1)))) (jn J 41 ((3 * e) + k))) (R_f2 c set n left e m (k + 1) J fr (jn J 41 ((3 * e) + k)))) (R_f2 c set n left e m (k + 1) J fr la))
set_option maxRecDepth 20000 in
theorem l_R_f2 {d : am_D} {h : am_H} {Q : Option Value → am_H → Prop} (hB : am_B h) (c : Nat) (set : Int32) (n : Nat) (left : Int32) (e : Nat) (he : e < 12) : ∀ (m k : Nat) (J : Nat → Nat → Int32), am_ty2 J → k + m = 3 → ∀ (fr : Int32), ∀ (la : Nat), (am_wp d 36 194 [some (.ref 36), some (.int (nI (c))), some (.int (set)), some (.int (nI (n))), some (.int (left)), some (.int ((R_f2 c set n left e m k J fr la).1)), some (.int (nI (e))), some (.int (nI ((R_f2 c set n left e m k J fr la).2))), none, none] [] (am_si h J) Q) → am_wp d 36 134 [some (.ref 36), some (.int (nI (c))), some (.int (set)), some (.int (nI (n))), some (.int (left)), some (.int (fr)), some (.int (nI (e))), some (.int (nI (la))), some (.int (nI (k))), none] [] (am_si h J) Q := by
  intro m
  induction m with
  | zero =>
    intro k J hT hk fr la HQ
    refine r_iload k36_134 rfl ?_
    refine r_pushn (v := nI 3) k36_136 rfl ?_
    refine r_icmpgeN (by omega) (by omega) k36_137 (fun z137 => ?_) (fun z137 => ?_)
    · have e9 : R_f2 c set n left e 0 k J fr la = (fr, la) := by rw [R_f2]
      rw [e9] at HQ
      exact wp_L (L := [some (.ref 36), some (.int (nI (c))), some (.int (set)), some (.int (nI (n))), some (.int (left)), some (.int (fr)), some (.int (nI (e))), some (.int (nI (la))), none, none]) (⟨Or.inr rfl, Or.inr rfl, Or.inr rfl, Or.inr rfl, Or.inr rfl, Or.inr rfl, Or.inr rfl, Or.inr rfl, Or.inl rfl, Or.inl rfl, True.intro⟩) (HQ)
    · exact absurd z137 (by omega)
  | succ m ih =>
    intro k J hT hk fr la HQ
    refine r_iload k36_134 rfl ?_
    refine r_pushn (v := nI 3) k36_136 rfl ?_
    refine r_icmpgeN (by omega) (by omega) k36_137 (fun z137 => ?_) (fun z137 => ?_)
    · exact absurd z137 (by omega)
    · refine r_aload k36_140 rfl ?_
      refine j_ref (b := 41) k36_141 hB rfl ?_
      refine r_pushn (v := nI 3) k36_144 rfl ?_
      refine r_iload k36_145 rfl ?_
      refine r_imulN k36_147 ?_
      refine r_iload k36_148 rfl ?_
      refine r_iaddN k36_150 ?_
      refine j_ald (n := 36) (j := ((3 * e) + k)) (v := (J 41 ((3 * e) + k))) k36_151 hB rfl rfl (by omega) rfl ?_
      refine r_istore (L' := [some (.ref 36), some (.int (nI (c))), some (.int (set)), some (.int (nI (n))), some (.int (left)), some (.int (fr)), some (.int (nI (e))), some (.int (nI (la))), some (.int (nI (k))), some (.int (J 41 ((3 * e) + k)))]) k36_152 (Nat.le_of_ble_eq_true rfl) rfl ?_
      refine r_iload k36_154 rfl ?_
      refine r_ifge k36_156 (fun z156 => ?_) (fun z156 => ?_)
      · have c156 := ty_mg hT (q := 41) (B := 12) (by decide) (by decide) ((3 * e) + k) z156
        rw [show ([some (.ref 36), some (.int (nI (c))), some (.int (set)), some (.int (nI (n))), some (.int (left)), some (.int (fr)), some (.int (nI (e))), some (.int (nI (la))), some (.int (nI (k))), some (.int (J 41 ((3 * e) + k)))] : am_L) = [some (.ref 36), some (.int (nI (c))), some (.int (set)), some (.int (nI (n))), some (.int (left)), some (.int (fr)), some (.int (nI (e))), some (.int (nI (la))), some (.int (nI (k))), some (.int (nI (jn J 41 ((3 * e) + k))))] by rw [← c156.1]]
        refine r_iload k36_162 rfl ?_
        refine r_iload k36_164 rfl ?_
        refine r_ishr k36_166 ?_
        refine r_pushn (v := nI 1) k36_167 rfl ?_
        refine r_iand k36_168 ?_
        refine r_pushn (v := nI 1) k36_169 rfl ?_
        refine r_icmpne k36_170 (fun z170 => ?_) (fun z170 => ?_)
        · refine r_iload k36_184 rfl ?_
          refine r_istore (L' := [some (.ref 36), some (.int (nI (c))), some (.int (set)), some (.int (nI (n))), some (.int (left)), some (.int (fr)), some (.int (nI (e))), some (.int (nI (jn J 41 ((3 * e) + k)))), some (.int (nI (k))), some (.int (nI (jn J 41 ((3 * e) + k))))]) k36_186 (Nat.le_of_ble_eq_true rfl) rfl ?_
          refine r_iinc (v := (nI (k + 1))) (L' := [some (.ref 36), some (.int (nI (c))), some (.int (set)), some (.int (nI (n))), some (.int (left)), some (.int (fr)), some (.int (nI (e))), some (.int (nI (jn J 41 ((3 * e) + k)))), some (.int (nI (k + 1))), some (.int (nI (jn J 41 ((3 * e) + k))))]) k36_188 rfl (Nat.le_of_ble_eq_true rfl) (nI_1 _) rfl ?_
          refine r_goto k36_191 ?_
          have e9 : R_f2 c set n left e (m + 1) k J fr la = R_f2 c set n left e m (k + 1) J fr (jn J 41 ((3 * e) + k)) := by rw [R_f2]; rw [am_ite_t z156, am_ite_f z170]
          rw [e9] at HQ
          exact wp_L (L := [some (.ref 36), some (.int (nI (c))), some (.int (set)), some (.int (nI (n))), some (.int (left)), some (.int (fr)), some (.int (nI (e))), some (.int (nI (jn J 41 ((3 * e) + k)))), some (.int (nI (k + 1))), none]) (⟨Or.inr rfl, Or.inr rfl, Or.inr rfl, Or.inr rfl, Or.inr rfl, Or.inr rfl, Or.inr rfl, Or.inr rfl, Or.inr rfl, Or.inl rfl, True.intro⟩) (ih (k + 1) J hT (by omega) fr (jn J 41 ((3 * e) + k)) HQ)
        · refine r_iload k36_173 rfl ?_
          refine r_pushn (v := nI 1) k36_175 rfl ?_
          refine r_iload k36_176 rfl ?_
          refine r_ishl k36_178 ?_
          refine r_pushn (v := (-1)) k36_179 rfl ?_
          refine r_ixor k36_180 ?_
          refine r_iand k36_181 ?_
          refine r_istore (L' := [some (.ref 36), some (.int (nI (c))), some (.int (set)), some (.int (nI (n))), some (.int (left)), some (.int (fr &&& (((nI 1) <<< ((nI (jn J 41 ((3 * e) + k))) &&& 31)) ^^^ ((-1))))), some (.int (nI (e))), some (.int (nI (la))), some (.int (nI (k))), some (.int (nI (jn J 41 ((3 * e) + k))))]) k36_182 (Nat.le_of_ble_eq_true rfl) rfl ?_
          refine r_iload k36_184 rfl ?_
          refine r_istore (L' := [some (.ref 36), some (.int (nI (c))), some (.int (set)), some (.int (nI (n))), some (.int (left)), some (.int (fr &&& (((nI 1) <<< ((nI (jn J 41 ((3 * e) + k))) &&& 31)) ^^^ ((-1))))), some (.int (nI (e))), some (.int (nI (jn J 41 ((3 * e) + k)))), some (.int (nI (k))), some (.int (nI (jn J 41 ((3 * e) + k))))]) k36_186 (Nat.le_of_ble_eq_true rfl) rfl ?_
          refine r_iinc (v := (nI (k + 1))) (L' := [some (.ref 36), some (.int (nI (c))), some (.int (set)), some (.int (nI (n))), some (.int (left)), some (.int (fr &&& (((nI 1) <<< ((nI (jn J 41 ((3 * e) + k))) &&& 31)) ^^^ ((-1))))), some (.int (nI (e))), some (.int (nI (jn J 41 ((3 * e) + k)))), some (.int (nI (k + 1))), some (.int (nI (jn J 41 ((3 * e) + k))))]) k36_188 rfl (Nat.le_of_ble_eq_true rfl) (nI_1 _) rfl ?_
          refine r_goto k36_191 ?_
          have e9 : R_f2 c set n left e (m + 1) k J fr la = R_f2 c set n left e m (k + 1) J (fr &&& (((nI 1) <<< ((nI (jn J 41 ((3 * e) + k))) &&& 31)) ^^^ ((-1)))) (jn J 41 ((3 * e) + k)) := by rw [R_f2]; rw [am_ite_t z156, am_ite_t z170]
          rw [e9] at HQ
          exact wp_L (L := [some (.ref 36), some (.int (nI (c))), some (.int (set)), some (.int (nI (n))), some (.int (left)), some (.int (fr &&& (((nI 1) <<< ((nI (jn J 41 ((3 * e) + k))) &&& 31)) ^^^ ((-1))))), some (.int (nI (e))), some (.int (nI (jn J 41 ((3 * e) + k)))), some (.int (nI (k + 1))), none]) (⟨Or.inr rfl, Or.inr rfl, Or.inr rfl, Or.inr rfl, Or.inr rfl, Or.inr rfl, Or.inr rfl, Or.inr rfl, Or.inr rfl, Or.inl rfl, True.intro⟩) (ih (k + 1) J hT (by omega) (fr &&& (((nI 1) <<< ((nI (jn J 41 ((3 * e) + k))) &&& 31)) ^^^ ((-1)))) (jn J 41 ((3 * e) + k)) HQ)
      · refine r_goto k36_159 ?_
        refine r_iinc (v := (nI (k + 1))) (L' := [some (.ref 36), some (.int (nI (c))), some (.int (set)), some (.int (nI (n))), some (.int (left)), some (.int (fr)), some (.int (nI (e))), some (.int (nI (la))), some (.int (nI (k + 1))), some (.int (J 41 ((3 * e) + k)))]) k36_188 rfl (Nat.le_of_ble_eq_true rfl) (nI_1 _) rfl ?_
        refine r_goto k36_191 ?_
        have e9 : R_f2 c set n left e (m + 1) k J fr la = R_f2 c set n left e m (k + 1) J fr la := by rw [R_f2]; rw [am_ite_f z156]
        rw [e9] at HQ
        exact wp_L (L := [some (.ref 36), some (.int (nI (c))), some (.int (set)), some (.int (nI (n))), some (.int (left)), some (.int (fr)), some (.int (nI (e))), some (.int (nI (la))), some (.int (nI (k + 1))), none]) (⟨Or.inr rfl, Or.inr rfl, Or.inr rfl, Or.inr rfl, Or.inr rfl, Or.inr rfl, Or.inr rfl, Or.inr rfl, Or.inr rfl, Or.inl rfl, True.intro⟩) (ih (k + 1) J hT (by omega) fr la HQ)
noncomputable def R_f1 (c : Nat) (set : Int32) (n : Nat) (left : Int32) : Nat → Nat → (Nat → Nat → Int32) → Int32 → Int32
  | 0, k, J, fr => (fr)
  | m + 1, k, J, fr => (am_ite (((set >>> ((nI k) &&& 31)) &&& (nI 1)) = 0) (R_f1 c set n left m (k + 1) J fr) (R_f1 c set n left m (k + 1) J ((R_f2 c set n left k 3 0 J fr k).1)))
set_option maxRecDepth 20000 in
theorem l_R_f1 {d : am_D} {h : am_H} {Q : Option Value → am_H → Prop} (hB : am_B h) (c : Nat) (set : Int32) (n : Nat) (left : Int32) : ∀ (m k : Nat) (J : Nat → Nat → Int32), am_ty2 J → k + m = 12 → ∀ (fr : Int32), (am_wp d 36 200 [some (.ref 36), some (.int (nI (c))), some (.int (set)), some (.int (nI (n))), some (.int (left)), some (.int ((R_f1 c set n left m k J fr))), none, none, none, none] [] (am_si h J) Q) → am_wp d 36 108 [some (.ref 36), some (.int (nI (c))), some (.int (set)), some (.int (nI (n))), some (.int (left)), some (.int (fr)), some (.int (nI (k))), none, none, none] [] (am_si h J) Q := by
  intro m
  induction m with
  | zero =>
    intro k J hT hk fr HQ
    refine r_iload k36_108 rfl ?_
    refine r_pushn (v := nI 12) k36_110 rfl ?_
    refine r_icmpgeN (by omega) (by omega) k36_112 (fun z112 => ?_) (fun z112 => ?_)
    · have e9 : R_f1 c set n left 0 k J fr = (fr) := by rw [R_f1]
      rw [e9] at HQ
      exact wp_L (L := [some (.ref 36), some (.int (nI (c))), some (.int (set)), some (.int (nI (n))), some (.int (left)), some (.int (fr)), none, none, none, none]) (⟨Or.inr rfl, Or.inr rfl, Or.inr rfl, Or.inr rfl, Or.inr rfl, Or.inr rfl, Or.inl rfl, Or.inl rfl, Or.inl rfl, Or.inl rfl, True.intro⟩) (HQ)
    · exact absurd z112 (by omega)
  | succ m ih =>
    intro k J hT hk fr HQ
    refine r_iload k36_108 rfl ?_
    refine r_pushn (v := nI 12) k36_110 rfl ?_
    refine r_icmpgeN (by omega) (by omega) k36_112 (fun z112 => ?_) (fun z112 => ?_)
    · exact absurd z112 (by omega)
    · refine r_iload k36_115 rfl ?_
      refine r_iload k36_116 rfl ?_
      refine r_ishr k36_118 ?_
      refine r_pushn (v := nI 1) k36_119 rfl ?_
      refine r_iand k36_120 ?_
      refine r_ifne k36_121 (fun z121 => ?_) (fun z121 => ?_)
      · refine r_iload k36_127 rfl ?_
        refine r_istore (L' := [some (.ref 36), some (.int (nI (c))), some (.int (set)), some (.int (nI (n))), some (.int (left)), some (.int (fr)), some (.int (nI (k))), some (.int (nI (k))), none, none]) k36_129 (Nat.le_of_ble_eq_true rfl) rfl ?_
        refine r_pushn (v := nI 0) k36_131 rfl ?_
        refine r_istore (L' := [some (.ref 36), some (.int (nI (c))), some (.int (set)), some (.int (nI (n))), some (.int (left)), some (.int (fr)), some (.int (nI (k))), some (.int (nI (k))), some (.int (nI 0)), none]) k36_132 (Nat.le_of_ble_eq_true rfl) rfl ?_
        refine (l_R_f2 hB c set n left k (by omega) 3 0 J hT (by omega) fr k ?_)
        refine r_iinc (v := (nI (k + 1))) (L' := [some (.ref 36), some (.int (nI (c))), some (.int (set)), some (.int (nI (n))), some (.int (left)), some (.int ((R_f2 c set n left k 3 0 J fr k).1)), some (.int (nI (k + 1))), some (.int (nI ((R_f2 c set n left k 3 0 J fr k).2))), none, none]) k36_194 rfl (Nat.le_of_ble_eq_true rfl) (nI_1 _) rfl ?_
        refine r_goto k36_197 ?_
        have e9 : R_f1 c set n left (m + 1) k J fr = R_f1 c set n left m (k + 1) J ((R_f2 c set n left k 3 0 J fr k).1) := by rw [R_f1]; rw [am_ite_f z121]
        rw [e9] at HQ
        exact wp_L (L := [some (.ref 36), some (.int (nI (c))), some (.int (set)), some (.int (nI (n))), some (.int (left)), some (.int ((R_f2 c set n left k 3 0 J fr k).1)), some (.int (nI (k + 1))), none, none, none]) (⟨Or.inr rfl, Or.inr rfl, Or.inr rfl, Or.inr rfl, Or.inr rfl, Or.inr rfl, Or.inr rfl, Or.inl rfl, Or.inl rfl, Or.inl rfl, True.intro⟩) (ih (k + 1) J hT (by omega) ((R_f2 c set n left k 3 0 J fr k).1) HQ)
      · refine r_goto k36_124 ?_
        refine r_iinc (v := (nI (k + 1))) (L' := [some (.ref 36), some (.int (nI (c))), some (.int (set)), some (.int (nI (n))), some (.int (left)), some (.int (fr)), some (.int (nI (k + 1))), none, none, none]) k36_194 rfl (Nat.le_of_ble_eq_true rfl) (nI_1 _) rfl ?_
        refine r_goto k36_197 ?_
        have e9 : R_f1 c set n left (m + 1) k J fr = R_f1 c set n left m (k + 1) J fr := by rw [R_f1]; rw [am_ite_t z121]
        rw [e9] at HQ
        exact ih (k + 1) J hT (by omega) fr HQ
noncomputable def R_x2 (c : Nat) (set : Int32) (n : Nat) (left : Int32) (fr : Int32) (p : Nat) : Nat → Nat → (Nat → Nat → Int32) → Int32 → Int32
  | 0, k, J, nx => (nx)
  | m + 1, k, J, nx => (am_ite ((J 41 ((3 * (jn J 42 p)) + k)) < 0) (R_x2 c set n left fr p m (k + 1) J nx) (am_ite (((fr >>> ((nI (jn J 41 ((3 * (jn J 42 p)) + k))) &&& 31)) &&& (nI 1)) = (nI 1)) (R_x2 c set n left fr p m (k + 1) J (nI (jn J 41 ((3 * (jn J 42 p)) + k)))) (R_x2 c set n left fr p m (k + 1) J nx)))
set_option maxRecDepth 20000 in
theorem l_R_x2 {d : am_D} {h : am_H} {Q : Option Value → am_H → Prop} (hB : am_B h) (c : Nat) (set : Int32) (n : Nat) (left : Int32) (fr : Int32) (p : Nat) (hp : p < 12) : ∀ (m k : Nat) (J : Nat → Nat → Int32), am_ty2 J → k + m = 3 → ∀ (nx : Int32), (am_wp d 36 287 [some (.ref 36), some (.int (nI (c))), some (.int (set)), some (.int (nI (n))), some (.int (left)), some (.int (fr)), some (.int ((R_x2 c set n left fr p m k J nx))), some (.int (nI (p))), none, none] [] (am_si h J) Q) → am_wp d 36 236 [some (.ref 36), some (.int (nI (c))), some (.int (set)), some (.int (nI (n))), some (.int (left)), some (.int (fr)), some (.int (nx)), some (.int (nI (p))), some (.int (nI (k))), none] [] (am_si h J) Q := by
  intro m
  induction m with
  | zero =>
    intro k J hT hk nx HQ
    refine r_iload k36_236 rfl ?_
    refine r_pushn (v := nI 3) k36_238 rfl ?_
    refine r_icmpgeN (by omega) (by omega) k36_239 (fun z239 => ?_) (fun z239 => ?_)
    · have e9 : R_x2 c set n left fr p 0 k J nx = (nx) := by rw [R_x2]
      rw [e9] at HQ
      exact wp_L (L := [some (.ref 36), some (.int (nI (c))), some (.int (set)), some (.int (nI (n))), some (.int (left)), some (.int (fr)), some (.int (nx)), some (.int (nI (p))), none, none]) (⟨Or.inr rfl, Or.inr rfl, Or.inr rfl, Or.inr rfl, Or.inr rfl, Or.inr rfl, Or.inr rfl, Or.inr rfl, Or.inl rfl, Or.inl rfl, True.intro⟩) (HQ)
    · exact absurd z239 (by omega)
  | succ m ih =>
    intro k J hT hk nx HQ
    refine r_iload k36_236 rfl ?_
    refine r_pushn (v := nI 3) k36_238 rfl ?_
    refine r_icmpgeN (by omega) (by omega) k36_239 (fun z239 => ?_) (fun z239 => ?_)
    · exact absurd z239 (by omega)
    · refine r_aload k36_242 rfl ?_
      refine j_ref (b := 41) k36_243 hB rfl ?_
      refine r_pushn (v := nI 3) k36_246 rfl ?_
      refine r_aload k36_247 rfl ?_
      refine j_ref (b := 42) k36_248 hB rfl ?_
      refine r_iload k36_251 rfl ?_
      have b253 := ty_n hT (q := 42) (B := 12) (by decide) (by decide) p
      refine j_ald (n := 12) (j := p) (v := (nI (jn J 42 p))) k36_253 hB rfl rfl (by omega) b253.1 ?_
      refine r_imulN k36_254 ?_
      refine r_iload k36_255 rfl ?_
      refine r_iaddN k36_257 ?_
      refine j_ald (n := 36) (j := ((3 * (jn J 42 p)) + k)) (v := (J 41 ((3 * (jn J 42 p)) + k))) k36_258 hB rfl rfl (by omega) rfl ?_
      refine r_istore (L' := [some (.ref 36), some (.int (nI (c))), some (.int (set)), some (.int (nI (n))), some (.int (left)), some (.int (fr)), some (.int (nx)), some (.int (nI (p))), some (.int (nI (k))), some (.int (J 41 ((3 * (jn J 42 p)) + k)))]) k36_259 (Nat.le_of_ble_eq_true rfl) rfl ?_
      refine r_iload k36_261 rfl ?_
      refine r_iflt k36_263 (fun z263 => ?_) (fun z263 => ?_)
      · refine r_iinc (v := (nI (k + 1))) (L' := [some (.ref 36), some (.int (nI (c))), some (.int (set)), some (.int (nI (n))), some (.int (left)), some (.int (fr)), some (.int (nx)), some (.int (nI (p))), some (.int (nI (k + 1))), some (.int (J 41 ((3 * (jn J 42 p)) + k)))]) k36_281 rfl (Nat.le_of_ble_eq_true rfl) (nI_1 _) rfl ?_
        refine r_goto k36_284 ?_
        have e9 : R_x2 c set n left fr p (m + 1) k J nx = R_x2 c set n left fr p m (k + 1) J nx := by rw [R_x2]; rw [am_ite_t z263]
        rw [e9] at HQ
        exact wp_L (L := [some (.ref 36), some (.int (nI (c))), some (.int (set)), some (.int (nI (n))), some (.int (left)), some (.int (fr)), some (.int (nx)), some (.int (nI (p))), some (.int (nI (k + 1))), none]) (⟨Or.inr rfl, Or.inr rfl, Or.inr rfl, Or.inr rfl, Or.inr rfl, Or.inr rfl, Or.inr rfl, Or.inr rfl, Or.inr rfl, Or.inl rfl, True.intro⟩) (ih (k + 1) J hT (by omega) nx HQ)
      · have c263 := ty_ml hT (q := 41) (B := 12) (by decide) (by decide) ((3 * (jn J 42 p)) + k) z263
        rw [show ([some (.ref 36), some (.int (nI (c))), some (.int (set)), some (.int (nI (n))), some (.int (left)), some (.int (fr)), some (.int (nx)), some (.int (nI (p))), some (.int (nI (k))), some (.int (J 41 ((3 * (jn J 42 p)) + k)))] : am_L) = [some (.ref 36), some (.int (nI (c))), some (.int (set)), some (.int (nI (n))), some (.int (left)), some (.int (fr)), some (.int (nx)), some (.int (nI (p))), some (.int (nI (k))), some (.int (nI (jn J 41 ((3 * (jn J 42 p)) + k))))] by rw [← c263.1]]
        refine r_iload k36_266 rfl ?_
        refine r_iload k36_268 rfl ?_
        refine r_ishr k36_270 ?_
        refine r_pushn (v := nI 1) k36_271 rfl ?_
        refine r_iand k36_272 ?_
        refine r_pushn (v := nI 1) k36_273 rfl ?_
        refine r_icmpne k36_274 (fun z274 => ?_) (fun z274 => ?_)
        · refine r_iinc (v := (nI (k + 1))) (L' := [some (.ref 36), some (.int (nI (c))), some (.int (set)), some (.int (nI (n))), some (.int (left)), some (.int (fr)), some (.int (nx)), some (.int (nI (p))), some (.int (nI (k + 1))), some (.int (nI (jn J 41 ((3 * (jn J 42 p)) + k))))]) k36_281 rfl (Nat.le_of_ble_eq_true rfl) (nI_1 _) rfl ?_
          refine r_goto k36_284 ?_
          have e9 : R_x2 c set n left fr p (m + 1) k J nx = R_x2 c set n left fr p m (k + 1) J nx := by rw [R_x2]; rw [am_ite_f z263, am_ite_f z274]
          rw [e9] at HQ
          exact wp_L (L := [some (.ref 36), some (.int (nI (c))), some (.int (set)), some (.int (nI (n))), some (.int (left)), some (.int (fr)), some (.int (nx)), some (.int (nI (p))), some (.int (nI (k + 1))), none]) (⟨Or.inr rfl, Or.inr rfl, Or.inr rfl, Or.inr rfl, Or.inr rfl, Or.inr rfl, Or.inr rfl, Or.inr rfl, Or.inr rfl, Or.inl rfl, True.intro⟩) (ih (k + 1) J hT (by omega) nx HQ)
        · refine r_iload k36_277 rfl ?_
          refine r_istore (L' := [some (.ref 36), some (.int (nI (c))), some (.int (set)), some (.int (nI (n))), some (.int (left)), some (.int (fr)), some (.int (nI (jn J 41 ((3 * (jn J 42 p)) + k)))), some (.int (nI (p))), some (.int (nI (k))), some (.int (nI (jn J 41 ((3 * (jn J 42 p)) + k))))]) k36_279 (Nat.le_of_ble_eq_true rfl) rfl ?_
          refine r_iinc (v := (nI (k + 1))) (L' := [some (.ref 36), some (.int (nI (c))), some (.int (set)), some (.int (nI (n))), some (.int (left)), some (.int (fr)), some (.int (nI (jn J 41 ((3 * (jn J 42 p)) + k)))), some (.int (nI (p))), some (.int (nI (k + 1))), some (.int (nI (jn J 41 ((3 * (jn J 42 p)) + k))))]) k36_281 rfl (Nat.le_of_ble_eq_true rfl) (nI_1 _) rfl ?_
          refine r_goto k36_284 ?_
          have e9 : R_x2 c set n left fr p (m + 1) k J nx = R_x2 c set n left fr p m (k + 1) J (nI (jn J 41 ((3 * (jn J 42 p)) + k))) := by rw [R_x2]; rw [am_ite_f z263, am_ite_t z274]
          rw [e9] at HQ
          exact wp_L (L := [some (.ref 36), some (.int (nI (c))), some (.int (set)), some (.int (nI (n))), some (.int (left)), some (.int (fr)), some (.int (nI (jn J 41 ((3 * (jn J 42 p)) + k)))), some (.int (nI (p))), some (.int (nI (k + 1))), none]) (⟨Or.inr rfl, Or.inr rfl, Or.inr rfl, Or.inr rfl, Or.inr rfl, Or.inr rfl, Or.inr rfl, Or.inr rfl, Or.inr rfl, Or.inl rfl, True.intro⟩) (ih (k + 1) J hT (by omega) (nI (jn J 41 ((3 * (jn J 42 p)) + k))) HQ)
noncomputable def R_x1 (c : Nat) (set : Int32) (n : Nat) (left : Int32) (fr : Int32) : Nat → (Nat → Nat → Int32) → Int32 → Int32
  | 0, J, nx => (nx)
  | m + 1, J, nx => (am_ite (0 ≤ nx) (nx) (R_x1 c set n left fr m J ((R_x2 c set n left fr m 3 0 J nx))))
set_option maxRecDepth 20000 in
theorem l_R_x1 {d : am_D} {h : am_H} {Q : Option Value → am_H → Prop} (hB : am_B h) (c : Nat) (set : Int32) (n : Nat) (left : Int32) (fr : Int32) : ∀ (m : Nat) (J : Nat → Nat → Int32), am_ty2 J → ∀ (nx : Int32), m ≤ 12 → (am_wp d 36 293 [some (.ref 36), some (.int (nI (c))), some (.int (set)), some (.int (nI (n))), some (.int (left)), some (.int (fr)), some (.int ((R_x1 c set n left fr m J nx))), none, none, none] [] (am_si h J) Q) → am_wp d 36 223 [some (.ref 36), some (.int (nI (c))), some (.int (set)), some (.int (nI (n))), some (.int (left)), some (.int (fr)), some (.int (nx)), some (.int (am_pd m)), none, none] [] (am_si h J) Q := by
  intro m
  induction m with
  | zero =>
    intro J hT nx hc0 HQ
    rw [show ([some (.ref 36), some (.int (nI (c))), some (.int (set)), some (.int (nI (n))), some (.int (left)), some (.int (fr)), some (.int (nx)), some (.int (am_pd 0)), none, none] : am_L) = [some (.ref 36), some (.int (nI (c))), some (.int (set)), some (.int (nI (n))), some (.int (left)), some (.int (fr)), some (.int (nx)), some (.int ((-1))), none, none] from rfl]
    refine r_iload k36_223 rfl ?_
    refine r_iflt k36_225 (fun _ => ?_) (fun z => absurd (show ((-1) : Int32) < 0 by decide) z)
    have e9 : R_x1 c set n left fr 0 J nx = (nx) := by rw [R_x1]
    rw [e9] at HQ
    exact wp_L (L := [some (.ref 36), some (.int (nI (c))), some (.int (set)), some (.int (nI (n))), some (.int (left)), some (.int (fr)), some (.int (nx)), none, none, none]) (⟨Or.inr rfl, Or.inr rfl, Or.inr rfl, Or.inr rfl, Or.inr rfl, Or.inr rfl, Or.inr rfl, Or.inl rfl, Or.inl rfl, Or.inl rfl, True.intro⟩) (HQ)
  | succ m ih =>
    intro J hT nx hc0 HQ
    rw [show ([some (.ref 36), some (.int (nI (c))), some (.int (set)), some (.int (nI (n))), some (.int (left)), some (.int (fr)), some (.int (nx)), some (.int (am_pd (m + 1))), none, none] : am_L) = [some (.ref 36), some (.int (nI (c))), some (.int (set)), some (.int (nI (n))), some (.int (left)), some (.int (fr)), some (.int (nx)), some (.int (nI (m))), none, none] from rfl]
    refine r_iload k36_223 rfl ?_
    refine r_ifltN (by omega) k36_225 ?_
    refine r_iload k36_228 rfl ?_
    refine r_ifge k36_230 (fun z230 => ?_) (fun z230 => ?_)
    · have e9 : R_x1 c set n left fr (m + 1) J nx = (nx) := by rw [R_x1]; rw [am_ite_t z230]
      rw [e9] at HQ
      exact wp_L (L := [some (.ref 36), some (.int (nI (c))), some (.int (set)), some (.int (nI (n))), some (.int (left)), some (.int (fr)), some (.int (nx)), none, none, none]) (⟨Or.inr rfl, Or.inr rfl, Or.inr rfl, Or.inr rfl, Or.inr rfl, Or.inr rfl, Or.inr rfl, Or.inl rfl, Or.inl rfl, Or.inl rfl, True.intro⟩) (HQ)
    · refine r_pushn (v := nI 0) k36_233 rfl ?_
      refine r_istore (L' := [some (.ref 36), some (.int (nI (c))), some (.int (set)), some (.int (nI (n))), some (.int (left)), some (.int (fr)), some (.int (nx)), some (.int (nI (m))), some (.int (nI 0)), none]) k36_234 (Nat.le_of_ble_eq_true rfl) rfl ?_
      refine (l_R_x2 hB c set n left fr m (by omega) 3 0 J hT (by omega) nx ?_)
      refine r_iinc (v := (am_pd m)) (L' := [some (.ref 36), some (.int (nI (c))), some (.int (set)), some (.int (nI (n))), some (.int (left)), some (.int (fr)), some (.int ((R_x2 c set n left fr m 3 0 J nx))), some (.int (am_pd m)), none, none]) k36_287 rfl (Nat.le_of_ble_eq_true rfl) (am_pd_dec _) rfl ?_
      refine r_goto k36_290 ?_
      have e9 : R_x1 c set n left fr (m + 1) J nx = R_x1 c set n left fr m J ((R_x2 c set n left fr m 3 0 J nx)) := by rw [R_x1]; rw [am_ite_f z230]
      rw [e9] at HQ
      exact ih J hT ((R_x2 c set n left fr m 3 0 J nx)) (by omega) HQ
