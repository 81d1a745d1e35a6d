/-! The class: the order of a class. -/
theorem am_pd_sub (n : Nat) : nI n - nI 1 = am_pd n := by
  cases n with
  | zero => decide
  | succ n => exact nI_pred n
noncomputable def C_da (c : Nat) : Nat → Nat → (Nat → Nat → Int32) → Int32 → Int32
  | 0, k, J, w => ((w))
  | m + 1, k, J, w => (am_ite ((J 3 k) = ((-1))) (C_da c m (k + 1) J w) (C_da c m (k + 1) J (w ||| ((nI 1) <<< ((nI (jn J 3 k)) &&& 31)))))
set_option maxRecDepth 20000 in
theorem l_C_da {d : am_D} {h : am_H} {Q : Option Value → am_H → Prop} (hB : am_B h) (c : Nat) (hc : c < 12) : ∀ (m k : Nat) (J : Nat → Nat → Int32), am_ty2 J → k + m = (c + 1) * 3 → ∀ (w : Int32), Q (some (.int (C_da c m k J w))) (am_si h J) → am_wp d 94 6 [some (.ref 2), some (.int (nI (c))), some (.int (w)), some (.int (nI (k)))] [] (am_si h J) Q := by
  intro m
  induction m with
  | zero =>
    intro k J hT hk w HQ
    refine r_iload k94_6 rfl ?_
    refine r_iload k94_7 rfl ?_
    refine r_pushn (v := nI 1) k94_8 rfl ?_
    refine r_iaddN k94_9 ?_
    refine r_pushn (v := nI 3) k94_10 rfl ?_
    refine r_imulN k94_11 ?_
    refine r_icmpgeN (by omega) (by omega) k94_12 (fun z12 => ?_) (fun z12 => ?_)
    · refine r_iload k94_42 rfl ?_
      have e9 : C_da c 0 k J w = ((w)) := by rw [C_da]
      rw [e9] at HQ
      exact r_iret k94_43 rfl HQ
    · exact absurd z12 (by omega)
  | succ m ih =>
    intro k J hT hk w HQ
    refine r_iload k94_6 rfl ?_
    refine r_iload k94_7 rfl ?_
    refine r_pushn (v := nI 1) k94_8 rfl ?_
    refine r_iaddN k94_9 ?_
    refine r_pushn (v := nI 3) k94_10 rfl ?_
    refine r_imulN k94_11 ?_
    refine r_icmpgeN (by omega) (by omega) k94_12 (fun z12 => ?_) (fun z12 => ?_)
    · exact absurd z12 (by omega)
    · refine r_aload k94_15 rfl ?_
      refine j_ref (b := 3) k94_16 hB rfl ?_
      refine r_iload k94_19 rfl ?_
      refine j_ald (n := 36) (j := k) (v := (J 3 k)) k94_20 hB rfl rfl (by omega) rfl ?_
      refine r_pushn (v := (-1)) k94_21 rfl ?_
      refine r_icmpeq k94_22 (fun z22 => ?_) (fun z22 => ?_)
      · refine r_iinc (v := (nI (k + 1))) (L' := [some (.ref 2), some (.int (nI (c))), some (.int (w)), some (.int (nI (k + 1)))]) k94_36 rfl (Nat.le_of_ble_eq_true rfl) (nI_1 _) rfl ?_
        refine r_goto k94_39 ?_
        have e9 : C_da c (m + 1) k J w = C_da c m (k + 1) J w := by rw [C_da]; rw [am_ite_t z22]
        rw [e9] at HQ
        exact ih (k + 1) J hT (by omega) w HQ
      · have c22 := ty_m hT (q := 3) (B := 12) (by decide) (by decide) k z22
        refine r_iload k94_25 rfl ?_
        refine r_pushn (v := nI 1) k94_26 rfl ?_
        refine r_aload k94_27 rfl ?_
        refine j_ref (b := 3) k94_28 hB rfl ?_
        refine r_iload k94_31 rfl ?_
        refine j_ald (n := 36) (j := k) (v := (nI (jn J 3 k))) k94_32 hB rfl rfl (by omega) c22.1 ?_
        refine r_ishl k94_33 ?_
        refine r_ior k94_34 ?_
        refine r_istore (L' := [some (.ref 2), some (.int (nI (c))), some (.int (w ||| ((nI 1) <<< ((nI (jn J 3 k)) &&& 31)))), some (.int (nI (k)))]) k94_35 (Nat.le_of_ble_eq_true rfl) rfl ?_
        refine r_iinc (v := (nI (k + 1))) (L' := [some (.ref 2), some (.int (nI (c))), some (.int (w ||| ((nI 1) <<< ((nI (jn J 3 k)) &&& 31)))), some (.int (nI (k + 1)))]) k94_36 rfl (Nat.le_of_ble_eq_true rfl) (nI_1 _) rfl ?_
        refine r_goto k94_39 ?_
        have e9 : C_da c (m + 1) k J w = C_da c m (k + 1) J (w ||| ((nI 1) <<< ((nI (jn J 3 k)) &&& 31))) := by rw [C_da]; rw [am_ite_f z22]
        rw [e9] at HQ
        exact ih (k + 1) J hT (by omega) (w ||| ((nI 1) <<< ((nI (jn J 3 k)) &&& 31))) HQ
noncomputable def C_above1 (J : Nat → Nat → Int32) (c : Nat) : Int32 := (C_da c 3 (c * 3) J (nI 0))
set_option maxRecDepth 20000 in
theorem s_C_above1 {d : am_D} {h : am_H} {J : Nat → Nat → Int32} (hB : am_B h) (hT : am_ty2 J) (c : Nat) (hc : c < 12) : am_wp d 94 0 [some (.ref 2), some (.int (nI (c))), none, none] [] (am_si h J) (fun r h' => r = some (.int (C_above1 J c)) ∧ h' = (am_si h J)) := by
  refine r_pushn (v := nI 0) k94_0 rfl ?_
  refine r_istore (L' := [some (.ref 2), some (.int (nI (c))), some (.int (nI 0)), none]) k94_1 (Nat.le_of_ble_eq_true rfl) rfl ?_
  refine r_iload k94_2 rfl ?_
  refine r_pushn (v := nI 3) k94_3 rfl ?_
  refine r_imulN k94_4 ?_
  refine r_istore (L' := [some (.ref 2), some (.int (nI (c))), some (.int (nI 0)), some (.int (nI (c * 3)))]) k94_5 (Nat.le_of_ble_eq_true rfl) rfl ?_
  have e9 : C_above1 J c = (C_da c 3 (c * 3) J (nI 0)) := rfl
  exact (l_C_da hB c (by omega) 3 (c * 3) J hT (by omega) (nI 0) ⟨by rw [e9], rfl⟩)
noncomputable def C_aa2 (c : Nat) (r : Nat) (bef : Int32) : Nat → Nat → (Nat → Nat → Int32) → Int32 → Int32
  | 0, k, J, w => (w)
  | m + 1, k, J, w => (am_ite (w_isin bef (nI k)) (C_aa2 c r bef m (k + 1) J (w ||| (C_above1 J k))) (C_aa2 c r bef m (k + 1) J w))
set_option maxRecDepth 20000 in
theorem l_C_aa2 {d : am_D} {h : am_H} {Q : Option Value → am_H → Prop} (hB : am_B h) (c : Nat) (r : Nat) (bef : Int32) (hd : 1 ≤ d.1) (hw : 23 ≤ d.2) : ∀ (m k : Nat) (J : Nat → Nat → Int32), am_ty2 J → k + m = 12 → ∀ (w : Int32), (am_wp d 93 50 [some (.ref 2), some (.int (nI (c))), some (.int ((C_aa2 c r bef m k J w))), some (.int (nI (r))), some (.int (bef)), none] [] (am_si h J) Q) → am_wp d 93 18 [some (.ref 2), some (.int (nI (c))), some (.int (w)), some (.int (nI (r))), some (.int (bef)), some (.int (nI (k)))] [] (am_si h J) Q := by
  intro m
  induction m with
  | zero =>
    intro k J hT hk w HQ
    refine r_iload k93_18 rfl ?_
    refine r_pushn (v := nI 12) k93_20 rfl ?_
    refine r_icmpgeN (by omega) (by omega) k93_22 (fun z22 => ?_) (fun z22 => ?_)
    · have e9 : C_aa2 c r bef 0 k J w = (w) := by rw [C_aa2]
      rw [e9] at HQ
      exact wp_L (L := [some (.ref 2), some (.int (nI (c))), some (.int (w)), some (.int (nI (r))), some (.int (bef)), none]) (⟨Or.inr rfl, Or.inr rfl, Or.inr rfl, Or.inr rfl, Or.inr rfl, Or.inl rfl, True.intro⟩) (HQ)
    · exact absurd z22 (by omega)
  | succ m ih =>
    intro k J hT hk w HQ
    refine r_iload k93_18 rfl ?_
    refine r_pushn (v := nI 12) k93_20 rfl ?_
    refine r_icmpgeN (by omega) (by omega) k93_22 (fun z22 => ?_) (fun z22 => ?_)
    · exact absurd z22 (by omega)
    · refine r_iload k93_25 rfl ?_
      refine r_iload k93_27 rfl ?_
      refine j_call (ml := 2) k93_29 rfl (show 0 < d.1 by omega) (show 19 + 2 ≤ d.2 by omega) ⟨Nat.le_of_ble_eq_true rfl, Nat.le_of_ble_eq_true rfl, True.intro, Nat.le_of_ble_eq_true rfl⟩ rfl (rest := []) rfl (s_w_isin bef (nI k)) (fun r h1 hq => ?_)
      obtain ⟨rfl, rfl⟩ := hq
      show am_wp _ _ _ [some (.ref 2), some (.int (nI (c))), some (.int (w)), some (.int (nI (r))), some (.int (bef)), some (.int (nI (k)))] [.int (am_b (w_isin bef (nI k)))] _ _
      refine r_ifeqB k93_32 (fun z32 => ?_) (fun z32 => ?_)
      · refine r_iinc (v := (nI (k + 1))) (L' := [some (.ref 2), some (.int (nI (c))), some (.int (w)), some (.int (nI (r))), some (.int (bef)), some (.int (nI (k + 1)))]) k93_44 rfl (Nat.le_of_ble_eq_true rfl) (nI_1 _) rfl ?_
        refine r_goto k93_47 ?_
        have e9 : C_aa2 c r bef (m + 1) k J w = C_aa2 c r bef m (k + 1) J w := by rw [C_aa2]; rw [am_ite_f z32]
        rw [e9] at HQ
        exact ih (k + 1) J hT (by omega) w HQ
      · refine r_iload k93_35 rfl ?_
        refine r_aload k93_36 rfl ?_
        refine r_iload k93_37 rfl ?_
        refine j_call (ml := 4) k93_39 rfl (show 0 < d.1 by omega) (show 19 + 4 ≤ d.2 by omega) ⟨Nat.le_of_ble_eq_true rfl, Nat.le_of_ble_eq_true rfl, am_obB hB rfl, Nat.le_of_ble_eq_true rfl⟩ rfl (rest := [.int (w)]) rfl (s_C_above1 hB hT k (by omega)) (fun r h1 hq => ?_)
        obtain ⟨rfl, rfl⟩ := hq
        show am_wp _ _ _ [some (.ref 2), some (.int (nI (c))), some (.int (w)), some (.int (nI (r))), some (.int (bef)), some (.int (nI (k)))] [.int (C_above1 J k), .int (w)] _ _
        refine r_ior k93_42 ?_
        refine r_istore (L' := [some (.ref 2), some (.int (nI (c))), some (.int (w ||| (C_above1 J k))), some (.int (nI (r))), some (.int (bef)), some (.int (nI (k)))]) k93_43 (Nat.le_of_ble_eq_true rfl) rfl ?_
        refine r_iinc (v := (nI (k + 1))) (L' := [some (.ref 2), some (.int (nI (c))), some (.int (w ||| (C_above1 J k))), some (.int (nI (r))), some (.int (bef)), some (.int (nI (k + 1)))]) k93_44 rfl (Nat.le_of_ble_eq_true rfl) (nI_1 _) rfl ?_
        refine r_goto k93_47 ?_
        have e9 : C_aa2 c r bef (m + 1) k J w = C_aa2 c r bef m (k + 1) J (w ||| (C_above1 J k)) := by rw [C_aa2]; rw [am_ite_t z32]
        rw [e9] at HQ
        exact ih (k + 1) J hT (by omega) (w ||| (C_above1 J k)) HQ
noncomputable def C_aa (c : Nat) : Nat → Nat → (Nat → Nat → Int32) → Int32 → Int32
  | 0, k, J, w => ((w))
  | m + 1, k, J, w => (am_ite (((C_aa2 c k w 12 0 J w)) = w) ((((C_aa2 c k w 12 0 J w)))) (C_aa c m (k + 1) J ((C_aa2 c k w 12 0 J w))))
set_option maxRecDepth 20000 in
theorem l_C_aa {d : am_D} {h : am_H} {Q : Option Value → am_H → Prop} (hB : am_B h) (c : Nat) (hd : 1 ≤ d.1) (hw : 23 ≤ d.2) : ∀ (m k : Nat) (J : Nat → Nat → Int32), am_ty2 J → k + m = 12 → ∀ (w : Int32), Q (some (.int (C_aa c m k J w))) (am_si h J) → am_wp d 93 6 [some (.ref 2), some (.int (nI (c))), some (.int (w)), some (.int (nI (k))), none, none] [] (am_si h J) Q := by
  intro m
  induction m with
  | zero =>
    intro k J hT hk w HQ
    refine r_iload k93_6 rfl ?_
    refine r_pushn (v := nI 12) k93_7 rfl ?_
    refine r_icmpgeN (by omega) (by omega) k93_9 (fun z9 => ?_) (fun z9 => ?_)
    · refine r_iload k93_65 rfl ?_
      have e9 : C_aa c 0 k J w = ((w)) := by rw [C_aa]
      rw [e9] at HQ
      exact r_iret k93_66 rfl HQ
    · exact absurd z9 (by omega)
  | succ m ih =>
    intro k J hT hk w HQ
    refine r_iload k93_6 rfl ?_
    refine r_pushn (v := nI 12) k93_7 rfl ?_
    refine r_icmpgeN (by omega) (by omega) k93_9 (fun z9 => ?_) (fun z9 => ?_)
    · exact absurd z9 (by omega)
    · refine r_iload k93_12 rfl ?_
      refine r_istore (L' := [some (.ref 2), some (.int (nI (c))), some (.int (w)), some (.int (nI (k))), some (.int (w)), none]) k93_13 (Nat.le_of_ble_eq_true rfl) rfl ?_
      refine r_pushn (v := nI 0) k93_15 rfl ?_
      refine r_istore (L' := [some (.ref 2), some (.int (nI (c))), some (.int (w)), some (.int (nI (k))), some (.int (w)), some (.int (nI 0))]) k93_16 (Nat.le_of_ble_eq_true rfl) rfl ?_
      refine (l_C_aa2 hB c k w hd hw 12 0 J hT (by omega) w ?_)
      refine r_iload k93_50 rfl ?_
      refine r_iload k93_51 rfl ?_
      refine r_icmpne k93_53 (fun z53 => ?_) (fun z53 => ?_)
      · refine r_iinc (v := (nI (k + 1))) (L' := [some (.ref 2), some (.int (nI (c))), some (.int ((C_aa2 c k w 12 0 J w))), some (.int (nI (k + 1))), some (.int (w)), none]) k93_59 rfl (Nat.le_of_ble_eq_true rfl) (nI_1 _) rfl ?_
        refine r_goto k93_62 ?_
        have e9 : C_aa c (m + 1) k J w = C_aa c m (k + 1) J ((C_aa2 c k w 12 0 J w)) := by rw [C_aa]; rw [am_ite_f z53]
        rw [e9] at HQ
        exact wp_L (L := [some (.ref 2), some (.int (nI (c))), some (.int ((C_aa2 c k w 12 0 J w))), some (.int (nI (k + 1))), none, none]) (⟨Or.inr rfl, Or.inr rfl, Or.inr rfl, Or.inr rfl, Or.inl rfl, Or.inl rfl, True.intro⟩) (ih (k + 1) J hT (by omega) ((C_aa2 c k w 12 0 J w)) HQ)
      · refine r_goto k93_56 ?_
        refine r_iload k93_65 rfl ?_
        have e9 : C_aa c (m + 1) k J w = ((((C_aa2 c k w 12 0 J w)))) := by rw [C_aa]; rw [am_ite_t z53]
        rw [e9] at HQ
        exact r_iret k93_66 rfl HQ
noncomputable def C_above (J : Nat → Nat → Int32) (c : Nat) : Int32 := (C_aa c 12 0 J ((nI 1) <<< ((nI c) &&& 31)))
set_option maxRecDepth 20000 in
theorem s_C_above {d : am_D} {h : am_H} {J : Nat → Nat → Int32} (hB : am_B h) (hT : am_ty2 J) (c : Nat) (hc : c < 12) (hd : 1 ≤ d.1) (hw : 23 ≤ d.2) : am_wp d 93 0 [some (.ref 2), some (.int (nI (c))), none, none, none, none] [] (am_si h J) (fun r h' => r = some (.int (C_above J c)) ∧ h' = (am_si h J)) := by
  refine r_pushn (v := nI 1) k93_0 rfl ?_
  refine r_iload k93_1 rfl ?_
  refine r_ishl k93_2 ?_
  refine r_istore (L' := [some (.ref 2), some (.int (nI (c))), some (.int ((nI 1) <<< ((nI c) &&& 31))), none, none, none]) k93_3 (Nat.le_of_ble_eq_true rfl) rfl ?_
  refine r_pushn (v := nI 0) k93_4 rfl ?_
  refine r_istore (L' := [some (.ref 2), some (.int (nI (c))), some (.int ((nI 1) <<< ((nI c) &&& 31))), some (.int (nI 0)), none, none]) k93_5 (Nat.le_of_ble_eq_true rfl) rfl ?_
  have e9 : C_above J c = (C_aa c 12 0 J ((nI 1) <<< ((nI c) &&& 31))) := rfl
  exact (l_C_aa hB c hd hw 12 0 J hT (by omega) ((nI 1) <<< ((nI c) &&& 31)) ⟨by rw [e9], rfl⟩)
noncomputable def C_ns (c : Nat) : Nat → Nat → (Nat → Nat → Int32) → Int32 → (Nat → Nat → Int32)
  | 0, k, J, w => (J)
  | m + 1, k, J, w => (am_ite ((J 3 k) = ((-1))) (C_ns c m (k + 1) J w) (C_ns c m (k + 1) (am_u2 J 9 (jn J 3 k) ((J 9 (jn J 3 k)) ||| w)) (w ||| ((nI 1) <<< ((nI (jn J 3 k)) &&& 31)))))
set_option maxRecDepth 20000 in
theorem l_C_ns {d : am_D} {h : am_H} {Q : Option Value → am_H → Prop} (hB : am_B h) (c : Nat) (hc : c < 12) : ∀ (m k : Nat) (J : Nat → Nat → Int32), am_ty2 J → k + m = (c + 1) * 3 → ∀ (w : Int32), (am_ty2 (C_ns c m k J w) → Q none (am_si h (C_ns c m k J w))) → am_wp d 96 8 [some (.ref 2), some (.int (nI (c))), some (.int (w)), some (.int (nI (k))), none] [] (am_si h J) Q := by
  intro m
  induction m with
  | zero =>
    intro k J hT hk w HQ
    refine r_iload k96_8 rfl ?_
    refine r_iload k96_9 rfl ?_
    refine r_pushn (v := nI 1) k96_10 rfl ?_
    refine r_iaddN k96_11 ?_
    refine r_pushn (v := nI 3) k96_12 rfl ?_
    refine r_imulN k96_13 ?_
    refine r_icmpgeN (by omega) (by omega) k96_14 (fun z14 => ?_) (fun z14 => ?_)
    · have e9 : C_ns c 0 k J w = (J) := by rw [C_ns]
      rw [e9] at HQ
      exact r_vret k96_55 rfl (HQ hT)
    · exact absurd z14 (by omega)
  | succ m ih =>
    intro k J hT hk w HQ
    refine r_iload k96_8 rfl ?_
    refine r_iload k96_9 rfl ?_
    refine r_pushn (v := nI 1) k96_10 rfl ?_
    refine r_iaddN k96_11 ?_
    refine r_pushn (v := nI 3) k96_12 rfl ?_
    refine r_imulN k96_13 ?_
    refine r_icmpgeN (by omega) (by omega) k96_14 (fun z14 => ?_) (fun z14 => ?_)
    · exact absurd z14 (by omega)
    · refine r_aload k96_17 rfl ?_
      refine j_ref (b := 3) k96_18 hB rfl ?_
      refine r_iload k96_21 rfl ?_
      refine j_ald (n := 36) (j := k) (v := (J 3 k)) k96_22 hB rfl rfl (by omega) rfl ?_
      refine r_istore (L' := [some (.ref 2), some (.int (nI (c))), some (.int (w)), some (.int (nI (k))), some (.int (J 3 k))]) k96_23 (Nat.le_of_ble_eq_true rfl) rfl ?_
      refine r_iload k96_25 rfl ?_
      refine r_pushn (v := (-1)) k96_27 rfl ?_
      refine r_icmpeq k96_28 (fun z28 => ?_) (fun z28 => ?_)
      · refine r_iinc (v := (nI (k + 1))) (L' := [some (.ref 2), some (.int (nI (c))), some (.int (w)), some (.int (nI (k + 1))), some (.int (J 3 k))]) k96_49 rfl (Nat.le_of_ble_eq_true rfl) (nI_1 _) rfl ?_
        refine r_goto k96_52 ?_
        have e9 : C_ns c (m + 1) k J w = C_ns c m (k + 1) J w := by rw [C_ns]; rw [am_ite_t z28]
        rw [e9] at HQ
        exact wp_L (L := [some (.ref 2), some (.int (nI (c))), some (.int (w)), some (.int (nI (k + 1))), none]) (⟨Or.inr rfl, Or.inr rfl, Or.inr rfl, Or.inr rfl, Or.inl rfl, True.intro⟩) (ih (k + 1) J hT (by omega) w HQ)
      · have c28 := ty_m hT (q := 3) (B := 12) (by decide) (by decide) k z28
        rw [show ([some (.ref 2), some (.int (nI (c))), some (.int (w)), some (.int (nI (k))), some (.int (J 3 k))] : am_L) = [some (.ref 2), some (.int (nI (c))), some (.int (w)), some (.int (nI (k))), some (.int (nI (jn J 3 k)))] by rw [← c28.1]]
        refine r_aload k96_31 rfl ?_
        refine j_ref (b := 9) k96_32 hB rfl ?_
        refine r_iload k96_35 rfl ?_
        refine r_dup2 rfl rfl k96_37 ?_
        refine j_ald (n := 12) (j := (jn J 3 k)) (v := (J 9 (jn J 3 k))) k96_38 hB rfl rfl (by omega) rfl ?_
        refine r_iload k96_39 rfl ?_
        refine r_ior k96_40 ?_
        refine j_ast (n := 12) (j := (jn J 3 k)) k96_41 hB rfl rfl (by omega) ?_
        have hT41 : am_ty2 (am_u2 J 9 (jn J 3 k) ((J 9 (jn J 3 k)) ||| w)) := ty_w hT (tw_a (by decide) (by decide) (by decide))
        refine r_iload k96_42 rfl ?_
        refine r_pushn (v := nI 1) k96_43 rfl ?_
        refine r_iload k96_44 rfl ?_
        refine r_ishl k96_46 ?_
        refine r_ior k96_47 ?_
        refine r_istore (L' := [some (.ref 2), some (.int (nI (c))), some (.int (w ||| ((nI 1) <<< ((nI (jn J 3 k)) &&& 31)))), some (.int (nI (k))), some (.int (nI (jn J 3 k)))]) k96_48 (Nat.le_of_ble_eq_true rfl) rfl ?_
        refine r_iinc (v := (nI (k + 1))) (L' := [some (.ref 2), some (.int (nI (c))), some (.int (w ||| ((nI 1) <<< ((nI (jn J 3 k)) &&& 31)))), some (.int (nI (k + 1))), some (.int (nI (jn J 3 k)))]) k96_49 rfl (Nat.le_of_ble_eq_true rfl) (nI_1 _) rfl ?_
        refine r_goto k96_52 ?_
        have e9 : C_ns c (m + 1) k J w = C_ns c m (k + 1) (am_u2 J 9 (jn J 3 k) ((J 9 (jn J 3 k)) ||| w)) (w ||| ((nI 1) <<< ((nI (jn J 3 k)) &&& 31))) := by rw [C_ns]; rw [am_ite_f z28]
        rw [e9] at HQ
        exact wp_L (L := [some (.ref 2), some (.int (nI (c))), some (.int (w ||| ((nI 1) <<< ((nI (jn J 3 k)) &&& 31)))), some (.int (nI (k + 1))), none]) (⟨Or.inr rfl, Or.inr rfl, Or.inr rfl, Or.inr rfl, Or.inl rfl, True.intro⟩) (ih (k + 1) (am_u2 J 9 (jn J 3 k) ((J 9 (jn J 3 k)) ||| w)) hT41 (by omega) (w ||| ((nI 1) <<< ((nI (jn J 3 k)) &&& 31))) HQ)
theorem fl_C_ns {c : Nat} (q : Nat) (hq : ¬ q = 9) : ∀ (m k : Nat) (J : Nat → Nat → Int32) (w : Int32), (C_ns c m k J w) q = J q := by
  intro m
  induction m with
  | zero =>
    intro k J w
    rw [C_ns]
    first | done | exact rfl
  | succ m ih =>
    intro k J w
    rw [C_ns]
    refine fr_i0 (fun _ => ?_) (fun _ => ?_)
    · exact ih (k + 1) J w
    · exact (ih (k + 1) (am_u2 J 9 (jn J 3 k) ((J 9 (jn J 3 k)) ||| w)) (w ||| ((nI 1) <<< ((nI (jn J 3 k)) &&& 31)))).trans (fr_u (by omega))
noncomputable def C_noteS (J : Nat → Nat → Int32) (c : Nat) : (Nat → Nat → Int32) := (C_ns c 3 (c * 3) J ((nI 1) <<< ((nI c) &&& 31)))
set_option maxRecDepth 20000 in
theorem s_C_noteS {d : am_D} {h : am_H} {J : Nat → Nat → Int32} (hB : am_B h) (hT : am_ty2 J) (c : Nat) (hc : c < 12) : am_wp d 96 0 [some (.ref 2), some (.int (nI (c))), none, none, none] [] (am_si h J) (fun r h' => r = none ∧ h' = am_si h (C_noteS J c) ∧ am_ty2 (C_noteS J c)) := by
  refine r_pushn (v := nI 1) k96_0 rfl ?_
  refine r_iload k96_1 rfl ?_
  refine r_ishl k96_2 ?_
  refine r_istore (L' := [some (.ref 2), some (.int (nI (c))), some (.int ((nI 1) <<< ((nI c) &&& 31))), none, none]) k96_3 (Nat.le_of_ble_eq_true rfl) rfl ?_
  refine r_iload k96_4 rfl ?_
  refine r_pushn (v := nI 3) k96_5 rfl ?_
  refine r_imulN k96_6 ?_
  refine r_istore (L' := [some (.ref 2), some (.int (nI (c))), some (.int ((nI 1) <<< ((nI c) &&& 31))), some (.int (nI (c * 3))), none]) k96_7 (Nat.le_of_ble_eq_true rfl) rfl ?_
  have e9 : C_noteS J c = (C_ns c 3 (c * 3) J ((nI 1) <<< ((nI c) &&& 31))) := rfl
  exact (l_C_ns hB c (by omega) 3 (c * 3) J hT (by omega) ((nI 1) <<< ((nI c) &&& 31)) (fun hT9 => ⟨rfl, by rw [e9], by rw [e9]; exact hT9⟩))
theorem fr_C_noteS {J : Nat → Nat → Int32} {c : Nat} (q : Nat) (hq : ¬ q = 9) : (C_noteS J c) q = J q := by
  unfold C_noteS
  exact fl_C_ns q (by omega) _ _ _ _
noncomputable def C_n1 (all : Int32) : Nat → Nat → (Nat → Nat → Int32) → (Nat → Nat → Int32)
  | 0, k, J => (J)
  | m + 1, k, J => (C_n1 all m (k + 1) (am_u2 J 9 k (nI 0)))
set_option maxRecDepth 20000 in
theorem l_C_n1 {d : am_D} {h : am_H} {Q : Option Value → am_H → Prop} (hB : am_B h) (all : Int32) (hd : 1 ≤ d.1) (hw : 24 ≤ d.2) : ∀ (m k : Nat) (J : Nat → Nat → Int32), am_ty2 J → k + m = 12 → (am_ty2 (C_n1 all m k J) → am_wp d 95 21 [some (.ref 2), some (.int (all)), none] [] (am_si h (C_n1 all m k J)) Q) → am_wp d 95 2 [some (.ref 2), some (.int (all)), some (.int (nI (k)))] [] (am_si h J) Q := by
  intro m
  induction m with
  | zero =>
    intro k J hT hk HQ
    refine r_iload k95_2 rfl ?_
    refine r_pushn (v := nI 12) k95_3 rfl ?_
    refine r_icmpgeN (by omega) (by omega) k95_5 (fun z5 => ?_) (fun z5 => ?_)
    · have e9 : C_n1 all 0 k J = (J) := by rw [C_n1]
      rw [e9] at HQ
      exact wp_L (L := [some (.ref 2), some (.int (all)), none]) (⟨Or.inr rfl, Or.inr rfl, Or.inl rfl, True.intro⟩) (HQ hT)
    · exact absurd z5 (by omega)
  | succ m ih =>
    intro k J hT hk HQ
    refine r_iload k95_2 rfl ?_
    refine r_pushn (v := nI 12) k95_3 rfl ?_
    refine r_icmpgeN (by omega) (by omega) k95_5 (fun z5 => ?_) (fun z5 => ?_)
    · exact absurd z5 (by omega)
    · refine r_aload k95_8 rfl ?_
      refine j_ref (b := 9) k95_9 hB rfl ?_
      refine r_iload k95_12 rfl ?_
      refine r_pushn (v := nI 0) k95_13 rfl ?_
      refine j_ast (n := 12) (j := k) k95_14 hB rfl rfl (by omega) ?_
      have hT14 : am_ty2 (am_u2 J 9 k (nI 0)) := ty_w hT (tw_a (by decide) (by decide) (by decide))
      refine r_iinc (v := (nI (k + 1))) (L' := [some (.ref 2), some (.int (all)), some (.int (nI (k + 1)))]) k95_15 rfl (Nat.le_of_ble_eq_true rfl) (nI_1 _) rfl ?_
      refine r_goto k95_18 ?_
      have e9 : C_n1 all (m + 1) k J = C_n1 all m (k + 1) (am_u2 J 9 k (nI 0)) := by rw [C_n1]
      rw [e9] at HQ
      exact ih (k + 1) (am_u2 J 9 k (nI 0)) hT14 (by omega) HQ
theorem fl_C_n1 {all : Int32} (q : Nat) (hq : ¬ q = 9) : ∀ (m k : Nat) (J : Nat → Nat → Int32), (C_n1 all m k J) q = J q := by
  intro m
  induction m with
  | zero =>
    intro k J
    rw [C_n1]
    first | done | exact rfl
  | succ m ih =>
    intro k J
    rw [C_n1]
    first | done | exact (ih (k + 1) (am_u2 J 9 k (nI 0))).trans (fr_u (by omega))
noncomputable def C_n2 (all : Int32) : Nat → Nat → (Nat → Nat → Int32) → (Nat → Nat → Int32)
  | 0, k, J => (J)
  | m + 1, k, J => (am_ite (w_isin all (nI k)) (C_n2 all m (k + 1) (C_noteS J k)) (C_n2 all m (k + 1) J))
set_option maxRecDepth 20000 in
theorem l_C_n2 {d : am_D} {h : am_H} {Q : Option Value → am_H → Prop} (hB : am_B h) (all : Int32) (hd : 1 ≤ d.1) (hw : 24 ≤ d.2) : ∀ (m k : Nat) (J : Nat → Nat → Int32), am_ty2 J → k + m = 12 → (am_ty2 (C_n2 all m k J) → Q none (am_si h (C_n2 all m k J))) → am_wp d 95 23 [some (.ref 2), some (.int (all)), some (.int (nI (k)))] [] (am_si h J) Q := by
  intro m
  induction m with
  | zero =>
    intro k J hT hk HQ
    refine r_iload k95_23 rfl ?_
    refine r_pushn (v := nI 12) k95_24 rfl ?_
    refine r_icmpgeN (by omega) (by omega) k95_26 (fun z26 => ?_) (fun z26 => ?_)
    · have e9 : C_n2 all 0 k J = (J) := by rw [C_n2]
      rw [e9] at HQ
      exact r_vret k95_48 rfl (HQ hT)
    · exact absurd z26 (by omega)
  | succ m ih =>
    intro k J hT hk HQ
    refine r_iload k95_23 rfl ?_
    refine r_pushn (v := nI 12) k95_24 rfl ?_
    refine r_icmpgeN (by omega) (by omega) k95_26 (fun z26 => ?_) (fun z26 => ?_)
    · exact absurd z26 (by omega)
    · refine r_iload k95_29 rfl ?_
      refine r_iload k95_30 rfl ?_
      refine j_call (ml := 2) k95_31 rfl (show 0 < d.1 by omega) (show 19 + 2 ≤ d.2 by omega) ⟨Nat.le_of_ble_eq_true rfl, Nat.le_of_ble_eq_true rfl, True.intro, Nat.le_of_ble_eq_true rfl⟩ rfl (rest := []) rfl (s_w_isin all (nI k)) (fun r h1 hq => ?_)
      obtain ⟨rfl, rfl⟩ := hq
      show am_wp _ _ _ [some (.ref 2), some (.int (all)), some (.int (nI (k)))] [.int (am_b (w_isin all (nI k)))] _ _
      refine r_ifeqB k95_34 (fun z34 => ?_) (fun z34 => ?_)
      · refine r_iinc (v := (nI (k + 1))) (L' := [some (.ref 2), some (.int (all)), some (.int (nI (k + 1)))]) k95_42 rfl (Nat.le_of_ble_eq_true rfl) (nI_1 _) rfl ?_
        refine r_goto k95_45 ?_
        have e9 : C_n2 all (m + 1) k J = C_n2 all m (k + 1) J := by rw [C_n2]; rw [am_ite_f z34]
        rw [e9] at HQ
        exact ih (k + 1) J hT (by omega) HQ
      · refine r_aload k95_37 rfl ?_
        refine r_iload k95_38 rfl ?_
        refine j_call (ml := 5) k95_39 rfl (show 0 < d.1 by omega) (show 19 + 5 ≤ d.2 by omega) ⟨Nat.le_of_ble_eq_true rfl, Nat.le_of_ble_eq_true rfl, am_obB hB rfl, Nat.le_of_ble_eq_true rfl⟩ rfl (rest := []) rfl (s_C_noteS hB hT k (by omega)) (fun r h1 hq => ?_)
        obtain ⟨rfl, rfl, hT39⟩ := hq
        show am_wp _ _ _ [some (.ref 2), some (.int (all)), some (.int (nI (k)))] [] _ _
        refine r_iinc (v := (nI (k + 1))) (L' := [some (.ref 2), some (.int (all)), some (.int (nI (k + 1)))]) k95_42 rfl (Nat.le_of_ble_eq_true rfl) (nI_1 _) rfl ?_
        refine r_goto k95_45 ?_
        have e9 : C_n2 all (m + 1) k J = C_n2 all m (k + 1) (C_noteS J k) := by rw [C_n2]; rw [am_ite_t z34]
        rw [e9] at HQ
        exact ih (k + 1) (C_noteS J k) hT39 (by omega) HQ
theorem fl_C_n2 {all : Int32} (q : Nat) (hq : ¬ q = 9) : ∀ (m k : Nat) (J : Nat → Nat → Int32), (C_n2 all m k J) q = J q := by
  intro m
  induction m with
  | zero =>
    intro k J
    rw [C_n2]
    first | done | exact rfl
  | succ m ih =>
    intro k J
    rw [C_n2]
    refine fr_i0 (fun _ => ?_) (fun _ => ?_)
    · exact (ih (k + 1) (C_noteS J k)).trans (fr_C_noteS q (by omega))
    · exact ih (k + 1) J
noncomputable def C_note (J : Nat → Nat → Int32) (all : Int32) : (Nat → Nat → Int32) := (C_n2 all 12 0 ((C_n1 all 12 0 J)))
set_option maxRecDepth 20000 in
theorem s_C_note {d : am_D} {h : am_H} {J : Nat → Nat → Int32} (hB : am_B h) (hT : am_ty2 J) (all : Int32) (hd : 1 ≤ d.1) (hw : 24 ≤ d.2) : am_wp d 95 0 [some (.ref 2), some (.int (all)), none] [] (am_si h J) (fun r h' => r = none ∧ h' = am_si h (C_note J all) ∧ am_ty2 (C_note J all)) := by
  refine r_pushn (v := nI 0) k95_0 rfl ?_
  refine r_istore (L' := [some (.ref 2), some (.int (all)), some (.int (nI 0))]) k95_1 (Nat.le_of_ble_eq_true rfl) rfl ?_
  refine (l_C_n1 hB all hd hw 12 0 J hT (by omega) (fun hT9C_n1 => ?_))
  refine r_pushn (v := nI 0) k95_21 rfl ?_
  refine r_istore (L' := [some (.ref 2), some (.int (all)), some (.int (nI 0))]) k95_22 (Nat.le_of_ble_eq_true rfl) rfl ?_
  have e9 : C_note J all = (C_n2 all 12 0 ((C_n1 all 12 0 J))) := rfl
  exact (l_C_n2 hB all hd hw 12 0 ((C_n1 all 12 0 J)) hT9C_n1 (by omega) (fun hT9 => ⟨rfl, by rw [e9], by rw [e9]; exact hT9⟩))
theorem fr_C_note {J : Nat → Nat → Int32} {all : Int32} (q : Nat) (hq : ¬ q = 9) : (C_note J all) q = J q := by
  unfold C_note
  exact (fl_C_n2 q (by omega) _ _ _).trans (fl_C_n1 q (by omega) _ _ _)
noncomputable def C_nd2 (len : Nat) (left : Int32) (p : Nat) (b : Nat) (zz : Int32) : Nat → Nat → (Nat → Nat → Int32) → Int32
  | 0, k, J => zz
  | m + 1, k, J => (am_ite ((J 3 k) = ((-1))) (C_nd2 len left p b zz m (k + 1) J) (am_ite (w_isin left (nI (jn J 3 k))) (am_ite (((J 9 (jn J 3 k)) &&& left) = 0) (((nI (jn J 3 k)))) (C_nd2 len left p b zz m (k + 1) J)) (C_nd2 len left p b zz m (k + 1) J)))
set_option maxRecDepth 20000 in
theorem l_C_nd2 {d : am_D} {h : am_H} {Q : Option Value → am_H → Prop} (hB : am_B h) (len : Nat) (left : Int32) (p : Nat) (b : Nat) (zz : Int32) (hb : b < 12) (hd : 1 ≤ d.1) (hw : 21 ≤ d.2) : ∀ (m k : Nat) (J : Nat → Nat → Int32), am_ty2 J → k + m = (b + 1) * 3 → Q (some (.int (C_nd2 len left p b zz m k J))) (am_si h J) → (Q (some (.int zz)) (am_si h J) → am_wp d 97 78 [some (.ref 2), some (.int (nI (len))), some (.int (left)), some (.int (nI (p))), some (.int (nI (b))), none, none] [] (am_si h J) Q) → am_wp d 97 22 [some (.ref 2), some (.int (nI (len))), some (.int (left)), some (.int (nI (p))), some (.int (nI (b))), some (.int (nI (k))), none] [] (am_si h J) Q := by
  intro m
  induction m with
  | zero =>
    intro k J hT hk HQ KX
    refine r_iload k97_22 rfl ?_
    refine r_iload k97_24 rfl ?_
    refine r_pushn (v := nI 1) k97_26 rfl ?_
    refine r_iaddN k97_27 ?_
    refine r_pushn (v := nI 3) k97_28 rfl ?_
    refine r_imulN k97_29 ?_
    refine r_icmpgeN (by omega) (by omega) k97_30 (fun z30 => ?_) (fun z30 => ?_)
    · have e9 : C_nd2 len left p b zz 0 k J = zz := by rw [C_nd2]
      rw [e9] at HQ
      exact wp_L (L := [some (.ref 2), some (.int (nI (len))), some (.int (left)), some (.int (nI (p))), some (.int (nI (b))), none, none]) (⟨Or.inr rfl, Or.inr rfl, Or.inr rfl, Or.inr rfl, Or.inr rfl, Or.inl rfl, Or.inl rfl, True.intro⟩) (KX HQ)
    · exact absurd z30 (by omega)
  | succ m ih =>
    intro k J hT hk HQ KX
    refine r_iload k97_22 rfl ?_
    refine r_iload k97_24 rfl ?_
    refine r_pushn (v := nI 1) k97_26 rfl ?_
    refine r_iaddN k97_27 ?_
    refine r_pushn (v := nI 3) k97_28 rfl ?_
    refine r_imulN k97_29 ?_
    refine r_icmpgeN (by omega) (by omega) k97_30 (fun z30 => ?_) (fun z30 => ?_)
    · exact absurd z30 (by omega)
    · refine r_aload k97_33 rfl ?_
      refine j_ref (b := 3) k97_34 hB rfl ?_
      refine r_iload k97_37 rfl ?_
      refine j_ald (n := 36) (j := k) (v := (J 3 k)) k97_39 hB rfl rfl (by omega) rfl ?_
      refine r_istore (L' := [some (.ref 2), some (.int (nI (len))), some (.int (left)), some (.int (nI (p))), some (.int (nI (b))), some (.int (nI (k))), some (.int (J 3 k))]) k97_40 (Nat.le_of_ble_eq_true rfl) rfl ?_
      refine r_iload k97_42 rfl ?_
      refine r_pushn (v := (-1)) k97_44 rfl ?_
      refine r_icmpeq k97_45 (fun z45 => ?_) (fun z45 => ?_)
      · refine r_iinc (v := (nI (k + 1))) (L' := [some (.ref 2), some (.int (nI (len))), some (.int (left)), some (.int (nI (p))), some (.int (nI (b))), some (.int (nI (k + 1))), some (.int (J 3 k))]) k97_72 rfl (Nat.le_of_ble_eq_true rfl) (nI_1 _) rfl ?_
        refine r_goto k97_75 ?_
        have e9 : C_nd2 len left p b zz (m + 1) k J = C_nd2 len left p b zz m (k + 1) J := by rw [C_nd2]; rw [am_ite_t z45]
        rw [e9] at HQ
        exact wp_L (L := [some (.ref 2), some (.int (nI (len))), some (.int (left)), some (.int (nI (p))), some (.int (nI (b))), some (.int (nI (k + 1))), none]) (⟨Or.inr rfl, Or.inr rfl, Or.inr rfl, Or.inr rfl, Or.inr rfl, Or.inr rfl, Or.inl rfl, True.intro⟩) (ih (k + 1) J hT (by omega) HQ KX)
      · have c45 := ty_m hT (q := 3) (B := 12) (by decide) (by decide) k z45
        rw [show ([some (.ref 2), some (.int (nI (len))), some (.int (left)), some (.int (nI (p))), some (.int (nI (b))), some (.int (nI (k))), some (.int (J 3 k))] : am_L) = [some (.ref 2), some (.int (nI (len))), some (.int (left)), some (.int (nI (p))), some (.int (nI (b))), some (.int (nI (k))), some (.int (nI (jn J 3 k)))] by rw [← c45.1]]
        refine r_iload k97_48 rfl ?_
        refine r_iload k97_49 rfl ?_
        refine j_call (ml := 2) k97_51 rfl (show 0 < d.1 by omega) (show 19 + 2 ≤ d.2 by omega) ⟨Nat.le_of_ble_eq_true rfl, Nat.le_of_ble_eq_true rfl, True.intro, Nat.le_of_ble_eq_true rfl⟩ rfl (rest := []) rfl (s_w_isin left (nI (jn J 3 k))) (fun r h1 hq => ?_)
        obtain ⟨rfl, rfl⟩ := hq
        show am_wp _ _ _ [some (.ref 2), some (.int (nI (len))), some (.int (left)), some (.int (nI (p))), some (.int (nI (b))), some (.int (nI (k))), some (.int (nI (jn J 3 k)))] [.int (am_b (w_isin left (nI (jn J 3 k))))] _ _
        refine r_ifeqB k97_54 (fun z54 => ?_) (fun z54 => ?_)
        · refine r_iinc (v := (nI (k + 1))) (L' := [some (.ref 2), some (.int (nI (len))), some (.int (left)), some (.int (nI (p))), some (.int (nI (b))), some (.int (nI (k + 1))), some (.int (nI (jn J 3 k)))]) k97_72 rfl (Nat.le_of_ble_eq_true rfl) (nI_1 _) rfl ?_
          refine r_goto k97_75 ?_
          have e9 : C_nd2 len left p b zz (m + 1) k J = C_nd2 len left p b zz m (k + 1) J := by rw [C_nd2]; rw [am_ite_f z45, am_ite_f z54]
          rw [e9] at HQ
          exact wp_L (L := [some (.ref 2), some (.int (nI (len))), some (.int (left)), some (.int (nI (p))), some (.int (nI (b))), some (.int (nI (k + 1))), none]) (⟨Or.inr rfl, Or.inr rfl, Or.inr rfl, Or.inr rfl, Or.inr rfl, Or.inr rfl, Or.inl rfl, True.intro⟩) (ih (k + 1) J hT (by omega) HQ KX)
        · refine r_aload k97_57 rfl ?_
          refine j_ref (b := 9) k97_58 hB rfl ?_
          refine r_iload k97_61 rfl ?_
          refine j_ald (n := 12) (j := (jn J 3 k)) (v := (J 9 (jn J 3 k))) k97_63 hB rfl rfl (by omega) rfl ?_
          refine r_iload k97_64 rfl ?_
          refine r_iand k97_65 ?_
          refine r_ifne k97_66 (fun z66 => ?_) (fun z66 => ?_)
          · refine r_iinc (v := (nI (k + 1))) (L' := [some (.ref 2), some (.int (nI (len))), some (.int (left)), some (.int (nI (p))), some (.int (nI (b))), some (.int (nI (k + 1))), some (.int (nI (jn J 3 k)))]) k97_72 rfl (Nat.le_of_ble_eq_true rfl) (nI_1 _) rfl ?_
            refine r_goto k97_75 ?_
            have e9 : C_nd2 len left p b zz (m + 1) k J = C_nd2 len left p b zz m (k + 1) J := by rw [C_nd2]; rw [am_ite_f z45, am_ite_t z54, am_ite_f z66]
            rw [e9] at HQ
            exact wp_L (L := [some (.ref 2), some (.int (nI (len))), some (.int (left)), some (.int (nI (p))), some (.int (nI (b))), some (.int (nI (k + 1))), none]) (⟨Or.inr rfl, Or.inr rfl, Or.inr rfl, Or.inr rfl, Or.inr rfl, Or.inr rfl, Or.inl rfl, True.intro⟩) (ih (k + 1) J hT (by omega) HQ KX)
          · refine r_iload k97_69 rfl ?_
            have e9 : C_nd2 len left p b zz (m + 1) k J = (((nI (jn J 3 k)))) := by rw [C_nd2]; rw [am_ite_f z45, am_ite_t z54, am_ite_t z66]
            rw [e9] at HQ
            exact r_iret k97_71 rfl HQ
noncomputable def C_nd (len : Nat) (left : Int32) : Nat → (Nat → Nat → Int32) → Int32
  | 0, J => ((((-1))))
  | m + 1, J => (C_nd2 len left m (jn J 8 m) ((C_nd len left m J)) 3 ((jn J 8 m) * 3) J)
set_option maxRecDepth 20000 in
theorem l_C_nd {d : am_D} {h : am_H} {Q : Option Value → am_H → Prop} (hB : am_B h) (len : Nat) (left : Int32) (hd : 1 ≤ d.1) (hw : 21 ≤ d.2) : ∀ (m : Nat) (J : Nat → Nat → Int32), am_ty2 J → m ≤ 12 → Q (some (.int (C_nd len left m J))) (am_si h J) → am_wp d 97 4 [some (.ref 2), some (.int (nI (len))), some (.int (left)), some (.int (am_pd m)), none, none, none] [] (am_si h J) Q := by
  intro m
  induction m with
  | zero =>
    intro J hT hc0 HQ
    rw [show ([some (.ref 2), some (.int (nI (len))), some (.int (left)), some (.int (am_pd 0)), none, none, none] : am_L) = [some (.ref 2), some (.int (nI (len))), some (.int (left)), some (.int ((-1))), none, none, none] from rfl]
    refine r_iload k97_4 rfl ?_
    refine r_iflt k97_5 (fun _ => ?_) (fun z => absurd (show ((-1) : Int32) < 0 by decide) z)
    refine r_pushn (v := (-1)) k97_84 rfl ?_
    have e9 : C_nd len left 0 J = ((((-1)))) := by rw [C_nd]
    rw [e9] at HQ
    exact r_iret k97_85 rfl HQ
  | succ m ih =>
    intro J hT hc0 HQ
    rw [show ([some (.ref 2), some (.int (nI (len))), some (.int (left)), some (.int (am_pd (m + 1))), none, none, none] : am_L) = [some (.ref 2), some (.int (nI (len))), some (.int (left)), some (.int (nI (m))), none, none, none] from rfl]
    refine r_iload k97_4 rfl ?_
    refine r_ifltN (by omega) k97_5 ?_
    refine r_aload k97_8 rfl ?_
    refine j_ref (b := 8) k97_9 hB rfl ?_
    refine r_iload k97_12 rfl ?_
    have b13 := ty_n hT (q := 8) (B := 12) (by decide) (by decide) m
    refine j_ald (n := 12) (j := m) (v := (nI (jn J 8 m))) k97_13 hB rfl rfl (by omega) b13.1 ?_
    refine r_istore (L' := [some (.ref 2), some (.int (nI (len))), some (.int (left)), some (.int (nI (m))), some (.int (nI (jn J 8 m))), none, none]) k97_14 (Nat.le_of_ble_eq_true rfl) rfl ?_
    refine r_iload k97_16 rfl ?_
    refine r_pushn (v := nI 3) k97_18 rfl ?_
    refine r_imulN k97_19 ?_
    refine r_istore (L' := [some (.ref 2), some (.int (nI (len))), some (.int (left)), some (.int (nI (m))), some (.int (nI (jn J 8 m))), some (.int (nI ((jn J 8 m) * 3))), none]) k97_20 (Nat.le_of_ble_eq_true rfl) rfl ?_
    have e9 : C_nd len left (m + 1) J = (C_nd2 len left m (jn J 8 m) ((C_nd len left m J)) 3 ((jn J 8 m) * 3) J) := by rw [C_nd]
    rw [e9] at HQ
    refine (l_C_nd2 hB len left m (jn J 8 m) ((C_nd len left m J)) (by omega) hd hw 3 ((jn J 8 m) * 3) J hT (by omega) HQ (fun HQ => ?_))
    refine r_iinc (v := (am_pd m)) (L' := [some (.ref 2), some (.int (nI (len))), some (.int (left)), some (.int (am_pd m)), some (.int (nI (jn J 8 m))), none, none]) k97_78 rfl (Nat.le_of_ble_eq_true rfl) (am_pd_dec _) rfl ?_
    refine r_goto k97_81 ?_
    exact wp_L (L := [some (.ref 2), some (.int (nI (len))), some (.int (left)), some (.int (am_pd m)), none, none, none]) (⟨Or.inr rfl, Or.inr rfl, Or.inr rfl, Or.inr rfl, Or.inl rfl, Or.inl rfl, Or.inl rfl, True.intro⟩) (ih J hT (by omega) HQ)
noncomputable def C_next (J : Nat → Nat → Int32) (len : Nat) (left : Int32) : Int32 := (C_nd len left len J)
set_option maxRecDepth 20000 in
theorem s_C_next {d : am_D} {h : am_H} {J : Nat → Nat → Int32} (hB : am_B h) (hT : am_ty2 J) (len : Nat) (left : Int32) (hl : len ≤ 12) (hd : 1 ≤ d.1) (hw : 21 ≤ d.2) : am_wp d 97 0 [some (.ref 2), some (.int (nI (len))), some (.int (left)), none, none, none, none] [] (am_si h J) (fun r h' => r = some (.int (C_next J len left)) ∧ h' = (am_si h J)) := by
  refine r_iload k97_0 rfl ?_
  refine r_pushn (v := nI 1) k97_1 rfl ?_
  refine r_isub k97_2 ?_
  refine r_istore (L' := [some (.ref 2), some (.int (nI (len))), some (.int (left)), some (.int ((nI len) - (nI 1))), none, none, none]) k97_3 (Nat.le_of_ble_eq_true rfl) rfl ?_
  rw [show ([some (.ref 2), some (.int (nI (len))), some (.int (left)), some (.int ((nI len) - (nI 1))), none, none, none] : am_L) = [some (.ref 2), some (.int (nI (len))), some (.int (left)), some (.int (am_pd len)), none, none, none] by rw [am_pd_sub]]
  have e9 : C_next J len left = (C_nd len left len J) := rfl
  exact (l_C_nd hB len left hd hw len J hT (by omega) ⟨by rw [e9], rfl⟩)
theorem C_nd2_r {len p b : Nat} {left zz : Int32} {J : Nat → Nat → Int32} (hT : am_ty2 J) (hz : zz = -1 ∨ ∃ n, n < 12 ∧ zz = nI n) : ∀ m k, C_nd2 len left p b zz m k J = -1 ∨ ∃ n, n < 12 ∧ C_nd2 len left p b zz m k J = nI n := by
  intro m
  induction m with
  | zero => intro k; exact hz
  | succ m ih =>
    intro k
    rw [C_nd2]
    by_cases z1 : J 3 k = ((-1))
    · rw [am_ite_t z1]; exact ih (k + 1)
    · rw [am_ite_f z1]
      have c := ty_m hT (q := 3) (B := 12) (by decide) (by decide) k z1
      by_cases z2 : w_isin left (nI (jn J 3 k))
      · rw [am_ite_t z2]
        by_cases z3 : ((J 9 (jn J 3 k)) &&& left) = 0
        · rw [am_ite_t z3]; exact Or.inr ⟨_, c.2, rfl⟩
        · rw [am_ite_f z3]; exact ih (k + 1)
      · rw [am_ite_f z2]; exact ih (k + 1)
theorem C_nd_r {len : Nat} {left : Int32} {J : Nat → Nat → Int32} (hT : am_ty2 J) : ∀ m, C_nd len left m J = -1 ∨ ∃ n, n < 12 ∧ C_nd len left m J = nI n := by
  intro m
  induction m with
  | zero => exact Or.inl rfl
  | succ m ih => rw [C_nd]; exact C_nd2_r hT ih _ _
theorem C_next_n {J : Nat → Nat → Int32} (hT : am_ty2 J) {len : Nat} {left : Int32} (_ : True) (z : ¬ C_next J len left = -1) : C_next J len left = nI (jx (C_next J len left)) ∧ jx (C_next J len left) < 12 := am_mn (by decide) (C_nd_r hT _) z
noncomputable def C_dw : Nat → Nat → (Nat → Nat → Int32) → Int32 → Int32 × (Nat → Nat → Int32)
  | 0, k, J, left => (am_ite (left = 0) (((nI k), J)) (((nI k), J)))
  | m + 1, k, J, left => (am_ite (left = 0) (((nI k), J)) (am_ite ((C_next J k left) = ((-1))) (((nI 0), J)) (C_dw m (k + 1) (am_u2 J 8 k (nI (jx (C_next J k left)))) (left &&& (((nI 1) <<< ((nI (jx (C_next J k left))) &&& 31)) ^^^ ((-1)))))))
set_option maxRecDepth 20000 in
theorem l_C_dw {d : am_D} {h : am_H} {Q : Option Value → am_H → Prop} (hB : am_B h) (hd : 2 ≤ d.1) (hw : 48 ≤ d.2) : ∀ (m k : Nat) (J : Nat → Nat → Int32), am_ty2 J → k + m = 12 → ∀ (left : Int32), (am_ty2 (C_dw m k J left).2 → Q (some (.int (C_dw m k J left).1)) (am_si h (C_dw m k J left).2)) → am_wp d 92 29 [some (.ref 2), none, none, some (.int (nI (k))), some (.int (left)), none] [] (am_si h J) Q := by
  intro m
  induction m with
  | zero =>
    intro k J hT hk left HQ
    refine r_iload k92_29 rfl ?_
    refine r_ifeq k92_31 (fun z31 => ?_) (fun z31 => ?_)
    · refine r_iload k92_82 rfl ?_
      have e9 : C_dw 0 k J left = (((nI k), J)) := by rw [C_dw]; rw [am_ite_t z31]
      rw [e9] at HQ
      exact r_iret k92_83 rfl (HQ hT)
    · refine r_iload k92_34 rfl ?_
      refine r_pushn (v := nI 12) k92_35 rfl ?_
      refine r_icmpgeN (by omega) (by omega) k92_37 (fun z37 => ?_) (fun z37 => ?_)
      · refine r_iload k92_82 rfl ?_
        have e9 : C_dw 0 k J left = (((nI k), J)) := by rw [C_dw]; rw [am_ite_f z31]
        rw [e9] at HQ
        exact r_iret k92_83 rfl (HQ hT)
      · exact absurd z37 (by omega)
  | succ m ih =>
    intro k J hT hk left HQ
    refine r_iload k92_29 rfl ?_
    refine r_ifeq k92_31 (fun z31 => ?_) (fun z31 => ?_)
    · refine r_iload k92_82 rfl ?_
      have e9 : C_dw (m + 1) k J left = (((nI k), J)) := by rw [C_dw]; rw [am_ite_t z31]
      rw [e9] at HQ
      exact r_iret k92_83 rfl (HQ hT)
    · refine r_iload k92_34 rfl ?_
      refine r_pushn (v := nI 12) k92_35 rfl ?_
      refine r_icmpgeN (by omega) (by omega) k92_37 (fun z37 => ?_) (fun z37 => ?_)
      · exact absurd z37 (by omega)
      · refine r_aload k92_40 rfl ?_
        refine r_iload k92_41 rfl ?_
        refine r_iload k92_42 rfl ?_
        refine j_call (ml := 7) k92_44 rfl (show 0 < d.1 by omega) (show 19 + 7 ≤ d.2 by omega) ⟨Nat.le_of_ble_eq_true rfl, Nat.le_of_ble_eq_true rfl, am_obB hB rfl, Nat.le_of_ble_eq_true rfl⟩ rfl (rest := []) rfl (s_C_next hB hT k left (by omega) (show 1 ≤ d.1 - 1 by omega) (show 21 ≤ d.2 - 26 by omega)) (fun r h1 hq => ?_)
        obtain ⟨rfl, rfl⟩ := hq
        show am_wp _ _ _ [some (.ref 2), none, none, some (.int (nI (k))), some (.int (left)), none] [.int (C_next J k left)] _ _
        refine r_istore (L' := [some (.ref 2), none, none, some (.int (nI (k))), some (.int (left)), some (.int (C_next J k left))]) k92_47 (Nat.le_of_ble_eq_true rfl) rfl ?_
        refine r_iload k92_49 rfl ?_
        refine r_pushn (v := (-1)) k92_51 rfl ?_
        refine r_icmpne k92_52 (fun z52 => ?_) (fun z52 => ?_)
        · have c52 := C_next_n hT True.intro z52
          rw [show ([some (.ref 2), none, none, some (.int (nI (k))), some (.int (left)), some (.int (C_next J k left))] : am_L) = [some (.ref 2), none, none, some (.int (nI (k))), some (.int (left)), some (.int (nI (jx (C_next J k left))))] by rw [← c52.1]]
          refine r_aload k92_57 rfl ?_
          refine j_ref (b := 8) k92_58 hB rfl ?_
          refine r_iload k92_61 rfl ?_
          refine r_iload k92_62 rfl ?_
          refine j_ast (n := 12) (j := k) k92_64 hB rfl rfl (by omega) ?_
          have hT64 : am_ty2 (am_u2 J 8 k (nI (jx (C_next J k left)))) := ty_w hT (tw_n (B := 12) (by decide) (by decide) (by decide) (by omega))
          refine r_iinc (v := (nI (k + 1))) (L' := [some (.ref 2), none, none, some (.int (nI (k + 1))), some (.int (left)), some (.int (nI (jx (C_next J k left))))]) k92_65 rfl (Nat.le_of_ble_eq_true rfl) (nI_1 _) rfl ?_
          refine r_iload k92_68 rfl ?_
          refine r_pushn (v := nI 1) k92_70 rfl ?_
          refine r_iload k92_71 rfl ?_
          refine r_ishl k92_73 ?_
          refine r_pushn (v := (-1)) k92_74 rfl ?_
          refine r_ixor k92_75 ?_
          refine r_iand k92_76 ?_
          refine r_istore (L' := [some (.ref 2), none, none, some (.int (nI (k + 1))), some (.int (left &&& (((nI 1) <<< ((nI (jx (C_next J k left))) &&& 31)) ^^^ ((-1))))), some (.int (nI (jx (C_next J k left))))]) k92_77 (Nat.le_of_ble_eq_true rfl) rfl ?_
          refine r_goto k92_79 ?_
          have e9 : C_dw (m + 1) k J left = C_dw m (k + 1) (am_u2 J 8 k (nI (jx (C_next J k left)))) (left &&& (((nI 1) <<< ((nI (jx (C_next J k left))) &&& 31)) ^^^ ((-1)))) := by rw [C_dw]; rw [am_ite_f z31, am_ite_f z52]
          rw [e9] at HQ
          exact wp_L (L := [some (.ref 2), none, none, some (.int (nI (k + 1))), some (.int (left &&& (((nI 1) <<< ((nI (jx (C_next J k left))) &&& 31)) ^^^ ((-1))))), none]) (⟨Or.inr rfl, Or.inl rfl, Or.inl rfl, Or.inr rfl, Or.inr rfl, Or.inl rfl, True.intro⟩) (ih (k + 1) (am_u2 J 8 k (nI (jx (C_next J k left)))) hT64 (by omega) (left &&& (((nI 1) <<< ((nI (jx (C_next J k left))) &&& 31)) ^^^ ((-1)))) HQ)
        · refine r_pushn (v := nI 0) k92_55 rfl ?_
          have e9 : C_dw (m + 1) k J left = (((nI 0), J)) := by rw [C_dw]; rw [am_ite_f z31, am_ite_t z52]
          rw [e9] at HQ
          exact r_iret k92_56 rfl (HQ hT)
theorem fl_C_dw (q : Nat) (hq : ¬ q = 8) : ∀ (m k : Nat) (J : Nat → Nat → Int32) (left : Int32), (C_dw m k J left).2 q = J q := by
  intro m
  induction m with
  | zero =>
    intro k J left
    rw [C_dw]
    refine fr_i2 (fun _ => ?_) (fun _ => ?_)
    · exact rfl
    · exact rfl
  | succ m ih =>
    intro k J left
    rw [C_dw]
    refine fr_i2 (fun _ => ?_) (fun _ => ?_)
    · exact rfl
    · refine fr_i2 (fun _ => ?_) (fun _ => ?_)
      · exact rfl
      · exact (ih (k + 1) (am_u2 J 8 k (nI (jx (C_next J k left)))) (left &&& (((nI 1) <<< ((nI (jx (C_next J k left))) &&& 31)) ^^^ ((-1))))).trans (fr_u (by omega))
noncomputable def C_draw (J : Nat → Nat → Int32) (c : Nat) : Int32 × (Nat → Nat → Int32) := (C_dw 11 1 (am_u2 (C_note J (C_above J c)) 8 0 (nI c)) ((C_above J c) &&& (((nI 1) <<< ((nI c) &&& 31)) ^^^ ((-1)))))
set_option maxRecDepth 20000 in
theorem s_C_draw {d : am_D} {h : am_H} {J : Nat → Nat → Int32} (hB : am_B h) (hT : am_ty2 J) (c : Nat) (hc : c < 12) (hd : 2 ≤ d.1) (hw : 48 ≤ d.2) : am_wp d 92 0 [some (.ref 2), some (.int (nI (c))), none, none, none, none] [] (am_si h J) (fun r h' => r = some (.int (C_draw J c).1) ∧ h' = am_si h (C_draw J c).2 ∧ am_ty2 (C_draw J c).2) := by
  refine r_aload k92_0 rfl ?_
  refine r_iload k92_1 rfl ?_
  refine j_call (ml := 6) k92_2 rfl (show 0 < d.1 by omega) (show 19 + 6 ≤ d.2 by omega) ⟨Nat.le_of_ble_eq_true rfl, Nat.le_of_ble_eq_true rfl, am_obB hB rfl, Nat.le_of_ble_eq_true rfl⟩ rfl (rest := []) rfl (s_C_above hB hT c (by omega) (show 1 ≤ d.1 - 1 by omega) (show 23 ≤ d.2 - 25 by omega)) (fun r h1 hq => ?_)
  obtain ⟨rfl, rfl⟩ := hq
  show am_wp _ _ _ [some (.ref 2), some (.int (nI (c))), none, none, none, none] [.int (C_above J c)] _ _
  refine r_istore (L' := [some (.ref 2), some (.int (nI (c))), some (.int (C_above J c)), none, none, none]) k92_5 (Nat.le_of_ble_eq_true rfl) rfl ?_
  refine r_aload k92_6 rfl ?_
  refine r_iload k92_7 rfl ?_
  refine j_call (ml := 3) k92_8 rfl (show 0 < d.1 by omega) (show 19 + 3 ≤ d.2 by omega) ⟨Nat.le_of_ble_eq_true rfl, Nat.le_of_ble_eq_true rfl, am_obB hB rfl, Nat.le_of_ble_eq_true rfl⟩ rfl (rest := []) rfl (s_C_note hB hT (C_above J c) (show 1 ≤ d.1 - 1 by omega) (show 24 ≤ d.2 - 22 by omega)) (fun r h1 hq => ?_)
  obtain ⟨rfl, rfl, hT8⟩ := hq
  show am_wp _ _ _ [some (.ref 2), some (.int (nI (c))), some (.int (C_above J c)), none, none, none] [] _ _
  refine r_aload k92_11 rfl ?_
  refine j_ref (b := 8) k92_12 hB rfl ?_
  refine r_pushn (v := nI 0) k92_15 rfl ?_
  refine r_iload k92_16 rfl ?_
  refine j_ast (n := 12) (j := 0) k92_17 hB rfl rfl (by omega) ?_
  have hT17 : am_ty2 (am_u2 (C_note J (C_above J c)) 8 0 (nI c)) := ty_w hT8 (tw_n (B := 12) (by decide) (by decide) (by decide) (by omega))
  refine r_pushn (v := nI 1) k92_18 rfl ?_
  refine r_istore (L' := [some (.ref 2), some (.int (nI (c))), some (.int (C_above J c)), some (.int (nI 1)), none, none]) k92_19 (Nat.le_of_ble_eq_true rfl) rfl ?_
  refine r_iload k92_20 rfl ?_
  refine r_pushn (v := nI 1) k92_21 rfl ?_
  refine r_iload k92_22 rfl ?_
  refine r_ishl k92_23 ?_
  refine r_pushn (v := (-1)) k92_24 rfl ?_
  refine r_ixor k92_25 ?_
  refine r_iand k92_26 ?_
  refine r_istore (L' := [some (.ref 2), some (.int (nI (c))), some (.int (C_above J c)), some (.int (nI 1)), some (.int ((C_above J c) &&& (((nI 1) <<< ((nI c) &&& 31)) ^^^ ((-1))))), none]) k92_27 (Nat.le_of_ble_eq_true rfl) rfl ?_
  have e9 : C_draw J c = (C_dw 11 1 (am_u2 (C_note J (C_above J c)) 8 0 (nI c)) ((C_above J c) &&& (((nI 1) <<< ((nI c) &&& 31)) ^^^ ((-1))))) := rfl
  exact wp_L (L := [some (.ref 2), none, none, some (.int (nI 1)), some (.int ((C_above J c) &&& (((nI 1) <<< ((nI c) &&& 31)) ^^^ ((-1))))), none]) (⟨Or.inr rfl, Or.inl rfl, Or.inl rfl, Or.inr rfl, Or.inr rfl, Or.inl rfl, True.intro⟩) (l_C_dw hB hd hw 11 1 (am_u2 (C_note J (C_above J c)) 8 0 (nI c)) hT17 (by omega) ((C_above J c) &&& (((nI 1) <<< ((nI c) &&& 31)) ^^^ ((-1)))) (fun hT9 => ⟨by rw [e9], by rw [e9], by rw [e9]; exact hT9⟩))
theorem fr_C_draw {J : Nat → Nat → Int32} {c : Nat} (q : Nat) (hq : ¬ q = 8 ∧ ¬ q = 9) : (C_draw J c).2 q = J q := by
  unfold C_draw
  exact (fl_C_dw q (by omega) _ _ _ _).trans ((fr_u (by omega)).trans (fr_C_note q (by omega)))
