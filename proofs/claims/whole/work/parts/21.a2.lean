/-! The class: Classes, searches. -/
noncomputable def C_pl (c : Nat) (x : Int32) : Nat → Nat → (Nat → Nat → Int32) → Int32
  | 0, k, J => ((((-1))))
  | m + 1, k, J => (am_ite ((nI (jn J 4 ((c * 12) + k))) = x) (((nI k))) (C_pl c x m (k + 1) J))
set_option maxRecDepth 20000 in
theorem l_C_pl {d : am_D} {h : am_H} {Q : Option Value → am_H → Prop} (hB : am_B h) (c : Nat) (x : Int32) (hc : c < 12) : ∀ (m k : Nat) (J : Nat → Nat → Int32), am_ty2 J → k + m = jn J 5 c → Q (some (.int (C_pl c x m k J))) (am_si h J) → am_wp d 99 2 [some (.ref 2), some (.int (nI (c))), some (.int (x)), some (.int (nI (k)))] [] (am_si h J) Q := by
  intro m
  induction m with
  | zero =>
    intro k J hT hk HQ
    refine r_iload k99_2 rfl ?_
    refine r_aload k99_3 rfl ?_
    refine j_ref (b := 5) k99_4 hB rfl ?_
    refine r_iload k99_7 rfl ?_
    have b8 := ty_n hT (q := 5) (B := 13) (by decide) (by decide) c
    refine j_ald (n := 12) (j := c) (v := (nI (jn J 5 c))) k99_8 hB rfl rfl (by omega) b8.1 ?_
    refine r_icmpgeN (by omega) (by omega) k99_9 (fun z9 => ?_) (fun z9 => ?_)
    · refine r_pushn (v := (-1)) k99_35 rfl ?_
      have e9 : C_pl c x 0 k J = ((((-1)))) := by rw [C_pl]
      rw [e9] at HQ
      exact r_iret k99_36 rfl HQ
    · exact absurd z9 (by omega)
  | succ m ih =>
    intro k J hT hk HQ
    refine r_iload k99_2 rfl ?_
    refine r_aload k99_3 rfl ?_
    refine j_ref (b := 5) k99_4 hB rfl ?_
    refine r_iload k99_7 rfl ?_
    have b8 := ty_n hT (q := 5) (B := 13) (by decide) (by decide) c
    refine j_ald (n := 12) (j := c) (v := (nI (jn J 5 c))) k99_8 hB rfl rfl (by omega) b8.1 ?_
    refine r_icmpgeN (by omega) (by omega) k99_9 (fun z9 => ?_) (fun z9 => ?_)
    · exact absurd z9 (by omega)
    · refine r_aload k99_12 rfl ?_
      refine j_ref (b := 4) k99_13 hB rfl ?_
      refine r_iload k99_16 rfl ?_
      refine r_pushn (v := nI 12) k99_17 rfl ?_
      refine r_imulN k99_19 ?_
      refine r_iload k99_20 rfl ?_
      refine r_iaddN k99_21 ?_
      have b22 := ty_n hT (q := 4) (B := 12) (by decide) (by decide) ((c * 12) + k)
      refine j_ald (n := 144) (j := ((c * 12) + k)) (v := (nI (jn J 4 ((c * 12) + k)))) k99_22 hB rfl rfl (by omega) b22.1 ?_
      refine r_iload k99_23 rfl ?_
      refine r_icmpne k99_24 (fun z24 => ?_) (fun z24 => ?_)
      · refine r_iinc (v := (nI (k + 1))) (L' := [some (.ref 2), some (.int (nI (c))), some (.int (x)), some (.int (nI (k + 1)))]) k99_29 rfl (Nat.le_of_ble_eq_true rfl) (nI_1 _) rfl ?_
        refine r_goto k99_32 ?_
        have e9 : C_pl c x (m + 1) k J = C_pl c x m (k + 1) J := by rw [C_pl]; rw [am_ite_f z24]
        rw [e9] at HQ
        exact ih (k + 1) J hT (by omega) HQ
      · refine r_iload k99_27 rfl ?_
        have e9 : C_pl c x (m + 1) k J = (((nI k))) := by rw [C_pl]; rw [am_ite_t z24]
        rw [e9] at HQ
        exact r_iret k99_28 rfl HQ
noncomputable def C_place (J : Nat → Nat → Int32) (c : Nat) (x : Int32) : Int32 := (C_pl c x (jn J 5 c) 0 J)
set_option maxRecDepth 20000 in
theorem s_C_place {d : am_D} {h : am_H} {J : Nat → Nat → Int32} (hB : am_B h) (hT : am_ty2 J) (c : Nat) (x : Int32) (hc : c < 12) : am_wp d 99 0 [some (.ref 2), some (.int (nI (c))), some (.int (x)), none] [] (am_si h J) (fun r h' => r = some (.int (C_place J c x)) ∧ h' = (am_si h J)) := by
  refine r_pushn (v := nI 0) k99_0 rfl ?_
  refine r_istore (L' := [some (.ref 2), some (.int (nI (c))), some (.int (x)), some (.int (nI 0))]) k99_1 (Nat.le_of_ble_eq_true rfl) rfl ?_
  have e9 : C_place J c x = (C_pl c x (jn J 5 c) 0 J) := rfl
  exact (l_C_pl hB c x (by omega) (jn J 5 c) 0 J hT (by omega) ⟨by rw [e9], rfl⟩)
noncomputable def C_hl (c : Nat) (nm : Nat) : Nat → Nat → (Nat → Nat → Int32) → Int32
  | 0, k, J => ((((-1))))
  | m + 1, k, J => (am_ite ((jn J 6 (((jn J 4 ((c * 12) + k)) * 6) + nm)) = 0) (C_hl c nm m (k + 1) J) (((nI (jn J 4 ((c * 12) + k))))))
set_option maxRecDepth 20000 in
theorem l_C_hl {d : am_D} {h : am_H} {Q : Option Value → am_H → Prop} (hB : am_B h) (c : Nat) (nm : Nat) (hc : c < 12) (hn : nm < 6) : ∀ (m k : Nat) (J : Nat → Nat → Int32), am_ty2 J → k + m = jn J 5 c → Q (some (.int (C_hl c nm m k J))) (am_si h J) → am_wp d 101 2 [some (.ref 2), some (.int (nI (c))), some (.int (nI (nm))), some (.int (nI (k))), none] [] (am_si h J) Q := by
  intro m
  induction m with
  | zero =>
    intro k J hT hk HQ
    refine r_iload k101_2 rfl ?_
    refine r_aload k101_3 rfl ?_
    refine j_ref (b := 5) k101_4 hB rfl ?_
    refine r_iload k101_7 rfl ?_
    have b8 := ty_n hT (q := 5) (B := 13) (by decide) (by decide) c
    refine j_ald (n := 12) (j := c) (v := (nI (jn J 5 c))) k101_8 hB rfl rfl (by omega) b8.1 ?_
    refine r_icmpgeN (by omega) (by omega) k101_9 (fun z9 => ?_) (fun z9 => ?_)
    · refine r_pushn (v := (-1)) k101_49 rfl ?_
      have e9 : C_hl c nm 0 k J = ((((-1)))) := by rw [C_hl]
      rw [e9] at HQ
      exact r_iret k101_50 rfl HQ
    · exact absurd z9 (by omega)
  | succ m ih =>
    intro k J hT hk HQ
    refine r_iload k101_2 rfl ?_
    refine r_aload k101_3 rfl ?_
    refine j_ref (b := 5) k101_4 hB rfl ?_
    refine r_iload k101_7 rfl ?_
    have b8 := ty_n hT (q := 5) (B := 13) (by decide) (by decide) c
    refine j_ald (n := 12) (j := c) (v := (nI (jn J 5 c))) k101_8 hB rfl rfl (by omega) b8.1 ?_
    refine r_icmpgeN (by omega) (by omega) k101_9 (fun z9 => ?_) (fun z9 => ?_)
    · exact absurd z9 (by omega)
    · refine r_aload k101_12 rfl ?_
      refine j_ref (b := 4) k101_13 hB rfl ?_
      refine r_iload k101_16 rfl ?_
      refine r_pushn (v := nI 12) k101_17 rfl ?_
      refine r_imulN k101_19 ?_
      refine r_iload k101_20 rfl ?_
      refine r_iaddN k101_21 ?_
      have b22 := ty_n hT (q := 4) (B := 12) (by decide) (by decide) ((c * 12) + k)
      refine j_ald (n := 144) (j := ((c * 12) + k)) (v := (nI (jn J 4 ((c * 12) + k)))) k101_22 hB rfl rfl (by omega) b22.1 ?_
      refine r_istore (L' := [some (.ref 2), some (.int (nI (c))), some (.int (nI (nm))), some (.int (nI (k))), some (.int (nI (jn J 4 ((c * 12) + k))))]) k101_23 (Nat.le_of_ble_eq_true rfl) rfl ?_
      refine r_aload k101_25 rfl ?_
      refine j_ref (b := 6) k101_26 hB rfl ?_
      refine r_iload k101_29 rfl ?_
      refine r_pushn (v := nI 6) k101_31 rfl ?_
      refine r_imulN k101_33 ?_
      refine r_iload k101_34 rfl ?_
      refine r_iaddN k101_35 ?_
      have b36 := ty_n hT (q := 6) (B := 4) (by decide) (by decide) (((jn J 4 ((c * 12) + k)) * 6) + nm)
      refine j_ald (n := 72) (j := (((jn J 4 ((c * 12) + k)) * 6) + nm)) (v := (nI (jn J 6 (((jn J 4 ((c * 12) + k)) * 6) + nm)))) k101_36 hB rfl rfl (by omega) b36.1 ?_
      refine r_ifeqN (by omega) k101_37 (fun z37 => ?_) (fun z37 => ?_)
      · refine r_iinc (v := (nI (k + 1))) (L' := [some (.ref 2), some (.int (nI (c))), some (.int (nI (nm))), some (.int (nI (k + 1))), some (.int (nI (jn J 4 ((c * 12) + k))))]) k101_43 rfl (Nat.le_of_ble_eq_true rfl) (nI_1 _) rfl ?_
        refine r_goto k101_46 ?_
        have e9 : C_hl c nm (m + 1) k J = C_hl c nm m (k + 1) J := by rw [C_hl]; rw [am_ite_t z37]
        rw [e9] at HQ
        exact wp_L (L := [some (.ref 2), some (.int (nI (c))), some (.int (nI (nm))), some (.int (nI (k + 1))), none]) (⟨Or.inr rfl, Or.inr rfl, Or.inr rfl, Or.inr rfl, Or.inl rfl, True.intro⟩) (ih (k + 1) J hT (by omega) HQ)
      · refine r_iload k101_40 rfl ?_
        have e9 : C_hl c nm (m + 1) k J = (((nI (jn J 4 ((c * 12) + k))))) := by rw [C_hl]; rw [am_ite_f z37]
        rw [e9] at HQ
        exact r_iret k101_42 rfl HQ
noncomputable def C_holder (J : Nat → Nat → Int32) (c : Nat) (nm : Nat) : Int32 := (C_hl c nm (jn J 5 c) 0 J)
set_option maxRecDepth 20000 in
theorem s_C_holder {d : am_D} {h : am_H} {J : Nat → Nat → Int32} (hB : am_B h) (hT : am_ty2 J) (c : Nat) (nm : Nat) (hc : c < 12) (hn : nm < 6) : am_wp d 101 0 [some (.ref 2), some (.int (nI (c))), some (.int (nI (nm))), none, none] [] (am_si h J) (fun r h' => r = some (.int (C_holder J c nm)) ∧ h' = (am_si h J)) := by
  refine r_pushn (v := nI 0) k101_0 rfl ?_
  refine r_istore (L' := [some (.ref 2), some (.int (nI (c))), some (.int (nI (nm))), some (.int (nI 0)), none]) k101_1 (Nat.le_of_ble_eq_true rfl) rfl ?_
  have e9 : C_holder J c nm = (C_hl c nm (jn J 5 c) 0 J) := rfl
  exact (l_C_hl hB c nm (by omega) (by omega) (jn J 5 c) 0 J hT (by omega) ⟨by rw [e9], rfl⟩)
