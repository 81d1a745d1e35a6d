/-! The class: define, and the public methods but call. -/
theorem j_cpy {d : am_D} {mi pc nx : Nat} {L : am_L} {st : List Value} {h : am_H} {J : Nat → Nat → Int32} {Q : Option Value → am_H → Prop} {q0 q n0 n1 a b c : Nat} (hat : am_at mi pc = some (.dsub, nx)) (hB : am_B h) (hc0 : am_ckA q0 1 n0 = true) (hc1 : am_ckA q 1 n1 = true) (hd : 0 < d.1) (hw : 26 ≤ d.2) (hs : am_sm st) (h0 : a + c ≤ n0) (h1 : b + c ≤ n1) (k : am_wp d mi nx L st (am_si h (am_row J q (va_cpy (J q0) (J q) a b c))) Q) : am_wp d mi pc L (.int (nI c) :: .int (nI b) :: .ref q :: .int (nI a) :: .ref q0 :: st) (am_si h J) Q := by
  have g0 := am_ckA_s (J := J) hB hc0
  have g1 := am_ckA_s (J := J) hB hc1
  have e1 : (nI a).toNatClampNeg = a := nI_clamp (by omega)
  have e2 : (nI b).toNatClampNeg = b := nI_clamp (by omega)
  have e3 : (nI c).toNatClampNeg = c := nI_clamp (by omega)
  refine r_cpy hat ⟨hd, hw, hs, g1.1, g0.1, nI_pos (by omega), nI_pos (by omega), nI_pos (by omega), by rw [e1, e3, g0.2.1]; exact h0, by rw [e2, e3, g1.2.1]; exact h1⟩ ?_
  rw [e1, e2, e3]
  exact k
theorem ty_cpy {J : Nat → Nat → Int32} {a b c : Nat} (hT : am_ty2 J) : am_ty2 (am_row J 4 (va_cpy (J 8) (J 4) a b c)) := by
  refine ⟨fun t ht j => ?_, fun t ht j => ?_, fun t ht => ?_⟩
  · show ∃ n, n < t.2 ∧ (if t.1 = 4 then va_cpy (J 8) (J 4) a b c j else J t.1 j) = nI n
    by_cases e : t.1 = 4
    · rw [if_pos e]
      have g := List.all_eq_true.mp (show am_tn.all (fun t => t.1 != 4 || t.2 == 12) = true by decide) t ht
      simp [e] at g
      rw [g]
      by_cases e2 : b ≤ j ∧ j < b + c
      · rw [pk_cpy_in e2.1 e2.2]; exact hT.1 (8, 12) (by decide) _
      · rw [pk_cpy_out (by omega)]; exact hT.1 (4, 12) (by decide) _
    · rw [if_neg e]; exact hT.1 t ht j
  · show (if t.1 = 4 then va_cpy (J 8) (J 4) a b c j else J t.1 j) = -1 ∨ ∃ n, n < t.2 ∧ (if t.1 = 4 then va_cpy (J 8) (J 4) a b c j else J t.1 j) = nI n
    have g := List.all_eq_true.mp (show am_tm.all (fun t => t.1 != 4) = true by decide) t ht
    have e : ¬ t.1 = 4 := by simpa using g
    rw [if_neg e]; exact hT.2.1 t ht j
  · show ∃ n, n < t.2.2 ∧ (if t.1 = 4 then va_cpy (J 8) (J 4) a b c t.2.1 else J t.1 t.2.1) = nI n
    have g := List.all_eq_true.mp (show am_tf.all (fun t => t.1 != 4) = true by decide) t ht
    have e : ¬ t.1 = 4 := by simpa using g
    rw [if_neg e]; exact hT.2.2 t ht
theorem C_dw_r : ∀ m k J left, k + m = 12 → ∃ n, n < 13 ∧ (C_dw m k J left).1 = nI n := by
  intro m
  induction m with
  | zero =>
    intro k J left hk
    rw [C_dw]
    by_cases z : left = 0
    · rw [am_ite_t z]; exact ⟨k, by omega, rfl⟩
    · rw [am_ite_f z]; exact ⟨k, by omega, rfl⟩
  | succ m ih =>
    intro k J left hk
    rw [C_dw]
    by_cases z : left = 0
    · rw [am_ite_t z]; exact ⟨k, by omega, rfl⟩
    · rw [am_ite_f z]
      by_cases z2 : (C_next J k left) = ((-1))
      · rw [am_ite_t z2]; exact ⟨0, by omega, rfl⟩
      · rw [am_ite_f z2]; exact ih (k + 1) _ _ (by omega)
theorem C_draw_n {J : Nat → Nat → Int32} {c : Nat} : (C_draw J c).1 = nI (jx (C_draw J c).1) ∧ jx (C_draw J c).1 < 13 := by
  obtain ⟨n, h1, h2⟩ : ∃ n, n < 13 ∧ (C_draw J c).1 = nI n := C_dw_r 11 1 _ _ (by omega)
  rw [h2, jx_nI (by omega)]; exact ⟨rfl, h1⟩
theorem C_named_r {J : Nat → Nat → Int32} {c : Nat} {a : Int32} (hc : c < 12) (h : C_named J c a) : a = -1 ∨ ∃ n, n < 12 ∧ a = nI n := by
  unfold C_named at h
  by_cases z1 : a = ((-1))
  · exact Or.inl z1
  · rw [am_ite_f z1] at h
    by_cases z2 : a = (nI c)
    · exact Or.inr ⟨c, hc, z2⟩
    · rw [am_ite_f z2] at h
      by_cases z3 : C_there J a
      · have g := C_there_r z3
        exact Or.inr ⟨_, by omega, g.1⟩
      · rw [am_ite_f z3] at h; exact h.elim
noncomputable def C_ah (c : Nat) : Nat → Nat → (Nat → Nat → Int32) → Int32 × (Nat → Nat → Int32)
  | 0, k, J => (((nI 1), J))
  | m + 1, k, J => (am_ite (C_below J (nI k) c) (am_ite ((jx ((C_draw J k).1)) = 0) (((nI 0), (C_draw J k).2)) (C_ah c m (k + 1) ((C_draw J k).2))) (C_ah c m (k + 1) J))
set_option maxRecDepth 20000 in
theorem l_C_ah {d : am_D} {h : am_H} {Q : Option Value → am_H → Prop} (hB : am_B h) (c : Nat) (hc : c < 12) (hd : 3 ≤ d.1) (hw : 73 ≤ d.2) : ∀ (m k : Nat) (J : Nat → Nat → Int32), am_ty2 J → k + m = 12 → (am_ty2 (C_ah c m k J).2 → Q (some (.int (C_ah c m k J).1)) (am_si h (C_ah c m k J).2)) → am_wp d 89 2 [some (.ref 2), some (.int (nI (c))), some (.int (nI (k)))] [] (am_si h J) Q := by
  intro m
  induction m with
  | zero =>
    intro k J hT hk HQ
    refine r_iload k89_2 rfl ?_
    refine r_pushn (v := nI 12) k89_3 rfl ?_
    refine r_icmpgeN (by omega) (by omega) k89_5 (fun z5 => ?_) (fun z5 => ?_)
    · refine r_pushn (v := nI 1) k89_33 rfl ?_
      have e9 : C_ah c 0 k J = (((nI 1), J)) := by rw [C_ah]
      rw [e9] at HQ
      exact r_zret k89_34 rfl (by decide) (HQ hT)
    · exact absurd z5 (by omega)
  | succ m ih =>
    intro k J hT hk HQ
    refine r_iload k89_2 rfl ?_
    refine r_pushn (v := nI 12) k89_3 rfl ?_
    refine r_icmpgeN (by omega) (by omega) k89_5 (fun z5 => ?_) (fun z5 => ?_)
    · exact absurd z5 (by omega)
    · refine r_aload k89_8 rfl ?_
      refine r_iload k89_9 rfl ?_
      refine r_iload k89_10 rfl ?_
      refine j_call (ml := 3) k89_11 rfl (show 0 < d.1 by omega) (show 19 + 3 ≤ d.2 by omega) ⟨Nat.le_of_ble_eq_true rfl, Nat.le_of_ble_eq_true rfl, am_obB hB rfl, Nat.le_of_ble_eq_true rfl⟩ rfl (rest := []) rfl (s_C_below hB hT (nI k) c (by omega) (show 2 ≤ d.1 - 1 by omega) (show 43 ≤ d.2 - 22 by omega)) (fun r h1 hq => ?_)
      obtain ⟨rfl, rfl⟩ := hq
      show am_wp _ _ _ [some (.ref 2), some (.int (nI (c))), some (.int (nI (k)))] [.int (am_b (C_below J (nI k) c))] _ _
      refine r_ifeqB k89_14 (fun z14 => ?_) (fun z14 => ?_)
      · refine r_iinc (v := (nI (k + 1))) (L' := [some (.ref 2), some (.int (nI (c))), some (.int (nI (k + 1)))]) k89_27 rfl (Nat.le_of_ble_eq_true rfl) (nI_1 _) rfl ?_
        refine r_goto k89_30 ?_
        have e9 : C_ah c (m + 1) k J = C_ah c m (k + 1) J := by rw [C_ah]; rw [am_ite_f z14]
        rw [e9] at HQ
        exact ih (k + 1) J hT (by omega) HQ
      · refine r_aload k89_17 rfl ?_
        refine r_iload k89_18 rfl ?_
        refine j_call (ml := 6) k89_19 rfl (show 0 < d.1 by omega) (show 19 + 6 ≤ d.2 by omega) ⟨Nat.le_of_ble_eq_true rfl, Nat.le_of_ble_eq_true rfl, am_obB hB rfl, Nat.le_of_ble_eq_true rfl⟩ rfl (rest := []) rfl (s_C_draw hB hT k (by omega) (show 2 ≤ d.1 - 1 by omega) (show 48 ≤ d.2 - 25 by omega)) (fun r h1 hq => ?_)
        obtain ⟨rfl, rfl, hT19⟩ := hq
        show am_wp _ _ _ [some (.ref 2), some (.int (nI (c))), some (.int (nI (k)))] [.int ((C_draw J k).1)] _ _
        have b19 := C_draw_n (J := J) (c := k)
        rw [b19.1]
        refine r_ifneN (by omega) k89_22 (fun z22 => ?_) (fun z22 => ?_)
        · refine r_iinc (v := (nI (k + 1))) (L' := [some (.ref 2), some (.int (nI (c))), some (.int (nI (k + 1)))]) k89_27 rfl (Nat.le_of_ble_eq_true rfl) (nI_1 _) rfl ?_
          refine r_goto k89_30 ?_
          have e9 : C_ah c (m + 1) k J = C_ah c m (k + 1) ((C_draw J k).2) := by rw [C_ah]; rw [am_ite_t z14, am_ite_f z22]
          rw [e9] at HQ
          exact ih (k + 1) ((C_draw J k).2) hT19 (by omega) HQ
        · refine r_pushn (v := nI 0) k89_25 rfl ?_
          have e9 : C_ah c (m + 1) k J = (((nI 0), (C_draw J k).2)) := by rw [C_ah]; rw [am_ite_t z14, am_ite_t z22]
          rw [e9] at HQ
          exact r_zret k89_26 rfl (by decide) (HQ hT19)
theorem fl_C_ah {c : Nat} (q : Nat) (hq : ¬ q = 8 ∧ ¬ q = 9) : ∀ (m k : Nat) (J : Nat → Nat → Int32), (C_ah c m k J).2 q = J q := by
  intro m
  induction m with
  | zero =>
    intro k J
    rw [C_ah]
    first | done | exact rfl
  | succ m ih =>
    intro k J
    rw [C_ah]
    refine fr_i2 (fun _ => ?_) (fun _ => ?_)
    · refine fr_i2 (fun _ => ?_) (fun _ => ?_)
      · exact fr_C_draw q (by omega)
      · exact (ih (k + 1) ((C_draw J k).2)).trans (fr_C_draw q (by omega))
    · exact ih (k + 1) J
noncomputable def C_allHave (J : Nat → Nat → Int32) (c : Nat) : Int32 × (Nat → Nat → Int32) := (C_ah c 12 0 J)
set_option maxRecDepth 20000 in
theorem s_C_allHave {d : am_D} {h : am_H} {J : Nat → Nat → Int32} (hB : am_B h) (hT : am_ty2 J) (c : Nat) (hc : c < 12) (hd : 3 ≤ d.1) (hw : 73 ≤ d.2) : am_wp d 89 0 [some (.ref 2), some (.int (nI (c))), none] [] (am_si h J) (fun r h' => r = some (.int (C_allHave J c).1) ∧ h' = am_si h (C_allHave J c).2 ∧ am_ty2 (C_allHave J c).2) := by
  refine r_pushn (v := nI 0) k89_0 rfl ?_
  refine r_istore (L' := [some (.ref 2), some (.int (nI (c))), some (.int (nI 0))]) k89_1 (Nat.le_of_ble_eq_true rfl) rfl ?_
  have e9 : C_allHave J c = (C_ah c 12 0 J) := rfl
  exact (l_C_ah hB c (by omega) hd hw 12 0 J hT (by omega) (fun hT9 => ⟨by rw [e9], by rw [e9], by rw [e9]; exact hT9⟩))
theorem fr_C_allHave {J : Nat → Nat → Int32} {c : Nat} (q : Nat) (hq : ¬ q = 8 ∧ ¬ q = 9) : (C_allHave J c).2 q = J q := by
  unfold C_allHave
  exact fl_C_ah q (by omega) _ _ _
noncomputable def C_rn (c : Nat) : Nat → Nat → (Nat → Nat → Int32) → (Nat → Nat → Int32)
  | 0, k, J => (J)
  | m + 1, k, J => (am_ite (C_below J (nI k) c) (C_rn c m (k + 1) (am_row (am_u2 ((C_draw J k).2) 5 k (nI (jx ((C_draw J k).1)))) 4 (va_cpy ((am_u2 ((C_draw J k).2) 5 k (nI (jx ((C_draw J k).1)))) 8) ((am_u2 ((C_draw J k).2) 5 k (nI (jx ((C_draw J k).1)))) 4) 0 (k * 12) (jx ((C_draw J k).1))))) (C_rn c m (k + 1) J))
set_option maxRecDepth 20000 in
theorem l_C_rn {d : am_D} {h : am_H} {Q : Option Value → am_H → Prop} (hB : am_B h) (c : Nat) (hc : c < 12) (hd : 3 ≤ d.1) (hw : 73 ≤ d.2) : ∀ (m k : Nat) (J : Nat → Nat → Int32), am_ty2 J → k + m = 12 → (am_ty2 (C_rn c m k J) → Q none (am_si h (C_rn c m k J))) → am_wp d 90 2 [some (.ref 2), some (.int (nI (c))), some (.int (nI (k)))] [] (am_si h J) Q := by
  intro m
  induction m with
  | zero =>
    intro k J hT hk HQ
    refine r_iload k90_2 rfl ?_
    refine r_pushn (v := nI 12) k90_3 rfl ?_
    refine r_icmpgeN (by omega) (by omega) k90_5 (fun z5 => ?_) (fun z5 => ?_)
    · have e9 : C_rn c 0 k J = (J) := by rw [C_rn]
      rw [e9] at HQ
      exact r_vret k90_56 rfl (HQ hT)
    · exact absurd z5 (by omega)
  | succ m ih =>
    intro k J hT hk HQ
    refine r_iload k90_2 rfl ?_
    refine r_pushn (v := nI 12) k90_3 rfl ?_
    refine r_icmpgeN (by omega) (by omega) k90_5 (fun z5 => ?_) (fun z5 => ?_)
    · exact absurd z5 (by omega)
    · refine r_aload k90_8 rfl ?_
      refine r_iload k90_9 rfl ?_
      refine r_iload k90_10 rfl ?_
      refine j_call (ml := 3) k90_11 rfl (show 0 < d.1 by omega) (show 19 + 3 ≤ d.2 by omega) ⟨Nat.le_of_ble_eq_true rfl, Nat.le_of_ble_eq_true rfl, am_obB hB rfl, Nat.le_of_ble_eq_true rfl⟩ rfl (rest := []) rfl (s_C_below hB hT (nI k) c (by omega) (show 2 ≤ d.1 - 1 by omega) (show 43 ≤ d.2 - 22 by omega)) (fun r h1 hq => ?_)
      obtain ⟨rfl, rfl⟩ := hq
      show am_wp _ _ _ [some (.ref 2), some (.int (nI (c))), some (.int (nI (k)))] [.int (am_b (C_below J (nI k) c))] _ _
      refine r_ifeqB k90_14 (fun z14 => ?_) (fun z14 => ?_)
      · refine r_iinc (v := (nI (k + 1))) (L' := [some (.ref 2), some (.int (nI (c))), some (.int (nI (k + 1)))]) k90_50 rfl (Nat.le_of_ble_eq_true rfl) (nI_1 _) rfl ?_
        refine r_goto k90_53 ?_
        have e9 : C_rn c (m + 1) k J = C_rn c m (k + 1) J := by rw [C_rn]; rw [am_ite_f z14]
        rw [e9] at HQ
        exact ih (k + 1) J hT (by omega) HQ
      · refine r_aload k90_17 rfl ?_
        refine j_ref (b := 5) k90_18 hB rfl ?_
        refine r_iload k90_21 rfl ?_
        refine r_aload k90_22 rfl ?_
        refine r_iload k90_23 rfl ?_
        refine j_call (ml := 6) k90_24 rfl (show 0 < d.1 by omega) (show 19 + 6 ≤ d.2 by omega) ⟨Nat.le_of_ble_eq_true rfl, Nat.le_of_ble_eq_true rfl, am_obB hB rfl, Nat.le_of_ble_eq_true rfl⟩ rfl (rest := [.int (nI (k)), .ref 5]) rfl (s_C_draw hB hT k (by omega) (show 2 ≤ d.1 - 1 by omega) (show 48 ≤ d.2 - 25 by omega)) (fun r h1 hq => ?_)
        obtain ⟨rfl, rfl, hT24⟩ := hq
        show am_wp _ _ _ [some (.ref 2), some (.int (nI (c))), some (.int (nI (k)))] [.int ((C_draw J k).1), .int (nI (k)), .ref 5] _ _
        have b24 := C_draw_n (J := J) (c := k)
        rw [b24.1]
        refine j_ast (n := 12) (j := k) k90_27 hB rfl rfl (by omega) ?_
        have hT27 : am_ty2 (am_u2 ((C_draw J k).2) 5 k (nI (jx ((C_draw J k).1)))) := ty_w hT24 (tw_n (B := 13) (by decide) (by decide) (by decide) (by omega))
        refine r_aload k90_28 rfl ?_
        refine j_ref (b := 8) k90_29 hB rfl ?_
        refine r_pushn (v := nI 0) k90_32 rfl ?_
        refine r_aload k90_33 rfl ?_
        refine j_ref (b := 4) k90_34 hB rfl ?_
        refine r_iload k90_37 rfl ?_
        refine r_pushn (v := nI 12) k90_38 rfl ?_
        refine r_imulN k90_40 ?_
        refine r_aload k90_41 rfl ?_
        refine j_ref (b := 5) k90_42 hB rfl ?_
        refine r_iload k90_45 rfl ?_
        refine j_ald (n := 12) (j := k) (v := (nI (jx ((C_draw J k).1)))) k90_46 hB rfl rfl (by omega) (am_u2_s (J := (C_draw J k).2) (q := 5) (j := k) (x := (nI (jx ((C_draw J k).1))))) ?_
        refine j_cpy (q0 := 8) (q := 4) (n0 := 12) (n1 := 144) (a := 0) (b := (k * 12)) (c := (jx ((C_draw J k).1))) k90_47 hB rfl rfl (show 0 < d.1 by omega) (show 26 ≤ d.2 by omega) (Nat.le_of_ble_eq_true rfl) (by omega) (by omega) ?_
        have hT47 : am_ty2 (am_row (am_u2 ((C_draw J k).2) 5 k (nI (jx ((C_draw J k).1)))) 4 (va_cpy ((am_u2 ((C_draw J k).2) 5 k (nI (jx ((C_draw J k).1)))) 8) ((am_u2 ((C_draw J k).2) 5 k (nI (jx ((C_draw J k).1)))) 4) 0 (k * 12) (jx ((C_draw J k).1)))) := ty_cpy hT27
        refine r_iinc (v := (nI (k + 1))) (L' := [some (.ref 2), some (.int (nI (c))), some (.int (nI (k + 1)))]) k90_50 rfl (Nat.le_of_ble_eq_true rfl) (nI_1 _) rfl ?_
        refine r_goto k90_53 ?_
        have e9 : C_rn c (m + 1) k J = C_rn c m (k + 1) (am_row (am_u2 ((C_draw J k).2) 5 k (nI (jx ((C_draw J k).1)))) 4 (va_cpy ((am_u2 ((C_draw J k).2) 5 k (nI (jx ((C_draw J k).1)))) 8) ((am_u2 ((C_draw J k).2) 5 k (nI (jx ((C_draw J k).1)))) 4) 0 (k * 12) (jx ((C_draw J k).1)))) := by rw [C_rn]; rw [am_ite_t z14]
        rw [e9] at HQ
        exact ih (k + 1) (am_row (am_u2 ((C_draw J k).2) 5 k (nI (jx ((C_draw J k).1)))) 4 (va_cpy ((am_u2 ((C_draw J k).2) 5 k (nI (jx ((C_draw J k).1)))) 8) ((am_u2 ((C_draw J k).2) 5 k (nI (jx ((C_draw J k).1)))) 4) 0 (k * 12) (jx ((C_draw J k).1)))) hT47 (by omega) HQ
theorem fl_C_rn {c : Nat} (q : Nat) (hq : ¬ q = 4 ∧ ¬ q = 5 ∧ ¬ q = 8 ∧ ¬ q = 9) : ∀ (m k : Nat) (J : Nat → Nat → Int32), (C_rn c m k J) q = J q := by
  intro m
  induction m with
  | zero =>
    intro k J
    rw [C_rn]
    first | done | exact rfl
  | succ m ih =>
    intro k J
    rw [C_rn]
    refine fr_i0 (fun _ => ?_) (fun _ => ?_)
    · exact (ih (k + 1) (am_row (am_u2 ((C_draw J k).2) 5 k (nI (jx ((C_draw J k).1)))) 4 (va_cpy ((am_u2 ((C_draw J k).2) 5 k (nI (jx ((C_draw J k).1)))) 8) ((am_u2 ((C_draw J k).2) 5 k (nI (jx ((C_draw J k).1)))) 4) 0 (k * 12) (jx ((C_draw J k).1))))).trans ((fr_r (by omega)).trans ((fr_u (by omega)).trans (fr_C_draw q (by omega))))
    · exact ih (k + 1) J
noncomputable def C_renew (J : Nat → Nat → Int32) (c : Nat) : (Nat → Nat → Int32) := (C_rn c 12 0 J)
set_option maxRecDepth 20000 in
theorem s_C_renew {d : am_D} {h : am_H} {J : Nat → Nat → Int32} (hB : am_B h) (hT : am_ty2 J) (c : Nat) (hc : c < 12) (hd : 3 ≤ d.1) (hw : 73 ≤ d.2) : am_wp d 90 0 [some (.ref 2), some (.int (nI (c))), none] [] (am_si h J) (fun r h' => r = none ∧ h' = am_si h (C_renew J c) ∧ am_ty2 (C_renew J c)) := by
  refine r_pushn (v := nI 0) k90_0 rfl ?_
  refine r_istore (L' := [some (.ref 2), some (.int (nI (c))), some (.int (nI 0))]) k90_1 (Nat.le_of_ble_eq_true rfl) rfl ?_
  have e9 : C_renew J c = (C_rn c 12 0 J) := rfl
  exact (l_C_rn hB c (by omega) hd hw 12 0 J hT (by omega) (fun hT9 => ⟨rfl, by rw [e9], by rw [e9]; exact hT9⟩))
theorem fr_C_renew {J : Nat → Nat → Int32} {c : Nat} (q : Nat) (hq : ¬ q = 4 ∧ ¬ q = 5 ∧ ¬ q = 8 ∧ ¬ q = 9) : (C_renew J c) q = J q := by
  unfold C_renew
  exact fl_C_rn q (by omega) _ _ _
noncomputable def C_settle (J : Nat → Nat → Int32) (c : Nat) (s : Int32) (t : Int32) (u : Int32) : Int32 × (Nat → Nat → Int32) := (am_ite (C_named J c s) (am_ite (C_named J c t) (am_ite (C_named J c u) (am_ite (C_below J s c) ((((-4)), J)) (am_ite (C_below J t c) ((((-4)), J)) (am_ite (C_below J u c) ((((-4)), J)) (am_ite (((C_allHave (C_setSup J c s t u) c).1) = 0) ((((-5)), C_setSup ((C_allHave (C_setSup J c s t u) c).2) c (J 3 (c * 3)) (J 3 ((c * 3) + 1)) (J 3 ((c * 3) + 2)))) (am_ite ((jn ((C_allHave (C_setSup J c s t u) c).2) 5 c) = 0) (((nI (jn (C_renew (am_u2 ((C_allHave (C_setSup J c s t u) c).2) 2 5 ((((C_allHave (C_setSup J c s t u) c).2) 2 5) + (nI 1))) c) 5 c)), C_renew (am_u2 ((C_allHave (C_setSup J c s t u) c).2) 2 5 ((((C_allHave (C_setSup J c s t u) c).2) 2 5) + (nI 1))) c)) (((nI (jn (C_renew ((C_allHave (C_setSup J c s t u) c).2) c) 5 c)), C_renew ((C_allHave (C_setSup J c s t u) c).2) c))))))) ((((-2)), J))) ((((-2)), J))) ((((-2)), J)))
set_option maxRecDepth 20000 in
theorem s_C_settle {d : am_D} {h : am_H} {J : Nat → Nat → Int32} (hB : am_B h) (hT : am_ty2 J) (c : Nat) (s : Int32) (t : Int32) (u : Int32) (hc : c < 12) (hd : 4 ≤ d.1) (hw : 95 ≤ d.2) : am_wp d 86 0 [some (.ref 2), some (.int (nI (c))), some (.int (s)), some (.int (t)), some (.int (u)), none, none, none] [] (am_si h J) (fun r h' => r = some (.int (C_settle J c s t u).1) ∧ h' = am_si h (C_settle J c s t u).2 ∧ am_ty2 (C_settle J c s t u).2) := by
  refine r_aload k86_0 rfl ?_
  refine r_iload k86_1 rfl ?_
  refine r_iload k86_2 rfl ?_
  refine j_call (ml := 3) k86_3 rfl (show 0 < d.1 by omega) (show 19 + 3 ≤ d.2 by omega) ⟨Nat.le_of_ble_eq_true rfl, Nat.le_of_ble_eq_true rfl, am_obB hB rfl, Nat.le_of_ble_eq_true rfl⟩ rfl (rest := []) rfl (s_C_named hB hT c s (by omega) (show 2 ≤ d.1 - 1 by omega) (show 43 ≤ d.2 - 22 by omega)) (fun r h1 hq => ?_)
  obtain ⟨rfl, rfl⟩ := hq
  show am_wp _ _ _ [some (.ref 2), some (.int (nI (c))), some (.int (s)), some (.int (t)), some (.int (u)), none, none, none] [.int (am_b (C_named J c s))] _ _
  refine r_ifeqB k86_6 (fun z6 => ?_) (fun z6 => ?_)
  · refine r_pushn (v := (-2)) k86_28 rfl ?_
    have e9 : C_settle J c s t u = ((((-2)), J)) := by unfold C_settle; rw [am_ite_f z6]
    exact r_iret k86_30 rfl ⟨by rw [e9], by rw [e9], by rw [e9]; exact hT⟩
  · refine r_aload k86_9 rfl ?_
    refine r_iload k86_10 rfl ?_
    refine r_iload k86_11 rfl ?_
    refine j_call (ml := 3) k86_12 rfl (show 0 < d.1 by omega) (show 19 + 3 ≤ d.2 by omega) ⟨Nat.le_of_ble_eq_true rfl, Nat.le_of_ble_eq_true rfl, am_obB hB rfl, Nat.le_of_ble_eq_true rfl⟩ rfl (rest := []) rfl (s_C_named hB hT c t (by omega) (show 2 ≤ d.1 - 1 by omega) (show 43 ≤ d.2 - 22 by omega)) (fun r h1 hq => ?_)
    obtain ⟨rfl, rfl⟩ := hq
    show am_wp _ _ _ [some (.ref 2), some (.int (nI (c))), some (.int (s)), some (.int (t)), some (.int (u)), none, none, none] [.int (am_b (C_named J c t))] _ _
    refine r_ifeqB k86_15 (fun z15 => ?_) (fun z15 => ?_)
    · refine r_pushn (v := (-2)) k86_28 rfl ?_
      have e9 : C_settle J c s t u = ((((-2)), J)) := by unfold C_settle; rw [am_ite_t z6, am_ite_f z15]
      exact r_iret k86_30 rfl ⟨by rw [e9], by rw [e9], by rw [e9]; exact hT⟩
    · refine r_aload k86_18 rfl ?_
      refine r_iload k86_19 rfl ?_
      refine r_iload k86_20 rfl ?_
      refine j_call (ml := 3) k86_22 rfl (show 0 < d.1 by omega) (show 19 + 3 ≤ d.2 by omega) ⟨Nat.le_of_ble_eq_true rfl, Nat.le_of_ble_eq_true rfl, am_obB hB rfl, Nat.le_of_ble_eq_true rfl⟩ rfl (rest := []) rfl (s_C_named hB hT c u (by omega) (show 2 ≤ d.1 - 1 by omega) (show 43 ≤ d.2 - 22 by omega)) (fun r h1 hq => ?_)
      obtain ⟨rfl, rfl⟩ := hq
      show am_wp _ _ _ [some (.ref 2), some (.int (nI (c))), some (.int (s)), some (.int (t)), some (.int (u)), none, none, none] [.int (am_b (C_named J c u))] _ _
      refine r_ifneB k86_25 (fun z25 => ?_) (fun z25 => ?_)
      · refine r_aload k86_31 rfl ?_
        refine r_iload k86_32 rfl ?_
        refine r_iload k86_33 rfl ?_
        refine j_call (ml := 3) k86_34 rfl (show 0 < d.1 by omega) (show 19 + 3 ≤ d.2 by omega) ⟨Nat.le_of_ble_eq_true rfl, Nat.le_of_ble_eq_true rfl, am_obB hB rfl, Nat.le_of_ble_eq_true rfl⟩ rfl (rest := []) rfl (s_C_below hB hT s c (by omega) (show 2 ≤ d.1 - 1 by omega) (show 43 ≤ d.2 - 22 by omega)) (fun r h1 hq => ?_)
        obtain ⟨rfl, rfl⟩ := hq
        show am_wp _ _ _ [some (.ref 2), some (.int (nI (c))), some (.int (s)), some (.int (t)), some (.int (u)), none, none, none] [.int (am_b (C_below J s c))] _ _
        refine r_ifneB k86_37 (fun z37 => ?_) (fun z37 => ?_)
        · refine r_pushn (v := (-4)) k86_59 rfl ?_
          have e9 : C_settle J c s t u = ((((-4)), J)) := by unfold C_settle; rw [am_ite_t z6, am_ite_t z15, am_ite_t z25, am_ite_t z37]
          exact r_iret k86_61 rfl ⟨by rw [e9], by rw [e9], by rw [e9]; exact hT⟩
        · refine r_aload k86_40 rfl ?_
          refine r_iload k86_41 rfl ?_
          refine r_iload k86_42 rfl ?_
          refine j_call (ml := 3) k86_43 rfl (show 0 < d.1 by omega) (show 19 + 3 ≤ d.2 by omega) ⟨Nat.le_of_ble_eq_true rfl, Nat.le_of_ble_eq_true rfl, am_obB hB rfl, Nat.le_of_ble_eq_true rfl⟩ rfl (rest := []) rfl (s_C_below hB hT t c (by omega) (show 2 ≤ d.1 - 1 by omega) (show 43 ≤ d.2 - 22 by omega)) (fun r h1 hq => ?_)
          obtain ⟨rfl, rfl⟩ := hq
          show am_wp _ _ _ [some (.ref 2), some (.int (nI (c))), some (.int (s)), some (.int (t)), some (.int (u)), none, none, none] [.int (am_b (C_below J t c))] _ _
          refine r_ifneB k86_46 (fun z46 => ?_) (fun z46 => ?_)
          · refine r_pushn (v := (-4)) k86_59 rfl ?_
            have e9 : C_settle J c s t u = ((((-4)), J)) := by unfold C_settle; rw [am_ite_t z6, am_ite_t z15, am_ite_t z25, am_ite_f z37, am_ite_t z46]
            exact r_iret k86_61 rfl ⟨by rw [e9], by rw [e9], by rw [e9]; exact hT⟩
          · refine r_aload k86_49 rfl ?_
            refine r_iload k86_50 rfl ?_
            refine r_iload k86_52 rfl ?_
            refine j_call (ml := 3) k86_53 rfl (show 0 < d.1 by omega) (show 19 + 3 ≤ d.2 by omega) ⟨Nat.le_of_ble_eq_true rfl, Nat.le_of_ble_eq_true rfl, am_obB hB rfl, Nat.le_of_ble_eq_true rfl⟩ rfl (rest := []) rfl (s_C_below hB hT u c (by omega) (show 2 ≤ d.1 - 1 by omega) (show 43 ≤ d.2 - 22 by omega)) (fun r h1 hq => ?_)
            obtain ⟨rfl, rfl⟩ := hq
            show am_wp _ _ _ [some (.ref 2), some (.int (nI (c))), some (.int (s)), some (.int (t)), some (.int (u)), none, none, none] [.int (am_b (C_below J u c))] _ _
            refine r_ifeqB k86_56 (fun z56 => ?_) (fun z56 => ?_)
            · refine r_aload k86_62 rfl ?_
              refine j_ref (b := 3) k86_63 hB rfl ?_
              refine r_iload k86_66 rfl ?_
              refine r_pushn (v := nI 3) k86_67 rfl ?_
              refine r_imulN k86_68 ?_
              refine j_ald (n := 36) (j := (c * 3)) (v := (J 3 (c * 3))) k86_69 hB rfl rfl (by omega) rfl ?_
              refine r_istore (L' := [some (.ref 2), some (.int (nI (c))), some (.int (s)), some (.int (t)), some (.int (u)), some (.int (J 3 (c * 3))), none, none]) k86_70 (Nat.le_of_ble_eq_true rfl) rfl ?_
              refine r_aload k86_72 rfl ?_
              refine j_ref (b := 3) k86_73 hB rfl ?_
              refine r_iload k86_76 rfl ?_
              refine r_pushn (v := nI 3) k86_77 rfl ?_
              refine r_imulN k86_78 ?_
              refine r_pushn (v := nI 1) k86_79 rfl ?_
              refine r_iaddN k86_80 ?_
              refine j_ald (n := 36) (j := ((c * 3) + 1)) (v := (J 3 ((c * 3) + 1))) k86_81 hB rfl rfl (by omega) rfl ?_
              refine r_istore (L' := [some (.ref 2), some (.int (nI (c))), some (.int (s)), some (.int (t)), some (.int (u)), some (.int (J 3 (c * 3))), some (.int (J 3 ((c * 3) + 1))), none]) k86_82 (Nat.le_of_ble_eq_true rfl) rfl ?_
              refine r_aload k86_84 rfl ?_
              refine j_ref (b := 3) k86_85 hB rfl ?_
              refine r_iload k86_88 rfl ?_
              refine r_pushn (v := nI 3) k86_89 rfl ?_
              refine r_imulN k86_90 ?_
              refine r_pushn (v := nI 2) k86_91 rfl ?_
              refine r_iaddN k86_92 ?_
              refine j_ald (n := 36) (j := ((c * 3) + 2)) (v := (J 3 ((c * 3) + 2))) k86_93 hB rfl rfl (by omega) rfl ?_
              refine r_istore (L' := [some (.ref 2), some (.int (nI (c))), some (.int (s)), some (.int (t)), some (.int (u)), some (.int (J 3 (c * 3))), some (.int (J 3 ((c * 3) + 1))), some (.int (J 3 ((c * 3) + 2)))]) k86_94 (Nat.le_of_ble_eq_true rfl) rfl ?_
              refine r_aload k86_96 rfl ?_
              refine r_iload k86_97 rfl ?_
              refine r_iload k86_98 rfl ?_
              refine r_iload k86_99 rfl ?_
              refine r_iload k86_100 rfl ?_
              refine j_call (ml := 5) k86_102 rfl (show 0 < d.1 by omega) (show 19 + 5 ≤ d.2 by omega) ⟨Nat.le_of_ble_eq_true rfl, Nat.le_of_ble_eq_true rfl, am_obB hB rfl, Nat.le_of_ble_eq_true rfl⟩ rfl (rest := []) rfl (s_C_setSup hB hT c s t u (by omega) (C_named_r (by omega) z6) (C_named_r (by omega) z15) (C_named_r (by omega) z25)) (fun r h1 hq => ?_)
              obtain ⟨rfl, rfl, hT102⟩ := hq
              show am_wp _ _ _ [some (.ref 2), some (.int (nI (c))), some (.int (s)), some (.int (t)), some (.int (u)), some (.int (J 3 (c * 3))), some (.int (J 3 ((c * 3) + 1))), some (.int (J 3 ((c * 3) + 2)))] [] _ _
              refine r_aload k86_105 rfl ?_
              refine r_iload k86_106 rfl ?_
              refine j_call (ml := 3) k86_107 rfl (show 0 < d.1 by omega) (show 19 + 3 ≤ d.2 by omega) ⟨Nat.le_of_ble_eq_true rfl, Nat.le_of_ble_eq_true rfl, am_obB hB rfl, Nat.le_of_ble_eq_true rfl⟩ rfl (rest := []) rfl (s_C_allHave hB hT102 c (by omega) (show 3 ≤ d.1 - 1 by omega) (show 73 ≤ d.2 - 22 by omega)) (fun r h1 hq => ?_)
              obtain ⟨rfl, rfl, hT107⟩ := hq
              show am_wp _ _ _ [some (.ref 2), some (.int (nI (c))), some (.int (s)), some (.int (t)), some (.int (u)), some (.int (J 3 (c * 3))), some (.int (J 3 ((c * 3) + 1))), some (.int (J 3 ((c * 3) + 2)))] [.int ((C_allHave (C_setSup J c s t u) c).1)] _ _
              refine r_ifne k86_110 (fun z110 => ?_) (fun z110 => ?_)
              · refine r_aload k86_127 rfl ?_
                refine j_ref (b := 5) k86_128 hB rfl ?_
                refine r_iload k86_131 rfl ?_
                have b132 := ty_n hT107 (q := 5) (B := 13) (by decide) (by decide) c
                refine j_ald (n := 12) (j := c) (v := (nI (jn ((C_allHave (C_setSup J c s t u) c).2) 5 c))) k86_132 hB rfl rfl (by omega) b132.1 ?_
                refine r_ifneN (by omega) k86_133 (fun z133 => ?_) (fun z133 => ?_)
                · refine r_aload k86_146 rfl ?_
                  refine r_iload k86_147 rfl ?_
                  refine j_call (ml := 3) k86_148 rfl (show 0 < d.1 by omega) (show 19 + 3 ≤ d.2 by omega) ⟨Nat.le_of_ble_eq_true rfl, Nat.le_of_ble_eq_true rfl, am_obB hB rfl, Nat.le_of_ble_eq_true rfl⟩ rfl (rest := []) rfl (s_C_renew hB hT107 c (by omega) (show 3 ≤ d.1 - 1 by omega) (show 73 ≤ d.2 - 22 by omega)) (fun r h1 hq => ?_)
                  obtain ⟨rfl, rfl, hT148⟩ := hq
                  show am_wp _ _ _ [some (.ref 2), some (.int (nI (c))), some (.int (s)), some (.int (t)), some (.int (u)), some (.int (J 3 (c * 3))), some (.int (J 3 ((c * 3) + 1))), some (.int (J 3 ((c * 3) + 2)))] [] _ _
                  refine r_aload k86_151 rfl ?_
                  refine j_ref (b := 5) k86_152 hB rfl ?_
                  refine r_iload k86_155 rfl ?_
                  have b156 := ty_n hT148 (q := 5) (B := 13) (by decide) (by decide) c
                  refine j_ald (n := 12) (j := c) (v := (nI (jn (C_renew ((C_allHave (C_setSup J c s t u) c).2) c) 5 c))) k86_156 hB rfl rfl (by omega) b156.1 ?_
                  have e9 : C_settle J c s t u = (((nI (jn (C_renew ((C_allHave (C_setSup J c s t u) c).2) c) 5 c)), C_renew ((C_allHave (C_setSup J c s t u) c).2) c)) := by unfold C_settle; rw [am_ite_t z6, am_ite_t z15, am_ite_t z25, am_ite_f z37, am_ite_f z46, am_ite_f z56, am_ite_f z110, am_ite_f z133]
                  exact r_iret k86_157 rfl ⟨by rw [e9], by rw [e9], by rw [e9]; exact hT148⟩
                · refine r_aload k86_136 rfl ?_
                  refine r_dup rfl k86_137 ?_
                  refine j_get (j := 5) (v := (((C_allHave (C_setSup J c s t u) c).2) 2 5)) k86_138 hB rfl rfl ?_
                  refine r_pushn (v := nI 1) k86_141 rfl ?_
                  refine r_iadd k86_142 ?_
                  refine j_put (j := 5) k86_143 hB rfl rfl ?_
                  have hT143 : am_ty2 (am_u2 ((C_allHave (C_setSup J c s t u) c).2) 2 5 ((((C_allHave (C_setSup J c s t u) c).2) 2 5) + (nI 1))) := ty_w hT107 (tw_u (by decide) (by decide) (by decide))
                  refine r_aload k86_146 rfl ?_
                  refine r_iload k86_147 rfl ?_
                  refine j_call (ml := 3) k86_148 rfl (show 0 < d.1 by omega) (show 19 + 3 ≤ d.2 by omega) ⟨Nat.le_of_ble_eq_true rfl, Nat.le_of_ble_eq_true rfl, am_obB hB rfl, Nat.le_of_ble_eq_true rfl⟩ rfl (rest := []) rfl (s_C_renew hB hT143 c (by omega) (show 3 ≤ d.1 - 1 by omega) (show 73 ≤ d.2 - 22 by omega)) (fun r h1 hq => ?_)
                  obtain ⟨rfl, rfl, hT148⟩ := hq
                  show am_wp _ _ _ [some (.ref 2), some (.int (nI (c))), some (.int (s)), some (.int (t)), some (.int (u)), some (.int (J 3 (c * 3))), some (.int (J 3 ((c * 3) + 1))), some (.int (J 3 ((c * 3) + 2)))] [] _ _
                  refine r_aload k86_151 rfl ?_
                  refine j_ref (b := 5) k86_152 hB rfl ?_
                  refine r_iload k86_155 rfl ?_
                  have b156 := ty_n hT148 (q := 5) (B := 13) (by decide) (by decide) c
                  refine j_ald (n := 12) (j := c) (v := (nI (jn (C_renew (am_u2 ((C_allHave (C_setSup J c s t u) c).2) 2 5 ((((C_allHave (C_setSup J c s t u) c).2) 2 5) + (nI 1))) c) 5 c))) k86_156 hB rfl rfl (by omega) b156.1 ?_
                  have e9 : C_settle J c s t u = (((nI (jn (C_renew (am_u2 ((C_allHave (C_setSup J c s t u) c).2) 2 5 ((((C_allHave (C_setSup J c s t u) c).2) 2 5) + (nI 1))) c) 5 c)), C_renew (am_u2 ((C_allHave (C_setSup J c s t u) c).2) 2 5 ((((C_allHave (C_setSup J c s t u) c).2) 2 5) + (nI 1))) c)) := by unfold C_settle; rw [am_ite_t z6, am_ite_t z15, am_ite_t z25, am_ite_f z37, am_ite_f z46, am_ite_f z56, am_ite_f z110, am_ite_t z133]
                  exact r_iret k86_157 rfl ⟨by rw [e9], by rw [e9], by rw [e9]; exact hT148⟩
              · refine r_aload k86_113 rfl ?_
                refine r_iload k86_114 rfl ?_
                refine r_iload k86_115 rfl ?_
                refine r_iload k86_117 rfl ?_
                refine r_iload k86_119 rfl ?_
                refine j_call (ml := 5) k86_121 rfl (show 0 < d.1 by omega) (show 19 + 5 ≤ d.2 by omega) ⟨Nat.le_of_ble_eq_true rfl, Nat.le_of_ble_eq_true rfl, am_obB hB rfl, Nat.le_of_ble_eq_true rfl⟩ rfl (rest := []) rfl (s_C_setSup hB hT107 c (J 3 (c * 3)) (J 3 ((c * 3) + 1)) (J 3 ((c * 3) + 2)) (by omega) (hT.2.1 (3, 12) (by decide) _) (hT.2.1 (3, 12) (by decide) _) (hT.2.1 (3, 12) (by decide) _)) (fun r h1 hq => ?_)
                obtain ⟨rfl, rfl, hT121⟩ := hq
                show am_wp _ _ _ [some (.ref 2), some (.int (nI (c))), some (.int (s)), some (.int (t)), some (.int (u)), some (.int (J 3 (c * 3))), some (.int (J 3 ((c * 3) + 1))), some (.int (J 3 ((c * 3) + 2)))] [] _ _
                refine r_pushn (v := (-5)) k86_124 rfl ?_
                have e9 : C_settle J c s t u = ((((-5)), C_setSup ((C_allHave (C_setSup J c s t u) c).2) c (J 3 (c * 3)) (J 3 ((c * 3) + 1)) (J 3 ((c * 3) + 2)))) := by unfold C_settle; rw [am_ite_t z6, am_ite_t z15, am_ite_t z25, am_ite_f z37, am_ite_f z46, am_ite_f z56, am_ite_t z110]
                exact r_iret k86_126 rfl ⟨by rw [e9], by rw [e9], by rw [e9]; exact hT121⟩
            · refine r_pushn (v := (-4)) k86_59 rfl ?_
              have e9 : C_settle J c s t u = ((((-4)), J)) := by unfold C_settle; rw [am_ite_t z6, am_ite_t z15, am_ite_t z25, am_ite_f z37, am_ite_f z46, am_ite_t z56]
              exact r_iret k86_61 rfl ⟨by rw [e9], by rw [e9], by rw [e9]; exact hT⟩
      · refine r_pushn (v := (-2)) k86_28 rfl ?_
        have e9 : C_settle J c s t u = ((((-2)), J)) := by unfold C_settle; rw [am_ite_t z6, am_ite_t z15, am_ite_f z25]
        exact r_iret k86_30 rfl ⟨by rw [e9], by rw [e9], by rw [e9]; exact hT⟩
theorem fr_C_settle {J : Nat → Nat → Int32} {c : Nat} {s : Int32} {t : Int32} {u : Int32} (q : Nat) (hq : ¬ q = 2 ∧ ¬ q = 3 ∧ ¬ q = 4 ∧ ¬ q = 5 ∧ ¬ q = 8 ∧ ¬ q = 9) : (C_settle J c s t u).2 q = J q := by
  unfold C_settle
  refine fr_i2 (fun _ => ?_) (fun _ => ?_)
  · refine fr_i2 (fun _ => ?_) (fun _ => ?_)
    · refine fr_i2 (fun _ => ?_) (fun _ => ?_)
      · refine fr_i2 (fun _ => ?_) (fun _ => ?_)
        · exact rfl
        · refine fr_i2 (fun _ => ?_) (fun _ => ?_)
          · exact rfl
          · refine fr_i2 (fun _ => ?_) (fun _ => ?_)
            · exact rfl
            · refine fr_i2 (fun _ => ?_) (fun _ => ?_)
              · exact (fr_C_setSup q (by omega)).trans ((fr_C_allHave q (by omega)).trans (fr_C_setSup q (by omega)))
              · refine fr_i2 (fun _ => ?_) (fun _ => ?_)
                · exact (fr_C_renew q (by omega)).trans ((fr_u (by omega)).trans ((fr_C_allHave q (by omega)).trans (fr_C_setSup q (by omega))))
                · exact (fr_C_renew q (by omega)).trans ((fr_C_allHave q (by omega)).trans (fr_C_setSup q (by omega)))
      · exact rfl
    · exact rfl
  · exact rfl
noncomputable def K_found (J : Nat → Nat → Int32) : Int32 := (((J 22 7)))
set_option maxRecDepth 20000 in
theorem s_K_found {d : am_D} {h : am_H} {J : Nat → Nat → Int32} (hB : am_B h) (hT : am_ty2 J) : am_wp d 130 0 [some (.ref 22)] [] (am_si h J) (fun r h' => r = some (.int (K_found J)) ∧ h' = (am_si h J)) := by
  refine r_aload k130_0 rfl ?_
  refine j_get (j := 7) (v := (J 22 7)) k130_1 hB rfl rfl ?_
  have e9 : K_found J = (((J 22 7))) := rfl
  exact r_iret k130_4 rfl ⟨by rw [e9], rfl⟩
noncomputable def K_forget (J : Nat → Nat → Int32) (g : Nat) : (Nat → Nat → Int32) := (am_u2 (am_u2 J 24 g ((J 24 g) + (nI 1))) 25 g (nI 0))
set_option maxRecDepth 20000 in
theorem s_K_forget {d : am_D} {h : am_H} {J : Nat → Nat → Int32} (hB : am_B h) (hT : am_ty2 J) (g : Nat) (hg : g < 5) : am_wp d 132 0 [some (.ref 22), some (.int (nI (g)))] [] (am_si h J) (fun r h' => r = none ∧ h' = am_si h (K_forget J g) ∧ am_ty2 (K_forget J g)) := by
  refine r_aload k132_0 rfl ?_
  refine j_ref (b := 24) k132_1 hB rfl ?_
  refine r_iload k132_4 rfl ?_
  refine r_dup2 rfl rfl k132_5 ?_
  refine j_ald (n := 5) (j := g) (v := (J 24 g)) k132_6 hB rfl rfl (by omega) rfl ?_
  refine r_pushn (v := nI 1) k132_7 rfl ?_
  refine r_iadd k132_8 ?_
  refine j_ast (n := 5) (j := g) k132_9 hB rfl rfl (by omega) ?_
  have hT9 : am_ty2 (am_u2 J 24 g ((J 24 g) + (nI 1))) := ty_w hT (tw_a (by decide) (by decide) (by decide))
  refine r_aload k132_10 rfl ?_
  refine j_ref (b := 25) k132_11 hB rfl ?_
  refine r_iload k132_14 rfl ?_
  refine r_pushn (v := nI 0) k132_15 rfl ?_
  refine j_ast (n := 5) (j := g) k132_16 hB rfl rfl (by omega) ?_
  have hT16 : am_ty2 (am_u2 (am_u2 J 24 g ((J 24 g) + (nI 1))) 25 g (nI 0)) := ty_w hT9 (tw_a (by decide) (by decide) (by decide))
  have e9 : K_forget J g = (am_u2 (am_u2 J 24 g ((J 24 g) + (nI 1))) 25 g (nI 0)) := rfl
  exact r_vret k132_17 rfl ⟨rfl, by rw [e9], by rw [e9]; exact hT16⟩
theorem fr_K_forget {J : Nat → Nat → Int32} {g : Nat} (q : Nat) (hq : ¬ q = 24 ∧ ¬ q = 25) : (K_forget J g) q = J q := by
  unfold K_forget
  exact (fr_u (by omega)).trans (fr_u (by omega))
noncomputable def K_fa : Nat → Nat → (Nat → Nat → Int32) → (Nat → Nat → Int32)
  | 0, k, J => (J)
  | m + 1, k, J => (K_fa m (k + 1) (K_forget J k))
set_option maxRecDepth 20000 in
theorem l_K_fa {d : am_D} {h : am_H} {Q : Option Value → am_H → Prop} (hB : am_B h) (hd : 1 ≤ d.1) (hw : 21 ≤ d.2) : ∀ (m k : Nat) (J : Nat → Nat → Int32), am_ty2 J → k + m = 5 → (am_ty2 (K_fa m k J) → Q none (am_si h (K_fa m k J))) → am_wp d 133 2 [some (.ref 22), some (.int (nI (k)))] [] (am_si h J) Q := by
  intro m
  induction m with
  | zero =>
    intro k J hT hk HQ
    refine r_iload k133_2 rfl ?_
    refine r_pushn (v := nI 5) k133_3 rfl ?_
    refine r_icmpgeN (by omega) (by omega) k133_4 (fun z4 => ?_) (fun z4 => ?_)
    · have e9 : K_fa 0 k J = (J) := by rw [K_fa]
      rw [e9] at HQ
      exact r_vret k133_18 rfl (HQ hT)
    · exact absurd z4 (by omega)
  | succ m ih =>
    intro k J hT hk HQ
    refine r_iload k133_2 rfl ?_
    refine r_pushn (v := nI 5) k133_3 rfl ?_
    refine r_icmpgeN (by omega) (by omega) k133_4 (fun z4 => ?_) (fun z4 => ?_)
    · exact absurd z4 (by omega)
    · refine r_aload k133_7 rfl ?_
      refine r_iload k133_8 rfl ?_
      refine j_call (ml := 2) k133_9 rfl (show 0 < d.1 by omega) (show 19 + 2 ≤ d.2 by omega) ⟨Nat.le_of_ble_eq_true rfl, Nat.le_of_ble_eq_true rfl, am_obB hB rfl, Nat.le_of_ble_eq_true rfl⟩ rfl (rest := []) rfl (s_K_forget hB hT k (by omega)) (fun r h1 hq => ?_)
      obtain ⟨rfl, rfl, hT9⟩ := hq
      show am_wp _ _ _ [some (.ref 22), some (.int (nI (k)))] [] _ _
      refine r_iinc (v := (nI (k + 1))) (L' := [some (.ref 22), some (.int (nI (k + 1)))]) k133_12 rfl (Nat.le_of_ble_eq_true rfl) (nI_1 _) rfl ?_
      refine r_goto k133_15 ?_
      have e9 : K_fa (m + 1) k J = K_fa m (k + 1) (K_forget J k) := by rw [K_fa]
      rw [e9] at HQ
      exact ih (k + 1) (K_forget J k) hT9 (by omega) HQ
theorem fl_K_fa (q : Nat) (hq : ¬ q = 24 ∧ ¬ q = 25) : ∀ (m k : Nat) (J : Nat → Nat → Int32), (K_fa m k J) q = J q := by
  intro m
  induction m with
  | zero =>
    intro k J
    rw [K_fa]
    first | done | exact rfl
  | succ m ih =>
    intro k J
    rw [K_fa]
    first | done | exact (ih (k + 1) (K_forget J k)).trans (fr_K_forget q (by omega))
noncomputable def K_forgetAll (J : Nat → Nat → Int32) : (Nat → Nat → Int32) := (K_fa 5 0 J)
set_option maxRecDepth 20000 in
theorem s_K_forgetAll {d : am_D} {h : am_H} {J : Nat → Nat → Int32} (hB : am_B h) (hT : am_ty2 J) (hd : 1 ≤ d.1) (hw : 21 ≤ d.2) : am_wp d 133 0 [some (.ref 22), none] [] (am_si h J) (fun r h' => r = none ∧ h' = am_si h (K_forgetAll J) ∧ am_ty2 (K_forgetAll J)) := by
  refine r_pushn (v := nI 0) k133_0 rfl ?_
  refine r_istore (L' := [some (.ref 22), some (.int (nI 0))]) k133_1 (Nat.le_of_ble_eq_true rfl) rfl ?_
  have e9 : K_forgetAll J = (K_fa 5 0 J) := rfl
  exact (l_K_fa hB hd hw 5 0 J hT (by omega) (fun hT9 => ⟨rfl, by rw [e9], by rw [e9]; exact hT9⟩))
theorem fr_K_forgetAll {J : Nat → Nat → Int32} (q : Nat) (hq : ¬ q = 24 ∧ ¬ q = 25) : (K_forgetAll J) q = J q := by
  unfold K_forgetAll
  exact fl_K_fa q (by omega) _ _ _
noncomputable def K_tl : Nat → Nat → (Nat → Nat → Int32) → Int32 → Int32
  | 0, k, J, w => ((w))
  | m + 1, k, J, w => (K_tl m (k + 1) J (w + (J 25 k)))
set_option maxRecDepth 20000 in
theorem l_K_tl {d : am_D} {h : am_H} {Q : Option Value → am_H → Prop} (hB : am_B h) : ∀ (m k : Nat) (J : Nat → Nat → Int32), am_ty2 J → k + m = 5 → ∀ (w : Int32), Q (some (.int (K_tl m k J w))) (am_si h J) → am_wp d 131 4 [some (.ref 22), some (.int (w)), some (.int (nI (k)))] [] (am_si h J) Q := by
  intro m
  induction m with
  | zero =>
    intro k J hT hk w HQ
    refine r_iload k131_4 rfl ?_
    refine r_pushn (v := nI 5) k131_5 rfl ?_
    refine r_icmpgeN (by omega) (by omega) k131_6 (fun z6 => ?_) (fun z6 => ?_)
    · refine r_iload k131_24 rfl ?_
      have e9 : K_tl 0 k J w = ((w)) := by rw [K_tl]
      rw [e9] at HQ
      exact r_iret k131_25 rfl HQ
    · exact absurd z6 (by omega)
  | succ m ih =>
    intro k J hT hk w HQ
    refine r_iload k131_4 rfl ?_
    refine r_pushn (v := nI 5) k131_5 rfl ?_
    refine r_icmpgeN (by omega) (by omega) k131_6 (fun z6 => ?_) (fun z6 => ?_)
    · exact absurd z6 (by omega)
    · refine r_iload k131_9 rfl ?_
      refine r_aload k131_10 rfl ?_
      refine j_ref (b := 25) k131_11 hB rfl ?_
      refine r_iload k131_14 rfl ?_
      refine j_ald (n := 5) (j := k) (v := (J 25 k)) k131_15 hB rfl rfl (by omega) rfl ?_
      refine r_iadd k131_16 ?_
      refine r_istore (L' := [some (.ref 22), some (.int (w + (J 25 k))), some (.int (nI (k)))]) k131_17 (Nat.le_of_ble_eq_true rfl) rfl ?_
      refine r_iinc (v := (nI (k + 1))) (L' := [some (.ref 22), some (.int (w + (J 25 k))), some (.int (nI (k + 1)))]) k131_18 rfl (Nat.le_of_ble_eq_true rfl) (nI_1 _) rfl ?_
      refine r_goto k131_21 ?_
      have e9 : K_tl (m + 1) k J w = K_tl m (k + 1) J (w + (J 25 k)) := by rw [K_tl]
      rw [e9] at HQ
      exact ih (k + 1) J hT (by omega) (w + (J 25 k)) HQ
noncomputable def K_total (J : Nat → Nat → Int32) : Int32 := (K_tl 5 0 J (nI 0))
set_option maxRecDepth 20000 in
theorem s_K_total {d : am_D} {h : am_H} {J : Nat → Nat → Int32} (hB : am_B h) (hT : am_ty2 J) : am_wp d 131 0 [some (.ref 22), none, none] [] (am_si h J) (fun r h' => r = some (.int (K_total J)) ∧ h' = (am_si h J)) := by
  refine r_pushn (v := nI 0) k131_0 rfl ?_
  refine r_istore (L' := [some (.ref 22), some (.int (nI 0)), none]) k131_1 (Nat.le_of_ble_eq_true rfl) rfl ?_
  refine r_pushn (v := nI 0) k131_2 rfl ?_
  refine r_istore (L' := [some (.ref 22), some (.int (nI 0)), some (.int (nI 0))]) k131_3 (Nat.le_of_ble_eq_true rfl) rfl ?_
  have e9 : K_total J = (K_tl 5 0 J (nI 0)) := rfl
  exact (l_K_tl hB 5 0 J hT (by omega) (nI 0) ⟨by rw [e9], rfl⟩)
