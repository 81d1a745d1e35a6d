/-! The class: steps of the machine. -/
theorem E_next_cg {J K : Nat → Nat → Int32} {e p : Nat} (h : K e = J e) : E_next K e p = E_next J e p := by
  unfold E_next; rw [jn_cg h, jn_cg h, jn_cg h]
theorem E_aside_cg {J K : Nat → Nat → Int32} {e p : Nat} (h : K e = J e) : E_aside K e p = E_aside J e p := by
  unfold E_aside; rw [jn_cg h, jn_cg h, jn_cg h]
theorem E_has_cg {J K : Nat → Nat → Int32} {e : Nat} (h : K e = J e) : E_has K e = E_has J e := by
  unfold E_has; rw [jn_cg h, jn_cg h]
theorem E_first_cg {J K : Nat → Nat → Int32} {e : Nat} (h : K e = J e) : E_first K e = E_first J e := by
  unfold E_first; rw [jn_cg h, jn_cg h]
noncomputable def M_sw (J : Nat → Nat → Int32) (f : Nat) (w : Nat) : (Nat → Nat → Int32) := (am_ite ((J w 2) = (nI 2)) (am_ite ((J f 6) = 0) (am_u2 J f 6 (nI 1)) (am_u2 J f 6 (nI 0))) (J))
set_option maxRecDepth 20000 in
theorem s_M_sw {d : am_D} {h : am_H} {J : Nat → Nat → Int32} (hB : am_B h) (hT : am_ty2 J) (f : Nat) (w : Nat) (hf : am_ob h f 10) (hp1 : am_P h f 0 = some w) (hw9 : am_ob h w 8) (h76 : 74 ≤ f) (h77 : 74 ≤ w) (n3 : ¬ w = f) : am_wp d 156 0 [some (.ref 33), some (.ref f)] [] (am_si h J) (fun r h' => r = none ∧ h' = am_si h (M_sw J f w) ∧ am_ty2 (M_sw J f w)) := by
  refine r_aload k156_0 rfl ?_
  refine v_ref (b := w) k156_1 hf rfl hp1 ?_
  refine v_get (j := 2) (v := (J w 2)) k156_4 hw9 rfl rfl ?_
  refine r_pushn (v := nI 2) k156_7 rfl ?_
  refine r_icmpne k156_8 (fun z8 => ?_) (fun z8 => ?_)
  · have e9 : M_sw J f w = (J) := by unfold M_sw; rw [am_ite_f z8]
    exact r_vret k156_27 rfl ⟨rfl, by rw [e9], by rw [e9]; exact hT⟩
  · refine r_aload k156_11 rfl ?_
    refine r_aload k156_12 rfl ?_
    refine v_get (j := 6) (v := (J f 6)) k156_13 hf rfl rfl ?_
    refine r_ifne k156_16 (fun z16 => ?_) (fun z16 => ?_)
    · refine r_pushn (v := nI 0) k156_23 rfl ?_
      refine v_putZ (j := 6) k156_24 hf rfl rfl (by decide) (by decide) ?_
      have hT24 : am_ty2 (am_u2 J f 6 (nI 0)) := ty_w hT (tw_v (by omega))
      have e9 : M_sw J f w = (am_u2 J f 6 (nI 0)) := by unfold M_sw; rw [am_ite_t z8, am_ite_f z16]
      exact r_vret k156_27 rfl ⟨rfl, by rw [e9], by rw [e9]; exact hT24⟩
    · refine r_pushn (v := nI 1) k156_19 rfl ?_
      refine r_goto k156_20 ?_
      refine v_putZ (j := 6) k156_24 hf rfl rfl (by decide) (by decide) ?_
      have hT24 : am_ty2 (am_u2 J f 6 (nI 1)) := ty_w hT (tw_v (by omega))
      have e9 : M_sw J f w = (am_u2 J f 6 (nI 1)) := by unfold M_sw; rw [am_ite_t z8, am_ite_t z16]
      exact r_vret k156_27 rfl ⟨rfl, by rw [e9], by rw [e9]; exact hT24⟩
theorem fr_M_sw {J : Nat → Nat → Int32} {f : Nat} {w : Nat} (q : Nat) (hq : ¬ q = f) : (M_sw J f w) q = J q := by
  unfold M_sw
  refine fr_i0 (fun _ => ?_) (fun _ => ?_)
  · refine fr_i0 (fun _ => ?_) (fun _ => ?_)
    · exact fr_u (by omega)
    · exact fr_u (by omega)
  · exact rfl
noncomputable def M_wf (J : Nat → Nat → Int32) (f : Nat) (w : Nat) (x0 : Nat) (g : Nat) : (Nat → Nat → Int32) := (am_ite ((J w 2) = (nI 2)) (M_want J (nI g) x0 (F_snd J f w)) (M_want J (nI g) x0 (nI x0)))
set_option maxRecDepth 20000 in
theorem s_M_wf {d : am_D} {h : am_H} {J : Nat → Nat → Int32} (hB : am_B h) (hT : am_ty2 J) (f : Nat) (w : Nat) (x0 : Nat) (g : Nat) (hf : am_ob h f 10) (hp1 : am_P h f 0 = some w) (hw9 : am_ob h w 8) (h76 : 74 ≤ f) (h77 : 74 ≤ w) (n3 : ¬ w = f) (hx : F_fst J f w = nI x0) (h12 : x0 < 12) (hd : 1 ≤ d.1) (hw : 23 ≤ d.2) : am_wp d 154 0 [some (.ref 33), some (.ref f), some (.int (nI (g))), none] [] (am_si h J) (fun r h' => r = none ∧ h' = am_si h (M_wf J f w x0 g) ∧ am_ty2 (M_wf J f w x0 g)) := by
  refine r_aload k154_0 rfl ?_
  refine j_call (ml := 1) k154_1 rfl (show 0 < d.1 by omega) (show 19 + 1 ≤ d.2 by omega) ⟨Nat.le_of_ble_eq_true rfl, Nat.le_of_ble_eq_true rfl, hf, Nat.le_of_ble_eq_true rfl⟩ rfl (rest := []) rfl (s_F_fst hB hT f w (hf) (hp1) (hw9)) (fun r h1 hq => ?_)
  obtain ⟨rfl, rfl⟩ := hq
  show am_wp _ _ _ [some (.ref 33), some (.ref f), some (.int (nI (g))), none] [.int (F_fst J f w)] _ _
  rw [hx]
  refine r_istore (L' := [some (.ref 33), some (.ref f), some (.int (nI (g))), some (.int (nI (x0)))]) k154_4 (Nat.le_of_ble_eq_true rfl) rfl ?_
  refine r_aload k154_5 rfl ?_
  refine r_iload k154_6 rfl ?_
  refine r_iload k154_7 rfl ?_
  refine r_aload k154_8 rfl ?_
  refine v_ref (b := w) k154_9 hf rfl hp1 ?_
  refine v_get (j := 2) (v := (J w 2)) k154_12 hw9 rfl rfl ?_
  refine r_pushn (v := nI 2) k154_15 rfl ?_
  refine r_icmpne k154_16 (fun z16 => ?_) (fun z16 => ?_)
  · refine r_iload k154_26 rfl ?_
    refine j_call (ml := 4) k154_27 rfl (show 0 < d.1 by omega) (show 19 + 4 ≤ d.2 by omega) ⟨Nat.le_of_ble_eq_true rfl, Nat.le_of_ble_eq_true rfl, am_obB hB rfl, Nat.le_of_ble_eq_true rfl⟩ rfl (rest := []) rfl (s_M_want hB hT (nI g) x0 (nI x0) (by omega)) (fun r h1 hq => ?_)
    obtain ⟨rfl, rfl, hT27⟩ := hq
    show am_wp _ _ _ [some (.ref 33), some (.ref f), some (.int (nI (g))), some (.int (nI (x0)))] [] _ _
    have e9 : M_wf J f w x0 g = (M_want J (nI g) x0 (nI x0)) := by unfold M_wf; rw [am_ite_f z16]
    exact r_vret k154_30 rfl ⟨rfl, by rw [e9], by rw [e9]; exact hT27⟩
  · refine r_aload k154_19 rfl ?_
    refine j_call (ml := 1) k154_20 rfl (show 0 < d.1 by omega) (show 19 + 1 ≤ d.2 by omega) ⟨Nat.le_of_ble_eq_true rfl, Nat.le_of_ble_eq_true rfl, hf, Nat.le_of_ble_eq_true rfl⟩ rfl (rest := [.int (nI (x0)), .int (nI (g)), .ref 33]) rfl (s_F_snd hB hT f w (hf) (hp1) (hw9)) (fun r h1 hq => ?_)
    obtain ⟨rfl, rfl⟩ := hq
    show am_wp _ _ _ [some (.ref 33), some (.ref f), some (.int (nI (g))), some (.int (nI (x0)))] [.int (F_snd J f w), .int (nI (x0)), .int (nI (g)), .ref 33] _ _
    refine r_goto k154_23 ?_
    refine j_call (ml := 4) k154_27 rfl (show 0 < d.1 by omega) (show 19 + 4 ≤ d.2 by omega) ⟨Nat.le_of_ble_eq_true rfl, Nat.le_of_ble_eq_true rfl, am_obB hB rfl, Nat.le_of_ble_eq_true rfl⟩ rfl (rest := []) rfl (s_M_want hB hT (nI g) x0 (F_snd J f w) (by omega)) (fun r h1 hq => ?_)
    obtain ⟨rfl, rfl, hT27⟩ := hq
    show am_wp _ _ _ [some (.ref 33), some (.ref f), some (.int (nI (g))), some (.int (nI (x0)))] [] _ _
    have e9 : M_wf J f w x0 g = (M_want J (nI g) x0 (F_snd J f w)) := by unfold M_wf; rw [am_ite_t z16]
    exact r_vret k154_30 rfl ⟨rfl, by rw [e9], by rw [e9]; exact hT27⟩
theorem fr_M_wf {J : Nat → Nat → Int32} {f : Nat} {w : Nat} {x0 : Nat} {g : Nat} (q : Nat) (hq : ¬ q = 33) : (M_wf J f w x0 g) q = J q := by
  unfold M_wf
  refine fr_i0 (fun _ => ?_) (fun _ => ?_)
  · exact fr_M_want q (by omega)
  · exact fr_M_want q (by omega)
noncomputable def M_cc (J : Nat → Nat → Int32) (f : Nat) (w : Nat) (x0 : Nat) (c : Int32) : (Nat → Nat → Int32) := (am_ite (C_there J c) (I_chg J x0 (jx c)) (am_u2 J 33 11 ((-2))))
set_option maxRecDepth 20000 in
theorem s_M_cc {d : am_D} {h : am_H} {J : Nat → Nat → Int32} (hB : am_B h) (hT : am_ty2 J) (f : Nat) (w : Nat) (x0 : Nat) (c : Int32) (hf : am_ob h f 10) (hp1 : am_P h f 0 = some w) (hw9 : am_ob h w 8) (h76 : 74 ≤ f) (h77 : 74 ≤ w) (n3 : ¬ w = f) (hx : F_fst J f w = nI x0) (h12 : x0 < 12) (hd : 3 ≤ d.1) (hw : 71 ≤ d.2) : am_wp d 155 0 [some (.ref 33), some (.ref f), some (.int (c))] [] (am_si h J) (fun r h' => r = none ∧ h' = am_si h (M_cc J f w x0 c) ∧ am_ty2 (M_cc J f w x0 c)) := by
  refine r_aload k155_0 rfl ?_
  refine j_ref (b := 2) k155_1 hB rfl ?_
  refine r_iload k155_4 rfl ?_
  refine j_call (ml := 2) k155_5 rfl (show 0 < d.1 by omega) (show 19 + 2 ≤ d.2 by omega) ⟨Nat.le_of_ble_eq_true rfl, Nat.le_of_ble_eq_true rfl, am_obB hB rfl, Nat.le_of_ble_eq_true rfl⟩ rfl (rest := []) rfl (s_C_there hB hT c (show 1 ≤ d.1 - 1 by omega) (show 22 ≤ d.2 - 21 by omega)) (fun r h1 hq => ?_)
  obtain ⟨rfl, rfl⟩ := hq
  show am_wp _ _ _ [some (.ref 33), some (.ref f), some (.int (c))] [.int (am_b (C_there J c))] _ _
  refine r_ifeqB k155_8 (fun z8 => ?_) (fun z8 => ?_)
  · refine r_aload k155_26 rfl ?_
    refine r_pushn (v := (-2)) k155_27 rfl ?_
    refine j_put (j := 11) k155_29 hB rfl rfl ?_
    have hT29 : am_ty2 (am_u2 J 33 11 ((-2))) := ty_w hT (tw_u (by decide) (by decide) (by decide))
    have e9 : M_cc J f w x0 c = (am_u2 J 33 11 ((-2))) := by unfold M_cc; rw [am_ite_f z8]
    exact r_vret k155_32 rfl ⟨rfl, by rw [e9], by rw [e9]; exact hT29⟩
  · have e_c := C_there_r z8
    rw [show ([some (.ref 33), some (.ref f), some (.int (c))] : am_L) = [some (.ref 33), some (.ref f), some (.int (nI (jx c)))] by rw [← e_c.1]]
    refine r_aload k155_11 rfl ?_
    refine j_ref (b := 10) k155_12 hB rfl ?_
    refine r_aload k155_15 rfl ?_
    refine j_call (ml := 1) k155_16 rfl (show 0 < d.1 by omega) (show 19 + 1 ≤ d.2 by omega) ⟨Nat.le_of_ble_eq_true rfl, Nat.le_of_ble_eq_true rfl, hf, Nat.le_of_ble_eq_true rfl⟩ rfl (rest := [.ref 10]) rfl (s_F_fst hB hT f w (hf) (hp1) (hw9)) (fun r h1 hq => ?_)
    obtain ⟨rfl, rfl⟩ := hq
    show am_wp _ _ _ [some (.ref 33), some (.ref f), some (.int (nI (jx c)))] [.int (F_fst J f w), .ref 10] _ _
    rw [hx]
    refine r_iload k155_19 rfl ?_
    refine j_call (ml := 3) k155_20 rfl (show 0 < d.1 by omega) (show 19 + 3 ≤ d.2 by omega) ⟨Nat.le_of_ble_eq_true rfl, Nat.le_of_ble_eq_true rfl, am_obB hB rfl, Nat.le_of_ble_eq_true rfl⟩ rfl (rest := []) rfl (s_I_chg hB hT x0 (jx c) (by omega) (by omega) (show 2 ≤ d.1 - 1 by omega) (show 49 ≤ d.2 - 22 by omega)) (fun r h1 hq => ?_)
    obtain ⟨rfl, rfl, hT20⟩ := hq
    show am_wp _ _ _ [some (.ref 33), some (.ref f), some (.int (nI (jx c)))] [] _ _
    refine r_goto k155_23 ?_
    have e9 : M_cc J f w x0 c = (I_chg J x0 (jx c)) := by unfold M_cc; rw [am_ite_t z8]
    exact r_vret k155_32 rfl ⟨rfl, by rw [e9], by rw [e9]; exact hT20⟩
theorem fr_M_cc {J : Nat → Nat → Int32} {f : Nat} {w : Nat} {x0 : Nat} {c : Int32} (q : Nat) (hq : ¬ q = 10 ∧ ¬ q = 11 ∧ ¬ q = 12 ∧ ¬ q = 13 ∧ ¬ q = 14 ∧ ¬ q = 33) : (M_cc J f w x0 c) q = J q := by
  unfold M_cc
  refine fr_i0 (fun _ => ?_) (fun _ => ?_)
  · exact fr_I_chg q (by omega)
  · exact fr_u (by omega)
set_option maxRecDepth 20000 in
theorem l_M_s0 {d : am_D} {h : am_H} {J : Nat → Nat → Int32} {Q : Option Value → am_H → Prop} (hB : am_B h) (hT : am_ty2 J) (f : Nat) (w : Nat) (hf : am_ob h f 10) (hp1 : am_P h f 0 = some w) (hw9 : am_ob h w 8) (h76 : 74 ≤ f) (h77 : 74 ≤ w) (n3 : ¬ w = f) (f2 : J f 2 = nI (jn J f 2) ∧ jn J f 2 < 8) (f4 : J f 4 = nI (jn J f 4) ∧ jn J f 4 < 8) (hd : 4 ≤ d.1) (hw : 94 ≤ d.2) (K1 : ¬ ((jn J 33 10) = 300) → am_ty2 (am_u2 (am_u2 (am_u2 J 33 10 (nI ((jn J 33 10) + 1))) 33 17 ((J 33 17) + (nI 1))) f 4 (nI ((jn J f 4) + 1))) → am_wp d 151 79 [some (.ref 33), some (.ref f), some (.int (nI (jn J 29 (((jn J f 2) * 8) + (jn J f 4))))), some (.int (J 30 (((jn J f 2) * 8) + (jn J f 4))))] [] (am_si h (am_u2 (am_u2 (am_u2 J 33 10 (nI ((jn J 33 10) + 1))) 33 17 ((J 33 17) + (nI 1))) f 4 (nI ((jn J f 4) + 1)))) Q) (K2 : ((jn J 33 10) = 300) → am_ty2 (am_u2 J 33 11 ((-11))) → Q none (am_si h (am_u2 J 33 11 ((-11))))) : am_wp d 151 0 [some (.ref 33), some (.ref f), none, none] [] (am_si h J) Q := by
  refine r_aload k151_0 rfl ?_
  have b1 := ty_f hT (q := 33) (j := 10) (B := 301) (by decide) (by decide)
  refine j_get (j := 10) (v := (nI (jn J 33 10))) k151_1 hB rfl (b1.1) ?_
  refine r_pushn (v := nI 300) k151_4 rfl ?_
  refine r_icmpneN (by omega) (by omega) k151_7 (fun z7 => ?_) (fun z7 => ?_)
  · refine r_aload k151_17 rfl ?_
    refine r_dup rfl k151_18 ?_
    have b19 := ty_f hT (q := 33) (j := 10) (B := 301) (by decide) (by decide)
    refine j_get (j := 10) (v := (nI (jn J 33 10))) k151_19 hB rfl (b19.1) ?_
    refine r_pushn (v := nI 1) k151_22 rfl ?_
    refine r_iaddN k151_23 ?_
    refine j_put (j := 10) k151_24 hB rfl rfl ?_
    have hT24 : am_ty2 (am_u2 J 33 10 (nI ((jn J 33 10) + 1))) := ty_w hT (tw_f (B := 301) (by decide) (by decide) (by decide) (by omega))
    refine r_aload k151_27 rfl ?_
    refine r_dup rfl k151_28 ?_
    refine j_get (j := 17) (v := (J 33 17)) k151_29 hB rfl (u2_ne (by decide)) ?_
    refine r_pushn (v := nI 1) k151_32 rfl ?_
    refine r_iadd k151_33 ?_
    refine j_put (j := 17) k151_34 hB rfl rfl ?_
    have hT34 : am_ty2 (am_u2 (am_u2 J 33 10 (nI ((jn J 33 10) + 1))) 33 17 ((J 33 17) + (nI 1))) := ty_w hT24 (tw_u (by decide) (by decide) (by decide))
    refine r_aload k151_37 rfl ?_
    refine j_ref (b := 27) k151_38 hB rfl ?_
    refine r_aload k151_41 rfl ?_
    refine v_get (j := 2) (v := (nI (jn J f 2))) k151_42 hf rfl ((congrFun (fr_u (by omega)) _).trans ((congrFun (fr_u (by omega)) _).trans (f2.1))) ?_
    refine r_aload k151_45 rfl ?_
    refine v_get (j := 4) (v := (nI (jn J f 4))) k151_46 hf rfl ((congrFun (fr_u (by omega)) _).trans ((congrFun (fr_u (by omega)) _).trans (f4.1))) ?_
    refine j_call (ml := 3) k151_49 rfl (show 0 < d.1 by omega) (show 19 + 3 ≤ d.2 by omega) ⟨Nat.le_of_ble_eq_true rfl, Nat.le_of_ble_eq_true rfl, am_obB hB rfl, Nat.le_of_ble_eq_true rfl⟩ rfl (rest := []) rfl (s_B_op hB hT34 (jn J f 2) (jn J f 4) (by omega) (by omega)) (fun r h1 hq => ?_)
    obtain ⟨rfl, rfl⟩ := hq
    show am_wp _ _ _ [some (.ref 33), some (.ref f), none, none] [.int (B_op (am_u2 (am_u2 J 33 10 (nI ((jn J 33 10) + 1))) 33 17 ((J 33 17) + (nI 1))) (jn J f 2) (jn J f 4))] _ _
    rw [show B_op (am_u2 (am_u2 J 33 10 (nI ((jn J 33 10) + 1))) 33 17 ((J 33 17) + (nI 1))) (jn J f 2) (jn J f 4) = nI (jn J 29 (((jn J f 2) * 8) + (jn J f 4))) from congrArg nI (jn_cg ((fr_u (by omega)).trans (fr_u (by omega))))]
    have b49 := ty_n hT (q := 29) (B := 10) (by decide) (by decide) (((jn J f 2) * 8) + (jn J f 4))
    refine r_istore (L' := [some (.ref 33), some (.ref f), some (.int (nI (jn J 29 (((jn J f 2) * 8) + (jn J f 4))))), none]) k151_52 (Nat.le_of_ble_eq_true rfl) rfl ?_
    refine r_aload k151_53 rfl ?_
    refine j_ref (b := 27) k151_54 hB rfl ?_
    refine r_aload k151_57 rfl ?_
    refine v_get (j := 2) (v := (nI (jn J f 2))) k151_58 hf rfl ((congrFun (fr_u (by omega)) _).trans ((congrFun (fr_u (by omega)) _).trans (f2.1))) ?_
    refine r_aload k151_61 rfl ?_
    refine v_get (j := 4) (v := (nI (jn J f 4))) k151_62 hf rfl ((congrFun (fr_u (by omega)) _).trans ((congrFun (fr_u (by omega)) _).trans (f4.1))) ?_
    refine j_call (ml := 3) k151_65 rfl (show 0 < d.1 by omega) (show 19 + 3 ≤ d.2 by omega) ⟨Nat.le_of_ble_eq_true rfl, Nat.le_of_ble_eq_true rfl, am_obB hB rfl, Nat.le_of_ble_eq_true rfl⟩ rfl (rest := []) rfl (s_B_opd hB hT34 (jn J f 2) (jn J f 4) (by omega) (by omega)) (fun r h1 hq => ?_)
    obtain ⟨rfl, rfl⟩ := hq
    show am_wp _ _ _ [some (.ref 33), some (.ref f), some (.int (nI (jn J 29 (((jn J f 2) * 8) + (jn J f 4))))), none] [.int (B_opd (am_u2 (am_u2 J 33 10 (nI ((jn J 33 10) + 1))) 33 17 ((J 33 17) + (nI 1))) (jn J f 2) (jn J f 4))] _ _
    rw [show B_opd (am_u2 (am_u2 J 33 10 (nI ((jn J 33 10) + 1))) 33 17 ((J 33 17) + (nI 1))) (jn J f 2) (jn J f 4) = J 30 (((jn J f 2) * 8) + (jn J f 4)) from congrFun ((fr_u (by omega)).trans (fr_u (by omega))) _]
    refine r_istore (L' := [some (.ref 33), some (.ref f), some (.int (nI (jn J 29 (((jn J f 2) * 8) + (jn J f 4))))), some (.int (J 30 (((jn J f 2) * 8) + (jn J f 4))))]) k151_68 (Nat.le_of_ble_eq_true rfl) rfl ?_
    refine r_aload k151_69 rfl ?_
    refine r_dup rfl k151_70 ?_
    refine v_get (j := 4) (v := (nI (jn J f 4))) k151_71 hf rfl ((congrFun (fr_u (by omega)) _).trans ((congrFun (fr_u (by omega)) _).trans (f4.1))) ?_
    refine r_pushn (v := nI 1) k151_74 rfl ?_
    refine r_iaddN k151_75 ?_
    refine v_put (j := 4) k151_76 hf rfl rfl ?_
    have hT76 : am_ty2 (am_u2 (am_u2 (am_u2 J 33 10 (nI ((jn J 33 10) + 1))) 33 17 ((J 33 17) + (nI 1))) f 4 (nI ((jn J f 4) + 1))) := ty_w hT34 (tw_v (by omega))
    exact K1 z7 hT76
  · refine r_aload k151_10 rfl ?_
    refine r_pushn (v := (-11)) k151_11 rfl ?_
    refine j_put (j := 11) k151_13 hB rfl rfl ?_
    have hT13 : am_ty2 (am_u2 J 33 11 ((-11))) := ty_w hT (tw_u (by decide) (by decide) (by decide))
    exact r_vret k151_16 rfl (K2 z7 hT13)
set_option maxRecDepth 20000 in
theorem l_M_o0 {d : am_D} {h : am_H} {J : Nat → Nat → Int32} {Q : Option Value → am_H → Prop} (hB : am_B h) (hT : am_ty2 J) (f : Nat) (w : Nat) (a : Int32) (hf : am_ob h f 10) (hp1 : am_P h f 0 = some w) (hw9 : am_ob h w 8) (h76 : 74 ≤ f) (h77 : 74 ≤ w) (n3 : ¬ w = f) (hd : 4 ≤ d.1) (hw : 94 ≤ d.2) (K1 : am_ty2 (am_u2 J f 3 a) → Q none (am_si h (am_u2 J f 3 a))) : am_wp d 151 136 [some (.ref 33), some (.ref f), none, some (.int (a))] [] (am_si h J) Q := by
  refine r_aload k151_136 rfl ?_
  refine r_iload k151_137 rfl ?_
  refine v_put (j := 3) k151_138 hf rfl rfl ?_
  have hT138 : am_ty2 (am_u2 J f 3 a) := ty_w hT (tw_v (by omega))
  refine r_goto k151_141 ?_
  exact r_vret k151_283 rfl (K1 hT138)
set_option maxRecDepth 20000 in
theorem l_M_o1 {d : am_D} {h : am_H} {J : Nat → Nat → Int32} {Q : Option Value → am_H → Prop} (hB : am_B h) (hT : am_ty2 J) (f : Nat) (w : Nat) (a : Int32) (hf : am_ob h f 10) (hp1 : am_P h f 0 = some w) (hw9 : am_ob h w 8) (h76 : 74 ≤ f) (h77 : 74 ≤ w) (n3 : ¬ w = f) (hd : 4 ≤ d.1) (hw : 94 ≤ d.2) (K1 : am_ty2 (am_u2 J f 3 ((J f 3) + a)) → Q none (am_si h (am_u2 J f 3 ((J f 3) + a)))) : am_wp d 151 144 [some (.ref 33), some (.ref f), none, some (.int (a))] [] (am_si h J) Q := by
  refine r_aload k151_144 rfl ?_
  refine r_dup rfl k151_145 ?_
  refine v_get (j := 3) (v := (J f 3)) k151_146 hf rfl rfl ?_
  refine r_iload k151_149 rfl ?_
  refine r_iadd k151_150 ?_
  refine v_put (j := 3) k151_151 hf rfl rfl ?_
  have hT151 : am_ty2 (am_u2 J f 3 ((J f 3) + a)) := ty_w hT (tw_v (by omega))
  refine r_goto k151_154 ?_
  exact r_vret k151_283 rfl (K1 hT151)
set_option maxRecDepth 20000 in
theorem l_M_o2 {d : am_D} {h : am_H} {J : Nat → Nat → Int32} {Q : Option Value → am_H → Prop} (hB : am_B h) (hT : am_ty2 J) (f : Nat) (w : Nat) (x0 : Nat) (nm : Nat) (hf : am_ob h f 10) (hp1 : am_P h f 0 = some w) (hw9 : am_ob h w 8) (h76 : 74 ≤ f) (h77 : 74 ≤ w) (n3 : ¬ w = f) (hx : F_fst J f w = nI x0) (h12 : x0 < 12) (hn : nm < 6) (hd : 4 ≤ d.1) (hw : 94 ≤ d.2) (K1 : am_ty2 (am_u2 ((M_ioe ((I_read J x0 nm).2) ((I_read J x0 nm).1)).2) f 3 ((J f 3) + ((M_ioe ((I_read J x0 nm).2) ((I_read J x0 nm).1)).1))) → Q none (am_si h (am_u2 ((M_ioe ((I_read J x0 nm).2) ((I_read J x0 nm).1)).2) f 3 ((J f 3) + ((M_ioe ((I_read J x0 nm).2) ((I_read J x0 nm).1)).1))))) : am_wp d 151 157 [some (.ref 33), some (.ref f), none, some (.int (nI (nm)))] [] (am_si h J) Q := by
  refine r_aload k151_157 rfl ?_
  refine r_dup rfl k151_158 ?_
  refine v_get (j := 3) (v := (J f 3)) k151_159 hf rfl rfl ?_
  refine r_aload k151_162 rfl ?_
  refine r_aload k151_163 rfl ?_
  refine j_ref (b := 10) k151_164 hB rfl ?_
  refine r_aload k151_167 rfl ?_
  refine j_call (ml := 1) k151_168 rfl (show 0 < d.1 by omega) (show 19 + 1 ≤ d.2 by omega) ⟨Nat.le_of_ble_eq_true rfl, Nat.le_of_ble_eq_true rfl, hf, Nat.le_of_ble_eq_true rfl⟩ rfl (rest := [.ref 10, .ref 33, .int (J f 3), .ref f]) rfl (s_F_fst hB hT f w (hf) (hp1) (hw9)) (fun r h1 hq => ?_)
  obtain ⟨rfl, rfl⟩ := hq
  show am_wp _ _ _ [some (.ref 33), some (.ref f), none, some (.int (nI (nm)))] [.int (F_fst J f w), .ref 10, .ref 33, .int (J f 3), .ref f] _ _
  rw [hx]
  refine r_iload k151_171 rfl ?_
  refine j_call (ml := 4) k151_172 rfl (show 0 < d.1 by omega) (show 19 + 4 ≤ d.2 by omega) ⟨Nat.le_of_ble_eq_true rfl, Nat.le_of_ble_eq_true rfl, am_obB hB rfl, Nat.le_of_ble_eq_true rfl⟩ rfl (rest := [.ref 33, .int (J f 3), .ref f]) rfl (s_I_read hB hT x0 nm (by omega) (by omega) (show 2 ≤ d.1 - 1 by omega) (show 49 ≤ d.2 - 23 by omega)) (fun r h1 hq => ?_)
  obtain ⟨rfl, rfl, hT172⟩ := hq
  show am_wp _ _ _ [some (.ref 33), some (.ref f), none, some (.int (nI (nm)))] [.long ((I_read J x0 nm).1), .ref 33, .int (J f 3), .ref f] _ _
  refine j_call (ml := 3) k151_175 rfl (show 0 < d.1 by omega) (show 19 + 3 ≤ d.2 by omega) ⟨Nat.le_of_ble_eq_true rfl, Nat.le_of_ble_eq_true rfl, am_obB hB rfl, Nat.le_of_ble_eq_true rfl⟩ rfl (rest := [.int (J f 3), .ref f]) rfl (s_M_ioe hB hT172 ((I_read J x0 nm).1) (show 1 ≤ d.1 - 1 by omega) (show 21 ≤ d.2 - 22 by omega)) (fun r h1 hq => ?_)
  obtain ⟨rfl, rfl, hT175⟩ := hq
  show am_wp _ _ _ [some (.ref 33), some (.ref f), none, some (.int (nI (nm)))] [.int ((M_ioe ((I_read J x0 nm).2) ((I_read J x0 nm).1)).1), .int (J f 3), .ref f] _ _
  refine r_iadd k151_178 ?_
  refine v_put (j := 3) k151_179 hf rfl rfl ?_
  have hT179 : am_ty2 (am_u2 ((M_ioe ((I_read J x0 nm).2) ((I_read J x0 nm).1)).2) f 3 ((J f 3) + ((M_ioe ((I_read J x0 nm).2) ((I_read J x0 nm).1)).1))) := ty_w hT175 (tw_v (by omega))
  refine r_goto k151_182 ?_
  exact r_vret k151_283 rfl (K1 hT179)
set_option maxRecDepth 20000 in
theorem l_M_o3 {d : am_D} {h : am_H} {J : Nat → Nat → Int32} {Q : Option Value → am_H → Prop} (hB : am_B h) (hT : am_ty2 J) (f : Nat) (w : Nat) (x0 : Nat) (nm : Nat) (hf : am_ob h f 10) (hp1 : am_P h f 0 = some w) (hw9 : am_ob h w 8) (h76 : 74 ≤ f) (h77 : 74 ≤ w) (n3 : ¬ w = f) (hx : F_fst J f w = nI x0) (h12 : x0 < 12) (hn : nm < 6) (hd : 4 ≤ d.1) (hw : 94 ≤ d.2) (K1 : am_ty2 ((M_ioe ((I_write J x0 nm (J f 3)).2) ((I_write J x0 nm (J f 3)).1)).2) → Q none (am_si h ((M_ioe ((I_write J x0 nm (J f 3)).2) ((I_write J x0 nm (J f 3)).1)).2))) : am_wp d 151 185 [some (.ref 33), some (.ref f), none, some (.int (nI (nm)))] [] (am_si h J) Q := by
  refine r_aload k151_185 rfl ?_
  refine r_aload k151_186 rfl ?_
  refine j_ref (b := 10) k151_187 hB rfl ?_
  refine r_aload k151_190 rfl ?_
  refine j_call (ml := 1) k151_191 rfl (show 0 < d.1 by omega) (show 19 + 1 ≤ d.2 by omega) ⟨Nat.le_of_ble_eq_true rfl, Nat.le_of_ble_eq_true rfl, hf, Nat.le_of_ble_eq_true rfl⟩ rfl (rest := [.ref 10, .ref 33]) rfl (s_F_fst hB hT f w (hf) (hp1) (hw9)) (fun r h1 hq => ?_)
  obtain ⟨rfl, rfl⟩ := hq
  show am_wp _ _ _ [some (.ref 33), some (.ref f), none, some (.int (nI (nm)))] [.int (F_fst J f w), .ref 10, .ref 33] _ _
  rw [hx]
  refine r_iload k151_194 rfl ?_
  refine r_aload k151_195 rfl ?_
  refine v_get (j := 3) (v := (J f 3)) k151_196 hf rfl rfl ?_
  refine j_call (ml := 5) k151_199 rfl (show 0 < d.1 by omega) (show 19 + 5 ≤ d.2 by omega) ⟨Nat.le_of_ble_eq_true rfl, Nat.le_of_ble_eq_true rfl, am_obB hB rfl, Nat.le_of_ble_eq_true rfl⟩ rfl (rest := [.ref 33]) rfl (s_I_write hB hT x0 nm (J f 3) (by omega) (by omega) (show 2 ≤ d.1 - 1 by omega) (show 49 ≤ d.2 - 24 by omega)) (fun r h1 hq => ?_)
  obtain ⟨rfl, rfl, hT199⟩ := hq
  show am_wp _ _ _ [some (.ref 33), some (.ref f), none, some (.int (nI (nm)))] [.long ((I_write J x0 nm (J f 3)).1), .ref 33] _ _
  refine j_call (ml := 3) k151_202 rfl (show 0 < d.1 by omega) (show 19 + 3 ≤ d.2 by omega) ⟨Nat.le_of_ble_eq_true rfl, Nat.le_of_ble_eq_true rfl, am_obB hB rfl, Nat.le_of_ble_eq_true rfl⟩ rfl (rest := []) rfl (s_M_ioe hB hT199 ((I_write J x0 nm (J f 3)).1) (show 1 ≤ d.1 - 1 by omega) (show 21 ≤ d.2 - 22 by omega)) (fun r h1 hq => ?_)
  obtain ⟨rfl, rfl, hT202⟩ := hq
  show am_wp _ _ _ [some (.ref 33), some (.ref f), none, some (.int (nI (nm)))] [.int ((M_ioe ((I_write J x0 nm (J f 3)).2) ((I_write J x0 nm (J f 3)).1)).1)] _ _
  refine r_pop rfl k151_205 ?_
  refine r_goto k151_206 ?_
  exact r_vret k151_283 rfl (K1 hT202)
set_option maxRecDepth 20000 in
theorem l_M_o5 {d : am_D} {h : am_H} {J : Nat → Nat → Int32} {Q : Option Value → am_H → Prop} (hB : am_B h) (hT : am_ty2 J) (f : Nat) (w : Nat) (e : Nat) (hf : am_ob h f 10) (hp1 : am_P h f 0 = some w) (hw9 : am_ob h w 8) (h76 : 74 ≤ f) (h77 : 74 ≤ w) (n3 : ¬ w = f) (hpw : am_P h w 1 = some e) (he : am_ob h e 9) (h74 : 74 ≤ e) (n1 : ¬ e = f) (hE : ∀ j, 1 ≤ j → j ≤ 4 → J e j = nI (jn J e j) ∧ jn J e j ≤ 16) (f1 : J f 1 = nI (jn J f 1) ∧ jn J f 1 < 16) (hd : 4 ≤ d.1) (hw : 94 ≤ d.2) (K1 : ((E_next J e (jn J f 1)) < 0) → am_ty2 (am_u2 J f 3 (nI 0)) → Q none (am_si h (am_u2 J f 3 (nI 0)))) (K2 : ¬ ((E_next J e (jn J f 1)) < 0) → am_ty2 (am_u2 J f 3 (nI 1)) → Q none (am_si h (am_u2 J f 3 (nI 1)))) : am_wp d 151 217 [some (.ref 33), some (.ref f), none, none] [] (am_si h J) Q := by
  refine r_aload k151_217 rfl ?_
  refine r_aload k151_218 rfl ?_
  refine v_ref (b := w) k151_219 hf rfl hp1 ?_
  refine v_ref (b := e) k151_222 hw9 rfl hpw ?_
  refine r_aload k151_225 rfl ?_
  refine v_get (j := 1) (v := (nI (jn J f 1))) k151_226 hf rfl (f1.1) ?_
  have E229 := hE
  refine j_call (ml := 2) k151_229 rfl (show 0 < d.1 by omega) (show 19 + 2 ≤ d.2 by omega) ⟨Nat.le_of_ble_eq_true rfl, Nat.le_of_ble_eq_true rfl, he, Nat.le_of_ble_eq_true rfl⟩ rfl (rest := [.ref f]) rfl (s_E_next hB hT e (jn J f 1) (he) (E229 1 (by decide) (by decide)) (E229 2 (by decide) (by decide)) (E229 3 (by decide) (by decide)) (E229 4 (by decide) (by decide)) (by omega)) (fun r h1 hq => ?_)
  obtain ⟨rfl, rfl⟩ := hq
  show am_wp _ _ _ [some (.ref 33), some (.ref f), none, none] [.int (E_next J e (jn J f 1)), .ref f] _ _
  refine r_iflt k151_232 (fun z232 => ?_) (fun z232 => ?_)
  · refine r_pushn (v := nI 0) k151_239 rfl ?_
    refine v_put (j := 3) k151_240 hf rfl rfl ?_
    have hT240 : am_ty2 (am_u2 J f 3 (nI 0)) := ty_w hT (tw_v (by omega))
    refine r_goto k151_243 ?_
    exact r_vret k151_283 rfl (K1 z232 hT240)
  · refine r_pushn (v := nI 1) k151_235 rfl ?_
    refine r_goto k151_236 ?_
    refine v_put (j := 3) k151_240 hf rfl rfl ?_
    have hT240 : am_ty2 (am_u2 J f 3 (nI 1)) := ty_w hT (tw_v (by omega))
    refine r_goto k151_243 ?_
    exact r_vret k151_283 rfl (K2 z232 hT240)
set_option maxRecDepth 20000 in
theorem l_M_o6 {d : am_D} {h : am_H} {J : Nat → Nat → Int32} {Q : Option Value → am_H → Prop} (hB : am_B h) (hT : am_ty2 J) (f : Nat) (w : Nat) (a : Int32) (hf : am_ob h f 10) (hp1 : am_P h f 0 = some w) (hw9 : am_ob h w 8) (h76 : 74 ≤ f) (h77 : 74 ≤ w) (n3 : ¬ w = f) (hd : 4 ≤ d.1) (hw : 94 ≤ d.2) (K1 : am_ty2 (T_take J a) → Q none (am_si h (T_take J a))) : am_wp d 151 246 [some (.ref 33), some (.ref f), none, some (.int (a))] [] (am_si h J) Q := by
  refine r_aload k151_246 rfl ?_
  refine j_ref (b := 31) k151_247 hB rfl ?_
  refine r_iload k151_250 rfl ?_
  refine j_call (ml := 2) k151_251 rfl (show 0 < d.1 by omega) (show 19 + 2 ≤ d.2 by omega) ⟨Nat.le_of_ble_eq_true rfl, Nat.le_of_ble_eq_true rfl, am_obB hB rfl, Nat.le_of_ble_eq_true rfl⟩ rfl (rest := []) rfl (s_T_take hB hT a (show 1 ≤ d.1 - 1 by omega) (show 26 ≤ d.2 - 21 by omega)) (fun r h1 hq => ?_)
  obtain ⟨rfl, rfl, hT251⟩ := hq
  show am_wp _ _ _ [some (.ref 33), some (.ref f), none, some (.int (a))] [] _ _
  refine r_goto k151_254 ?_
  exact r_vret k151_283 rfl (K1 hT251)
set_option maxRecDepth 20000 in
theorem l_M_o7 {d : am_D} {h : am_H} {J : Nat → Nat → Int32} {Q : Option Value → am_H → Prop} (hB : am_B h) (hT : am_ty2 J) (f : Nat) (w : Nat) (x0 : Nat) (g : Nat) (hf : am_ob h f 10) (hp1 : am_P h f 0 = some w) (hw9 : am_ob h w 8) (h76 : 74 ≤ f) (h77 : 74 ≤ w) (n3 : ¬ w = f) (hx : F_fst J f w = nI x0) (h12 : x0 < 12) (hd : 4 ≤ d.1) (hw : 94 ≤ d.2) (K1 : am_ty2 (M_wf J f w x0 g) → Q none (am_si h (M_wf J f w x0 g))) : am_wp d 151 257 [some (.ref 33), some (.ref f), none, some (.int (nI (g)))] [] (am_si h J) Q := by
  refine r_aload k151_257 rfl ?_
  refine r_aload k151_258 rfl ?_
  refine r_iload k151_259 rfl ?_
  refine j_call (ml := 4) k151_260 rfl (show 0 < d.1 by omega) (show 19 + 4 ≤ d.2 by omega) ⟨Nat.le_of_ble_eq_true rfl, Nat.le_of_ble_eq_true rfl, am_obB hB rfl, Nat.le_of_ble_eq_true rfl⟩ rfl (rest := []) rfl (s_M_wf hB hT f w x0 g (hf) (hp1) (hw9) (h76) (h77) (n3) (hx) (h12) (show 1 ≤ d.1 - 1 by omega) (show 23 ≤ d.2 - 23 by omega)) (fun r h1 hq => ?_)
  obtain ⟨rfl, rfl, hT260⟩ := hq
  show am_wp _ _ _ [some (.ref 33), some (.ref f), none, some (.int (nI (g)))] [] _ _
  refine r_goto k151_263 ?_
  exact r_vret k151_283 rfl (K1 hT260)
set_option maxRecDepth 20000 in
theorem l_M_o8 {d : am_D} {h : am_H} {J : Nat → Nat → Int32} {Q : Option Value → am_H → Prop} (hB : am_B h) (hT : am_ty2 J) (f : Nat) (w : Nat) (x0 : Nat) (a : Int32) (hf : am_ob h f 10) (hp1 : am_P h f 0 = some w) (hw9 : am_ob h w 8) (h76 : 74 ≤ f) (h77 : 74 ≤ w) (n3 : ¬ w = f) (hx : F_fst J f w = nI x0) (h12 : x0 < 12) (hd : 4 ≤ d.1) (hw : 94 ≤ d.2) (K1 : am_ty2 (M_cc J f w x0 a) → Q none (am_si h (M_cc J f w x0 a))) : am_wp d 151 266 [some (.ref 33), some (.ref f), none, some (.int (a))] [] (am_si h J) Q := by
  refine r_aload k151_266 rfl ?_
  refine r_aload k151_267 rfl ?_
  refine r_iload k151_268 rfl ?_
  refine j_call (ml := 3) k151_269 rfl (show 0 < d.1 by omega) (show 19 + 3 ≤ d.2 by omega) ⟨Nat.le_of_ble_eq_true rfl, Nat.le_of_ble_eq_true rfl, am_obB hB rfl, Nat.le_of_ble_eq_true rfl⟩ rfl (rest := []) rfl (s_M_cc hB hT f w x0 a (hf) (hp1) (hw9) (h76) (h77) (n3) (hx) (h12) (show 3 ≤ d.1 - 1 by omega) (show 71 ≤ d.2 - 22 by omega)) (fun r h1 hq => ?_)
  obtain ⟨rfl, rfl, hT269⟩ := hq
  show am_wp _ _ _ [some (.ref 33), some (.ref f), none, some (.int (a))] [] _ _
  refine r_goto k151_272 ?_
  exact r_vret k151_283 rfl (K1 hT269)
set_option maxRecDepth 20000 in
theorem l_M_o9 {d : am_D} {h : am_H} {J : Nat → Nat → Int32} {Q : Option Value → am_H → Prop} (hB : am_B h) (hT : am_ty2 J) (f : Nat) (w : Nat) (hf : am_ob h f 10) (hp1 : am_P h f 0 = some w) (hw9 : am_ob h w 8) (h76 : 74 ≤ f) (h77 : 74 ≤ w) (n3 : ¬ w = f) (hd : 4 ≤ d.1) (hw : 94 ≤ d.2) (K1 : am_ty2 (M_sw J f w) → Q none (am_si h (M_sw J f w))) : am_wp d 151 275 [some (.ref 33), some (.ref f), none, none] [] (am_si h J) Q := by
  refine r_aload k151_275 rfl ?_
  refine r_aload k151_276 rfl ?_
  refine j_call (ml := 2) k151_277 rfl (show 0 < d.1 by omega) (show 19 + 2 ≤ d.2 by omega) ⟨Nat.le_of_ble_eq_true rfl, Nat.le_of_ble_eq_true rfl, am_obB hB rfl, Nat.le_of_ble_eq_true rfl⟩ rfl (rest := []) rfl (s_M_sw hB hT f w (hf) (hp1) (hw9) (h76) (h77) (n3)) (fun r h1 hq => ?_)
  obtain ⟨rfl, rfl, hT277⟩ := hq
  show am_wp _ _ _ [some (.ref 33), some (.ref f), none, none] [] _ _
  refine r_goto k151_280 ?_
  exact r_vret k151_283 rfl (K1 hT277)
set_option maxRecDepth 20000 in
theorem l_M_on {d : am_D} {h : am_H} {J : Nat → Nat → Int32} {Q : Option Value → am_H → Prop} (hB : am_B h) (hT : am_ty2 J) (f : Nat) (w : Nat) (e : Nat) (hf : am_ob h f 10) (hp1 : am_P h f 0 = some w) (hw9 : am_ob h w 8) (h76 : 74 ≤ f) (h77 : 74 ≤ w) (n3 : ¬ w = f) (hpw : am_P h w 1 = some e) (he : am_ob h e 9) (h74 : 74 ≤ e) (n1 : ¬ e = f) (hE : ∀ j, 1 ≤ j → j ≤ 4 → J e j = nI (jn J e j) ∧ jn J e j ≤ 16) (f1 : J f 1 = nI (jn J f 1) ∧ jn J f 1 < 16) (hd : 3 ≤ d.1) (hw : 72 ≤ d.2) (K1 : am_ty2 (J) → am_wp d 153 15 [some (.ref 33), some (.ref f), some (.int (E_next J e (jn J f 1)))] [] (am_si h J) Q) : am_wp d 153 0 [some (.ref 33), some (.ref f), none] [] (am_si h J) Q := by
  refine r_aload k153_0 rfl ?_
  refine v_ref (b := w) k153_1 hf rfl hp1 ?_
  refine v_ref (b := e) k153_4 hw9 rfl hpw ?_
  refine r_aload k153_7 rfl ?_
  refine v_get (j := 1) (v := (nI (jn J f 1))) k153_8 hf rfl (f1.1) ?_
  have E11 := hE
  refine j_call (ml := 2) k153_11 rfl (show 0 < d.1 by omega) (show 19 + 2 ≤ d.2 by omega) ⟨Nat.le_of_ble_eq_true rfl, Nat.le_of_ble_eq_true rfl, he, Nat.le_of_ble_eq_true rfl⟩ rfl (rest := []) rfl (s_E_next hB hT e (jn J f 1) (he) (E11 1 (by decide) (by decide)) (E11 2 (by decide) (by decide)) (E11 3 (by decide) (by decide)) (E11 4 (by decide) (by decide)) (by omega)) (fun r h1 hq => ?_)
  obtain ⟨rfl, rfl⟩ := hq
  show am_wp _ _ _ [some (.ref 33), some (.ref f), none] [.int (E_next J e (jn J f 1))] _ _
  refine r_istore (L' := [some (.ref 33), some (.ref f), some (.int (E_next J e (jn J f 1)))]) k153_14 (Nat.le_of_ble_eq_true rfl) rfl ?_
  exact K1 hT
set_option maxRecDepth 20000 in
theorem l_M_adv {d : am_D} {h : am_H} {J : Nat → Nat → Int32} {Q : Option Value → am_H → Prop} (hB : am_B h) (hT : am_ty2 J) (f : Nat) (w : Nat) (e : Nat) (hf : am_ob h f 10) (hp1 : am_P h f 0 = some w) (hw9 : am_ob h w 8) (h76 : 74 ≤ f) (h77 : 74 ≤ w) (n3 : ¬ w = f) (hpw : am_P h w 1 = some e) (he : am_ob h e 9) (h74 : 74 ≤ e) (n1 : ¬ e = f) (hE : ∀ j, 1 ≤ j → j ≤ 4 → J e j = nI (jn J e j) ∧ jn J e j ≤ 16) (f2 : J f 2 = nI (jn J f 2) ∧ jn J f 2 < 8) (f4 : J f 4 = nI (jn J f 4) ∧ jn J f 4 < 9) (f7 : J f 7 = nI (jn J f 7) ∧ jn J f 7 ≤ 16) (f8 : J f 8 = nI (jn J f 8) ∧ jn J f 8 ≤ 16) (hd : 5 ≤ d.1) (hw : 117 ≤ d.2) (K1 : ((jn J f 8) ≤ (jn J f 7)) → ¬ ((J f 5) = 0) → ((jn J 28 (jn J f 2)) ≤ (jn J f 4)) → ((J f 9) = 0) → am_ty2 (J) → am_wp d 149 134 [some (.ref 33), some (.ref f)] [.ref f, .ref 33] (am_si h J) Q) (K2 : ((jn J f 8) ≤ (jn J f 7)) → ¬ ((J f 5) = 0) → ((jn J 28 (jn J f 2)) ≤ (jn J f 4)) → ¬ ((J f 9) = 0) → am_ty2 (am_u2 (am_u2 (am_u2 J f 9 (nI 0)) f 7 (nI (jn J e 4))) f 8 (nI (jn J e 1))) → Q none (am_si h (am_u2 (am_u2 (am_u2 J f 9 (nI 0)) f 7 (nI (jn J e 4))) f 8 (nI (jn J e 1))))) (K3 : ((jn J f 8) ≤ (jn J f 7)) → ¬ ((J f 5) = 0) → ¬ ((jn J 28 (jn J f 2)) ≤ (jn J f 4)) → am_ty2 (J) → am_wp d 149 83 [some (.ref 33), some (.ref f)] [.ref f, .ref 33] (am_si h J) Q) (K4 : ((jn J f 8) ≤ (jn J f 7)) → ((J f 5) = 0) → am_ty2 (am_u2 (am_u2 J f 5 (nI 1)) 33 16 ((J 33 16) + (nI 1))) → Q none (am_si h (am_u2 (am_u2 J f 5 (nI 1)) 33 16 ((J 33 16) + (nI 1))))) (K5 : ¬ ((jn J f 8) ≤ (jn J f 7)) → am_ty2 (am_u2 J f 7 (nI ((jn J f 7) + 1))) → am_wp d 149 32 [some (.ref 33), some (.ref f)] [.int (nI (((jn J f 7) + 1) - 1)), .ref w, .ref 33] (am_si h (am_u2 J f 7 (nI ((jn J f 7) + 1)))) Q) : am_wp d 149 0 [some (.ref 33), some (.ref f)] [] (am_si h J) Q := by
  refine r_aload k149_0 rfl ?_
  refine v_get (j := 7) (v := (nI (jn J f 7))) k149_1 hf rfl (f7.1) ?_
  refine r_aload k149_4 rfl ?_
  refine v_get (j := 8) (v := (nI (jn J f 8))) k149_5 hf rfl (f8.1) ?_
  refine r_icmpgeN (by omega) (by omega) k149_8 (fun z8 => ?_) (fun z8 => ?_)
  · refine r_aload k149_38 rfl ?_
    refine v_get (j := 5) (v := (J f 5)) k149_39 hf rfl rfl ?_
    refine r_ifne k149_42 (fun z42 => ?_) (fun z42 => ?_)
    · refine r_aload k149_63 rfl ?_
      refine v_get (j := 4) (v := (nI (jn J f 4))) k149_64 hf rfl (f4.1) ?_
      refine r_aload k149_67 rfl ?_
      refine j_ref (b := 27) k149_68 hB rfl ?_
      refine r_aload k149_71 rfl ?_
      refine v_get (j := 2) (v := (nI (jn J f 2))) k149_72 hf rfl (f2.1) ?_
      refine j_call (ml := 2) k149_75 rfl (show 0 < d.1 by omega) (show 19 + 2 ≤ d.2 by omega) ⟨Nat.le_of_ble_eq_true rfl, Nat.le_of_ble_eq_true rfl, am_obB hB rfl, Nat.le_of_ble_eq_true rfl⟩ rfl (rest := [.int (nI (jn J f 4))]) rfl (s_B_size hB hT (jn J f 2) (by omega)) (fun r h1 hq => ?_)
      obtain ⟨rfl, rfl⟩ := hq
      show am_wp _ _ _ [some (.ref 33), some (.ref f)] [.int (B_size J (jn J f 2)), .int (nI (jn J f 4))] _ _
      rw [show B_size J (jn J f 2) = nI (jn J 28 (jn J f 2)) from congrArg nI (jn_cg rfl)]
      have b75 := ty_n hT (q := 28) (B := 9) (by decide) (by decide) (jn J f 2)
      refine r_icmpgeN (by omega) (by omega) k149_78 (fun z78 => ?_) (fun z78 => ?_)
      · refine r_aload k149_89 rfl ?_
        refine v_get (j := 9) (v := (J f 9)) k149_90 hf rfl rfl ?_
        refine r_ifeq k149_93 (fun z93 => ?_) (fun z93 => ?_)
        · refine r_aload k149_132 rfl ?_
          refine r_aload k149_133 rfl ?_
          exact K1 z8 z42 z78 z93 hT
        · refine r_aload k149_96 rfl ?_
          refine r_pushn (v := nI 0) k149_97 rfl ?_
          refine v_putZ (j := 9) k149_98 hf rfl rfl (by decide) (by decide) ?_
          have hT98 : am_ty2 (am_u2 J f 9 (nI 0)) := ty_w hT (tw_v (by omega))
          refine r_aload k149_101 rfl ?_
          refine r_aload k149_102 rfl ?_
          refine v_ref (b := w) k149_103 hf rfl hp1 ?_
          refine v_ref (b := e) k149_106 hw9 rfl hpw ?_
          have b109 := hE 4 (by decide) (by decide)
          refine v_get (j := 4) (v := (nI (jn J e 4))) k149_109 he rfl ((congrFun (fr_u (by omega)) _).trans (b109.1)) ?_
          refine v_put (j := 7) k149_112 hf rfl rfl ?_
          have hT112 : am_ty2 (am_u2 (am_u2 J f 9 (nI 0)) f 7 (nI (jn J e 4))) := ty_w hT98 (tw_v (by omega))
          refine r_aload k149_115 rfl ?_
          refine r_aload k149_116 rfl ?_
          refine v_ref (b := w) k149_117 hf rfl hp1 ?_
          refine v_ref (b := e) k149_120 hw9 rfl hpw ?_
          have b123 := hE 1 (by decide) (by decide)
          refine v_get (j := 1) (v := (nI (jn J e 1))) k149_123 he rfl ((congrFun (fr_u (by omega)) _).trans ((congrFun (fr_u (by omega)) _).trans (b123.1))) ?_
          refine v_put (j := 8) k149_126 hf rfl rfl ?_
          have hT126 : am_ty2 (am_u2 (am_u2 (am_u2 J f 9 (nI 0)) f 7 (nI (jn J e 4))) f 8 (nI (jn J e 1))) := ty_w hT112 (tw_v (by omega))
          refine r_goto k149_129 ?_
          exact r_vret k149_137 rfl (K2 z8 z42 z78 z93 hT126)
      · refine r_aload k149_81 rfl ?_
        refine r_aload k149_82 rfl ?_
        exact K3 z8 z42 z78 hT
    · refine r_aload k149_45 rfl ?_
      refine r_pushn (v := nI 1) k149_46 rfl ?_
      refine v_putZ (j := 5) k149_47 hf rfl rfl (by decide) (by decide) ?_
      have hT47 : am_ty2 (am_u2 J f 5 (nI 1)) := ty_w hT (tw_v (by omega))
      refine r_aload k149_50 rfl ?_
      refine r_dup rfl k149_51 ?_
      refine j_get (j := 16) (v := (J 33 16)) k149_52 hB rfl (congrFun (fr_u (by omega)) _) ?_
      refine r_pushn (v := nI 1) k149_55 rfl ?_
      refine r_iadd k149_56 ?_
      refine j_put (j := 16) k149_57 hB rfl rfl ?_
      have hT57 : am_ty2 (am_u2 (am_u2 J f 5 (nI 1)) 33 16 ((J 33 16) + (nI 1))) := ty_w hT47 (tw_u (by decide) (by decide) (by decide))
      refine r_goto k149_60 ?_
      exact r_vret k149_137 rfl (K4 z8 z42 hT57)
  · refine r_aload k149_11 rfl ?_
    refine r_dup rfl k149_12 ?_
    refine v_get (j := 7) (v := (nI (jn J f 7))) k149_13 hf rfl (f7.1) ?_
    refine r_pushn (v := nI 1) k149_16 rfl ?_
    refine r_iaddN k149_17 ?_
    refine v_put (j := 7) k149_18 hf rfl rfl ?_
    have hT18 : am_ty2 (am_u2 J f 7 (nI ((jn J f 7) + 1))) := ty_w hT (tw_v (by omega))
    refine r_aload k149_21 rfl ?_
    refine r_aload k149_22 rfl ?_
    refine v_ref (b := w) k149_23 hf rfl hp1 ?_
    refine r_aload k149_26 rfl ?_
    refine v_get (j := 7) (v := (nI ((jn J f 7) + 1))) k149_27 hf rfl (am_u2_s) ?_
    refine r_pushn (v := nI 1) k149_30 rfl ?_
    refine r_isubN (by omega) k149_31 ?_
    exact K5 z8 hT18
theorem jn_v {J : Nat → Nat → Int32} {q j k : Nat} {v : Int32} (h : ¬ j = k) : jn (am_u2 J q k v) q j = jn J q j := by unfold jn; rw [u2_ne h]
set_option maxRecDepth 20000 in
theorem l_M_cl {d : am_D} {h : am_H} {J : Nat → Nat → Int32} {Q : Option Value → am_H → Prop} (hB : am_B h) (hT : am_ty2 J) (f : Nat) (w : Nat) (e : Nat) (b : Nat) (hf : am_ob h f 10) (hp1 : am_P h f 0 = some w) (hw9 : am_ob h w 8) (h76 : 74 ≤ f) (h77 : 74 ≤ w) (n3 : ¬ w = f) (hpw : am_P h w 1 = some e) (he : am_ob h e 9) (h74 : 74 ≤ e) (n1 : ¬ e = f) (hE : ∀ j, 1 ≤ j → j ≤ 4 → J e j = nI (jn J e j) ∧ jn J e j ≤ 16) (f1 : J f 1 = nI (jn J f 1) ∧ jn J f 1 < 16) (h0 : 0 < jn J 33 9) (h8 : 0 < jn J 33 8) (w5 : J w 5 = nI (jn J w 5) ∧ jn J w 5 < 200) (hb9 : am_ob h b 10) (h78 : 74 ≤ b) (n4 : ¬ f = b) (n5 : ¬ e = b) (hpb : ¬ jn J 33 9 - 1 = 0 → am_P h 35 (jn J 33 9 - 1 - 1) = some b) (hd : 1 ≤ d.1) (hw : 21 ≤ d.2) (K1 : ¬ (((jn J 33 9) - 1) = (jn J w 5)) → ¬ (E_aside J e (jn J f 1)) → (((jn J 33 9) - 1) = 0) → am_ty2 (am_u2 (am_u2 J 33 9 (nI ((jn J 33 9) - 1))) 33 12 (J f 3)) → Q none (am_si h (am_u2 (am_u2 J 33 9 (nI ((jn J 33 9) - 1))) 33 12 (J f 3)))) (K2 : ¬ (((jn J 33 9) - 1) = (jn J w 5)) → ¬ (E_aside J e (jn J f 1)) → ¬ (((jn J 33 9) - 1) = 0) → am_ty2 (am_u2 (am_u2 J 33 9 (nI ((jn J 33 9) - 1))) b 3 ((J b 3) + (J f 3))) → Q none (am_si h (am_u2 (am_u2 J 33 9 (nI ((jn J 33 9) - 1))) b 3 ((J b 3) + (J f 3))))) (K3 : ¬ (((jn J 33 9) - 1) = (jn J w 5)) → (E_aside J e (jn J f 1)) → am_ty2 (am_u2 J 33 9 (nI ((jn J 33 9) - 1))) → Q none (am_si h (am_u2 J 33 9 (nI ((jn J 33 9) - 1))))) (K4 : (((jn J 33 9) - 1) = (jn J w 5)) → ¬ (E_aside J e (jn J f 1)) → (((jn J 33 9) - 1) = 0) → am_ty2 (am_u2 (am_u2 (am_u2 J 33 9 (nI ((jn J 33 9) - 1))) 33 8 (nI ((jn J 33 8) - 1))) 33 12 (J f 3)) → Q none (am_si h (am_u2 (am_u2 (am_u2 J 33 9 (nI ((jn J 33 9) - 1))) 33 8 (nI ((jn J 33 8) - 1))) 33 12 (J f 3)))) (K5 : (((jn J 33 9) - 1) = (jn J w 5)) → ¬ (E_aside J e (jn J f 1)) → ¬ (((jn J 33 9) - 1) = 0) → am_ty2 (am_u2 (am_u2 (am_u2 J 33 9 (nI ((jn J 33 9) - 1))) 33 8 (nI ((jn J 33 8) - 1))) b 3 ((J b 3) + (J f 3))) → Q none (am_si h (am_u2 (am_u2 (am_u2 J 33 9 (nI ((jn J 33 9) - 1))) 33 8 (nI ((jn J 33 8) - 1))) b 3 ((J b 3) + (J f 3))))) (K6 : (((jn J 33 9) - 1) = (jn J w 5)) → (E_aside J e (jn J f 1)) → am_ty2 (am_u2 (am_u2 J 33 9 (nI ((jn J 33 9) - 1))) 33 8 (nI ((jn J 33 8) - 1))) → Q none (am_si h (am_u2 (am_u2 J 33 9 (nI ((jn J 33 9) - 1))) 33 8 (nI ((jn J 33 8) - 1))))) : am_wp d 150 0 [some (.ref 33), some (.ref f), none] [] (am_si h J) Q := by
  refine r_aload k150_0 rfl ?_
  refine r_dup rfl k150_1 ?_
  have b2 := ty_f hT (q := 33) (j := 9) (B := 193) (by decide) (by decide)
  refine j_get (j := 9) (v := (nI (jn J 33 9))) k150_2 hB rfl (b2.1) ?_
  refine r_pushn (v := nI 1) k150_5 rfl ?_
  refine r_isubN (by omega) k150_6 ?_
  refine j_put (j := 9) k150_7 hB rfl rfl ?_
  have hT7 : am_ty2 (am_u2 J 33 9 (nI ((jn J 33 9) - 1))) := ty_w hT (tw_f (B := 193) (by decide) (by decide) (by decide) (by omega))
  refine r_aload k150_10 rfl ?_
  refine j_get (j := 9) (v := (nI ((jn J 33 9) - 1))) k150_11 hB rfl (am_u2_s) ?_
  refine r_aload k150_14 rfl ?_
  refine v_ref (b := w) k150_15 hf rfl hp1 ?_
  refine v_get (j := 5) (v := (nI (jn J w 5))) k150_18 hw9 rfl ((congrFun (fr_u (by omega)) _).trans (w5.1)) ?_
  refine r_icmpneN (by omega) (by omega) k150_21 (fun z21 => ?_) (fun z21 => ?_)
  · refine r_aload k150_34 rfl ?_
    refine v_ref (b := w) k150_35 hf rfl hp1 ?_
    refine v_ref (b := e) k150_38 hw9 rfl hpw ?_
    refine r_aload k150_41 rfl ?_
    refine v_get (j := 1) (v := (nI (jn J f 1))) k150_42 hf rfl ((congrFun (fr_u (by omega)) _).trans (f1.1)) ?_
    have E45 : ∀ j, 1 ≤ j → j ≤ 4 → (am_u2 J 33 9 (nI ((jn J 33 9) - 1))) e j = nI (jn (am_u2 J 33 9 (nI ((jn J 33 9) - 1))) e j) ∧ jn (am_u2 J 33 9 (nI ((jn J 33 9) - 1))) e j ≤ 16 := fun j h1 h2 => by rw [jn_cg (fr_u (by omega)), (fr_u (by omega))]; exact hE j h1 h2
    refine j_call (ml := 2) k150_45 rfl (show 0 < d.1 by omega) (show 19 + 2 ≤ d.2 by omega) ⟨Nat.le_of_ble_eq_true rfl, Nat.le_of_ble_eq_true rfl, he, Nat.le_of_ble_eq_true rfl⟩ rfl (rest := []) rfl (s_E_aside hB hT7 e (jn J f 1) (he) (E45 1 (by decide) (by decide)) (E45 2 (by decide) (by decide)) (E45 3 (by decide) (by decide)) (E45 4 (by decide) (by decide)) (by omega)) (fun r h1 hq => ?_)
    obtain ⟨rfl, rfl⟩ := hq
    show am_wp _ _ _ [some (.ref 33), some (.ref f), none] [.int (am_b (E_aside (am_u2 J 33 9 (nI ((jn J 33 9) - 1))) e (jn J f 1)))] _ _
    rw [show E_aside (am_u2 J 33 9 (nI ((jn J 33 9) - 1))) e (jn J f 1) = E_aside J e (jn J f 1) from E_aside_cg (fr_u (by omega))]
    refine r_ifeqB k150_48 (fun z48 => ?_) (fun z48 => ?_)
    · by_cases z56 : ((jn J 33 9) - 1) = 0
      · have e9 : jn (am_u2 J 33 9 (nI ((jn J 33 9) - 1))) 33 9 = jn J 33 9 - 1 := jn_u (by omega)
        refine r_aload k150_52 rfl ?_
        refine j_call (ml := 1) k150_53 rfl (show 0 < d.1 by omega) (show 19 + 1 ≤ d.2 by omega) ⟨Nat.le_of_ble_eq_true rfl, Nat.le_of_ble_eq_true rfl, am_obB hB rfl, Nat.le_of_ble_eq_true rfl⟩ rfl (rest := []) rfl (s_inn0 hB hT7 (e9.trans z56)) (fun r h1 hq => ?_)
        obtain ⟨rfl, rfl⟩ := hq
        show am_wp _ _ _ [some (.ref 33), some (.ref f), none] [.null] _ _
        refine r_astoreN (L' := [some (.ref 33), some (.ref f), some .null]) k150_56 (Nat.le_of_ble_eq_true rfl) rfl ?_
        refine r_aloadN k150_57 rfl ?_
        refine r_ifnullN k150_58 ?_
        refine r_aload k150_77 rfl ?_
        refine r_aload k150_78 rfl ?_
        refine v_get (j := 3) (v := (J f 3)) k150_79 hf rfl (congrFun (fr_u (by omega)) _) ?_
        refine j_put (j := 12) k150_82 hB rfl rfl ?_
        have hT90 : am_ty2 (am_u2 (am_u2 J 33 9 (nI ((jn J 33 9) - 1))) 33 12 (J f 3)) := ty_w hT7 (tw_u (by decide) (by decide) (by decide))
        exact r_vret k150_85 rfl (K1 z21 z48 z56 hT90)
      · have e9 : jn (am_u2 J 33 9 (nI ((jn J 33 9) - 1))) 33 9 = jn J 33 9 - 1 := jn_u (by omega)
        refine r_aload k150_52 rfl ?_
        refine j_call (ml := 1) k150_53 rfl (show 0 < d.1 by omega) (show 19 + 1 ≤ d.2 by omega) ⟨Nat.le_of_ble_eq_true rfl, Nat.le_of_ble_eq_true rfl, am_obB hB rfl, Nat.le_of_ble_eq_true rfl⟩ rfl (rest := []) rfl (s_inn1 hB hT7 b (by rw [e9]; exact z56) (by rw [e9]; exact hpb z56)) (fun r h1 hq => ?_)
        obtain ⟨rfl, rfl⟩ := hq
        show am_wp _ _ _ [some (.ref 33), some (.ref f), none] [.ref b] _ _
        refine r_astore (L' := [some (.ref 33), some (.ref f), some (.ref b)]) k150_56 (Nat.le_of_ble_eq_true rfl) rfl ?_
        refine r_aload k150_57 rfl ?_
        refine r_ifnull k150_58 ?_
        refine r_aload k150_61 rfl ?_
        refine r_dup rfl k150_62 ?_
        refine v_get (j := 3) (v := (J b 3)) k150_63 hb9 rfl (congrFun (fr_u (by omega)) _) ?_
        refine r_aload k150_66 rfl ?_
        refine v_get (j := 3) (v := (J f 3)) k150_67 hf rfl (congrFun (fr_u (by omega)) _) ?_
        refine r_iadd k150_70 ?_
        refine v_put (j := 3) k150_71 hb9 rfl rfl ?_
        have hT79 : am_ty2 (am_u2 (am_u2 J 33 9 (nI ((jn J 33 9) - 1))) b 3 ((J b 3) + (J f 3))) := ty_w hT7 (tw_v (by omega))
        refine r_goto k150_74 ?_
        exact r_vret k150_85 rfl (K2 z21 z48 z56 hT79)
    · exact r_vret k150_51 rfl (K3 z21 z48 hT7)
  · refine r_aload k150_24 rfl ?_
    refine r_dup rfl k150_25 ?_
    have b26 := ty_f hT (q := 33) (j := 8) (B := 13) (by decide) (by decide)
    refine j_get (j := 8) (v := (nI (jn J 33 8))) k150_26 hB rfl ((u2_ne (by decide)).trans (b26.1)) ?_
    refine r_pushn (v := nI 1) k150_29 rfl ?_
    refine r_isubN (by omega) k150_30 ?_
    refine j_put (j := 8) k150_31 hB rfl rfl ?_
    have hT31 : am_ty2 (am_u2 (am_u2 J 33 9 (nI ((jn J 33 9) - 1))) 33 8 (nI ((jn J 33 8) - 1))) := ty_w hT7 (tw_f (B := 13) (by decide) (by decide) (by decide) (by omega))
    refine r_aload k150_34 rfl ?_
    refine v_ref (b := w) k150_35 hf rfl hp1 ?_
    refine v_ref (b := e) k150_38 hw9 rfl hpw ?_
    refine r_aload k150_41 rfl ?_
    refine v_get (j := 1) (v := (nI (jn J f 1))) k150_42 hf rfl ((congrFun (fr_u (by omega)) _).trans ((congrFun (fr_u (by omega)) _).trans (f1.1))) ?_
    have E45 : ∀ j, 1 ≤ j → j ≤ 4 → (am_u2 (am_u2 J 33 9 (nI ((jn J 33 9) - 1))) 33 8 (nI ((jn J 33 8) - 1))) e j = nI (jn (am_u2 (am_u2 J 33 9 (nI ((jn J 33 9) - 1))) 33 8 (nI ((jn J 33 8) - 1))) e j) ∧ jn (am_u2 (am_u2 J 33 9 (nI ((jn J 33 9) - 1))) 33 8 (nI ((jn J 33 8) - 1))) e j ≤ 16 := fun j h1 h2 => by rw [jn_cg ((fr_u (by omega)).trans (fr_u (by omega))), ((fr_u (by omega)).trans (fr_u (by omega)))]; exact hE j h1 h2
    refine j_call (ml := 2) k150_45 rfl (show 0 < d.1 by omega) (show 19 + 2 ≤ d.2 by omega) ⟨Nat.le_of_ble_eq_true rfl, Nat.le_of_ble_eq_true rfl, he, Nat.le_of_ble_eq_true rfl⟩ rfl (rest := []) rfl (s_E_aside hB hT31 e (jn J f 1) (he) (E45 1 (by decide) (by decide)) (E45 2 (by decide) (by decide)) (E45 3 (by decide) (by decide)) (E45 4 (by decide) (by decide)) (by omega)) (fun r h1 hq => ?_)
    obtain ⟨rfl, rfl⟩ := hq
    show am_wp _ _ _ [some (.ref 33), some (.ref f), none] [.int (am_b (E_aside (am_u2 (am_u2 J 33 9 (nI ((jn J 33 9) - 1))) 33 8 (nI ((jn J 33 8) - 1))) e (jn J f 1)))] _ _
    rw [show E_aside (am_u2 (am_u2 J 33 9 (nI ((jn J 33 9) - 1))) 33 8 (nI ((jn J 33 8) - 1))) e (jn J f 1) = E_aside J e (jn J f 1) from E_aside_cg ((fr_u (by omega)).trans (fr_u (by omega)))]
    refine r_ifeqB k150_48 (fun z48 => ?_) (fun z48 => ?_)
    · by_cases z56 : ((jn J 33 9) - 1) = 0
      · have e9 : jn (am_u2 (am_u2 J 33 9 (nI ((jn J 33 9) - 1))) 33 8 (nI ((jn J 33 8) - 1))) 33 9 = jn J 33 9 - 1 := (jn_v (by decide)).trans (jn_u (by omega))
        refine r_aload k150_52 rfl ?_
        refine j_call (ml := 1) k150_53 rfl (show 0 < d.1 by omega) (show 19 + 1 ≤ d.2 by omega) ⟨Nat.le_of_ble_eq_true rfl, Nat.le_of_ble_eq_true rfl, am_obB hB rfl, Nat.le_of_ble_eq_true rfl⟩ rfl (rest := []) rfl (s_inn0 hB hT31 (e9.trans z56)) (fun r h1 hq => ?_)
        obtain ⟨rfl, rfl⟩ := hq
        show am_wp _ _ _ [some (.ref 33), some (.ref f), none] [.null] _ _
        refine r_astoreN (L' := [some (.ref 33), some (.ref f), some .null]) k150_56 (Nat.le_of_ble_eq_true rfl) rfl ?_
        refine r_aloadN k150_57 rfl ?_
        refine r_ifnullN k150_58 ?_
        refine r_aload k150_77 rfl ?_
        refine r_aload k150_78 rfl ?_
        refine v_get (j := 3) (v := (J f 3)) k150_79 hf rfl ((congrFun (fr_u (by omega)) _).trans (congrFun (fr_u (by omega)) _)) ?_
        refine j_put (j := 12) k150_82 hB rfl rfl ?_
        have hT90 : am_ty2 (am_u2 (am_u2 (am_u2 J 33 9 (nI ((jn J 33 9) - 1))) 33 8 (nI ((jn J 33 8) - 1))) 33 12 (J f 3)) := ty_w hT31 (tw_u (by decide) (by decide) (by decide))
        exact r_vret k150_85 rfl (K4 z21 z48 z56 hT90)
      · have e9 : jn (am_u2 (am_u2 J 33 9 (nI ((jn J 33 9) - 1))) 33 8 (nI ((jn J 33 8) - 1))) 33 9 = jn J 33 9 - 1 := (jn_v (by decide)).trans (jn_u (by omega))
        refine r_aload k150_52 rfl ?_
        refine j_call (ml := 1) k150_53 rfl (show 0 < d.1 by omega) (show 19 + 1 ≤ d.2 by omega) ⟨Nat.le_of_ble_eq_true rfl, Nat.le_of_ble_eq_true rfl, am_obB hB rfl, Nat.le_of_ble_eq_true rfl⟩ rfl (rest := []) rfl (s_inn1 hB hT31 b (by rw [e9]; exact z56) (by rw [e9]; exact hpb z56)) (fun r h1 hq => ?_)
        obtain ⟨rfl, rfl⟩ := hq
        show am_wp _ _ _ [some (.ref 33), some (.ref f), none] [.ref b] _ _
        refine r_astore (L' := [some (.ref 33), some (.ref f), some (.ref b)]) k150_56 (Nat.le_of_ble_eq_true rfl) rfl ?_
        refine r_aload k150_57 rfl ?_
        refine r_ifnull k150_58 ?_
        refine r_aload k150_61 rfl ?_
        refine r_dup rfl k150_62 ?_
        refine v_get (j := 3) (v := (J b 3)) k150_63 hb9 rfl ((congrFun (fr_u (by omega)) _).trans (congrFun (fr_u (by omega)) _)) ?_
        refine r_aload k150_66 rfl ?_
        refine v_get (j := 3) (v := (J f 3)) k150_67 hf rfl ((congrFun (fr_u (by omega)) _).trans (congrFun (fr_u (by omega)) _)) ?_
        refine r_iadd k150_70 ?_
        refine v_put (j := 3) k150_71 hb9 rfl rfl ?_
        have hT79 : am_ty2 (am_u2 (am_u2 (am_u2 J 33 9 (nI ((jn J 33 9) - 1))) 33 8 (nI ((jn J 33 8) - 1))) b 3 ((J b 3) + (J f 3))) := ty_w hT31 (tw_v (by omega))
        refine r_goto k150_74 ?_
        exact r_vret k150_85 rfl (K5 z21 z48 z56 hT79)
    · exact r_vret k150_51 rfl (K6 z21 z48 hT31)
