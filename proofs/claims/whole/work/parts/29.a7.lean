/-! The class: the public methods but call. -/
noncomputable def X_bodies (J : Nat → Nat → Int32) : Int32 := (((J 33 16)))
set_option maxRecDepth 20000 in
theorem s_X_bodies {d : am_D} {h : am_H} {J : Nat → Nat → Int32} (hB : am_B h) (hT : am_ty2 J) : am_wp d 142 0 [some (.ref 33)] [] (am_si h J) (fun r h' => r = some (.int (X_bodies J)) ∧ h' = (am_si h J)) := by
  refine r_aload k142_0 rfl ?_
  refine j_get (j := 16) (v := (J 33 16)) k142_1 hB rfl rfl ?_
  have e9 : X_bodies J = (((J 33 16))) := rfl
  exact r_iret k142_4 rfl ⟨by rw [e9], rfl⟩
noncomputable def X_steps (J : Nat → Nat → Int32) : Int32 := (((J 33 17)))
set_option maxRecDepth 20000 in
theorem s_X_steps {d : am_D} {h : am_H} {J : Nat → Nat → Int32} (hB : am_B h) (hT : am_ty2 J) : am_wp d 143 0 [some (.ref 33)] [] (am_si h J) (fun r h' => r = some (.int (X_steps J)) ∧ h' = (am_si h J)) := by
  refine r_aload k143_0 rfl ?_
  refine j_get (j := 17) (v := (J 33 17)) k143_1 hB rfl rfl ?_
  have e9 : X_steps J = (((J 33 17))) := rfl
  exact r_iret k143_4 rfl ⟨by rw [e9], rfl⟩
noncomputable def D_ref (J : Nat → Nat → Int32) (i : Int32) (nm : Int32) : Int32 := (am_ite (I_there J i) (am_ite (w_name nm) (((nI 0))) ((((-1))))) ((((-2)))))
set_option maxRecDepth 20000 in
theorem s_D_ref {d : am_D} {h : am_H} {J : Nat → Nat → Int32} (hB : am_B h) (hT : am_ty2 J) (i : Int32) (nm : Int32) (hd : 2 ≤ d.1) (hw : 43 ≤ d.2) : am_wp d 20 0 [some (.ref 1), some (.int (i)), some (.int (nm))] [] (am_si h J) (fun r h' => r = some (.int (D_ref J i nm)) ∧ h' = (am_si h J)) := by
  refine r_aload k20_0 rfl ?_
  refine j_ref (b := 10) k20_1 hB rfl ?_
  refine r_iload k20_4 rfl ?_
  refine j_call (ml := 2) k20_5 rfl (show 0 < d.1 by omega) (show 19 + 2 ≤ d.2 by omega) ⟨Nat.le_of_ble_eq_true rfl, Nat.le_of_ble_eq_true rfl, am_obB hB rfl, Nat.le_of_ble_eq_true rfl⟩ rfl (rest := []) rfl (s_I_there hB hT i (show 1 ≤ d.1 - 1 by omega) (show 22 ≤ d.2 - 21 by omega)) (fun r h1 hq => ?_)
  obtain ⟨rfl, rfl⟩ := hq
  show am_wp _ _ _ [some (.ref 1), some (.int (i)), some (.int (nm))] [.int (am_b (I_there J i))] _ _
  refine r_ifneB k20_8 (fun z8 => ?_) (fun z8 => ?_)
  · have e_i := I_there_r hT z8
    rw [show ([some (.ref 1), some (.int (i)), some (.int (nm))] : am_L) = [some (.ref 1), some (.int (nI (jx i))), some (.int (nm))] by rw [← e_i.1]]
    refine r_iload k20_14 rfl ?_
    refine j_call (ml := 1) k20_15 rfl (show 0 < d.1 by omega) (show 19 + 1 ≤ d.2 by omega) ⟨Nat.le_of_ble_eq_true rfl, Nat.le_of_ble_eq_true rfl, True.intro, Nat.le_of_ble_eq_true rfl⟩ rfl (rest := []) rfl (s_w_name nm (show 1 ≤ d.1 - 1 by omega) (show 22 ≤ d.2 - 20 by omega)) (fun r h1 hq => ?_)
    obtain ⟨rfl, rfl⟩ := hq
    show am_wp _ _ _ [some (.ref 1), some (.int (nI (jx i))), some (.int (nm))] [.int (am_b (w_name nm))] _ _
    refine r_ifeqB k20_18 (fun z18 => ?_) (fun z18 => ?_)
    · refine r_pushn (v := (-1)) k20_25 rfl ?_
      have e9 : D_ref J i nm = ((((-1)))) := by unfold D_ref; rw [am_ite_t z8, am_ite_f z18]
      exact r_iret k20_26 rfl ⟨by rw [e9], rfl⟩
    · have e_nm := jx_eq (by decide) z18
      rw [show ([some (.ref 1), some (.int (nI (jx i))), some (.int (nm))] : am_L) = [some (.ref 1), some (.int (nI (jx i))), some (.int (nI (jx nm)))] by rw [← e_nm.1]]
      refine r_pushn (v := nI 0) k20_21 rfl ?_
      refine r_goto k20_22 ?_
      have e9 : D_ref J i nm = (((nI 0))) := by unfold D_ref; rw [am_ite_t z8, am_ite_t z18]
      exact r_iret k20_26 rfl ⟨by rw [e9], rfl⟩
  · refine r_pushn (v := (-2)) k20_11 rfl ?_
    have e9 : D_ref J i nm = ((((-2)))) := by unfold D_ref; rw [am_ite_f z8]
    exact r_iret k20_13 rfl ⟨by rw [e9], rfl⟩
theorem D_ref_r {J : Nat → Nat → Int32} (hT : am_ty2 J) {i nm : Int32} (h : D_ref J i nm = 0) : (i = nI (jx i) ∧ jx i < jn J 10 5 ∧ jx i < 12) ∧ nm = nI (jx nm) ∧ jx nm ≤ 5 := by
  unfold D_ref at h
  by_cases z1 : I_there J i
  · rw [am_ite_t z1] at h
    by_cases z2 : w_name nm
    · exact ⟨I_there_r hT z1, jx_eq (by decide) z2⟩
    · rw [am_ite_f z2] at h; exact absurd h (by decide)
  · rw [am_ite_f z1] at h; exact absurd h (by decide)
theorem w_spec_r {s : Int32} (h : w_spec s) : s = nI (jx s) ∧ jx s < 28 ∧ (jx s < 12 ∨ 16 ≤ jx s) := R_spec_r (J := fun _ _ => 0) h
theorem M_there_r {J : Nat → Nat → Int32} {m : Int32} (h : M_there J m) : m = nI (jx m) ∧ jx m ≤ 15 := by
  unfold M_there at h
  by_cases z1 : w_in m (nI 0) (nI 15)
  · exact jx_eq (by decide) z1
  · rw [am_ite_f z1] at h; exact h.elim
theorem M_there_ne {J : Nat → Nat → Int32} {m : Int32} (h : M_there J m) : ¬ J 17 (jx m) = -1 := fun e => by
  unfold M_there at h
  by_cases z1 : w_in m (nI 0) (nI 15)
  · rw [am_ite_t z1, am_ite_t e] at h; exact h
  · rw [am_ite_f z1] at h; exact h
noncomputable def D_spth (J : Nat → Nat → Int32) (s : Int32) : Prop := (am_ite (s < (nI 16)) ((C_there J s)) ((I_there J (s - (nI 16)))))
set_option maxRecDepth 20000 in
theorem s_D_spth {d : am_D} {h : am_H} {J : Nat → Nat → Int32} (hB : am_B h) (hT : am_ty2 J) (s : Int32) (hd : 2 ≤ d.1) (hw : 43 ≤ d.2) : am_wp d 21 0 [some (.ref 1), some (.int (s))] [] (am_si h J) (fun r h' => r = some (.int (am_b (D_spth J s))) ∧ h' = (am_si h J)) := by
  refine r_iload k21_0 rfl ?_
  refine r_pushn (v := nI 16) k21_1 rfl ?_
  refine r_icmplt k21_3 (fun z3 => ?_) (fun z3 => ?_)
  · refine r_aload k21_20 rfl ?_
    refine j_ref (b := 2) k21_21 hB rfl ?_
    refine r_iload k21_24 rfl ?_
    refine j_call (ml := 2) k21_25 rfl (show 0 < d.1 by omega) (show 19 + 2 ≤ d.2 by omega) ⟨Nat.le_of_ble_eq_true rfl, Nat.le_of_ble_eq_true rfl, am_obB hB rfl, Nat.le_of_ble_eq_true rfl⟩ rfl (rest := []) rfl (s_C_there hB hT s (show 1 ≤ d.1 - 1 by omega) (show 22 ≤ d.2 - 21 by omega)) (fun r h1 hq => ?_)
    obtain ⟨rfl, rfl⟩ := hq
    show am_wp _ _ _ [some (.ref 1), some (.int (s))] [.int (am_b (C_there J s))] _ _
    have e9 : D_spth J s = ((C_there J s)) := by unfold D_spth; rw [am_ite_t z3]
    exact r_zret k21_28 rfl am_b_1 ⟨by rw [e9], rfl⟩
  · refine r_aload k21_6 rfl ?_
    refine j_ref (b := 10) k21_7 hB rfl ?_
    refine r_iload k21_10 rfl ?_
    refine r_pushn (v := nI 16) k21_11 rfl ?_
    refine r_isub k21_13 ?_
    refine j_call (ml := 2) k21_14 rfl (show 0 < d.1 by omega) (show 19 + 2 ≤ d.2 by omega) ⟨Nat.le_of_ble_eq_true rfl, Nat.le_of_ble_eq_true rfl, am_obB hB rfl, Nat.le_of_ble_eq_true rfl⟩ rfl (rest := []) rfl (s_I_there hB hT (s - (nI 16)) (show 1 ≤ d.1 - 1 by omega) (show 22 ≤ d.2 - 21 by omega)) (fun r h1 hq => ?_)
    obtain ⟨rfl, rfl⟩ := hq
    show am_wp _ _ _ [some (.ref 1), some (.int (s))] [.int (am_b (I_there J (s - (nI 16))))] _ _
    refine r_goto k21_17 ?_
    have e9 : D_spth J s = ((I_there J (s - (nI 16)))) := by unfold D_spth; rw [am_ite_f z3]
    exact r_zret k21_28 rfl am_b_1 ⟨by rw [e9], rfl⟩
noncomputable def w_opd (op : Int32) (a : Int32) : Prop := (am_ite (op = (nI 2)) ((w_name a)) (am_ite (op = (nI 3)) ((w_name a)) (am_ite (op = (nI 7)) ((w_gen a)) (am_ite (op = (nI 8)) ((w_in a (nI 0) (nI 11))) ((True))))))
set_option maxRecDepth 20000 in
theorem s_w_opd {d : am_D} {h : am_H} (op : Int32) (a : Int32) (hd : 2 ≤ d.1) (hw : 42 ≤ d.2) : am_wp d 23 0 [some (.int (op)), some (.int (a))] [] h (fun r h' => r = some (.int (am_b (w_opd op a))) ∧ h' = h) := by
  refine r_iload k23_0 rfl ?_
  by_cases y1_2 : op = (nI 2)
  · refine r_tsIn k23_1 (by rw [y1_2]; decide) (t := 44) (by rw [y1_2]; rfl) ?_
    rw [show ([some (.int (op)), some (.int (a))] : am_L) = [some (.int (nI 2)), some (.int (a))] by rw [y1_2]]
    refine r_iload k23_44 rfl ?_
    refine j_call (ml := 1) k23_45 rfl (show 0 < d.1 by omega) (show 19 + 1 ≤ d.2 by omega) ⟨Nat.le_of_ble_eq_true rfl, Nat.le_of_ble_eq_true rfl, True.intro, Nat.le_of_ble_eq_true rfl⟩ rfl (rest := []) rfl (s_w_name a (show 1 ≤ d.1 - 1 by omega) (show 22 ≤ d.2 - 20 by omega)) (fun r h1 hq => ?_)
    obtain ⟨rfl, rfl⟩ := hq
    show am_wp _ _ _ [some (.int (nI 2)), some (.int (a))] [.int (am_b (w_name a))] _ _
    have e9 : w_opd op a = ((w_name a)) := by unfold w_opd; rw [am_ite_t y1_2]
    exact r_zret k23_48 rfl am_b_1 ⟨by rw [e9], rfl⟩
  · by_cases y1_3 : op = (nI 3)
    · refine r_tsIn k23_1 (by rw [y1_3]; decide) (t := 44) (by rw [y1_3]; rfl) ?_
      rw [show ([some (.int (op)), some (.int (a))] : am_L) = [some (.int (nI 3)), some (.int (a))] by rw [y1_3]]
      refine r_iload k23_44 rfl ?_
      refine j_call (ml := 1) k23_45 rfl (show 0 < d.1 by omega) (show 19 + 1 ≤ d.2 by omega) ⟨Nat.le_of_ble_eq_true rfl, Nat.le_of_ble_eq_true rfl, True.intro, Nat.le_of_ble_eq_true rfl⟩ rfl (rest := []) rfl (s_w_name a (show 1 ≤ d.1 - 1 by omega) (show 22 ≤ d.2 - 20 by omega)) (fun r h1 hq => ?_)
      obtain ⟨rfl, rfl⟩ := hq
      show am_wp _ _ _ [some (.int (nI 3)), some (.int (a))] [.int (am_b (w_name a))] _ _
      have e9 : w_opd op a = ((w_name a)) := by unfold w_opd; rw [am_ite_f y1_2, am_ite_t y1_3]
      exact r_zret k23_48 rfl am_b_1 ⟨by rw [e9], rfl⟩
    · by_cases y1_7 : op = (nI 7)
      · refine r_tsIn k23_1 (by rw [y1_7]; decide) (t := 49) (by rw [y1_7]; rfl) ?_
        rw [show ([some (.int (op)), some (.int (a))] : am_L) = [some (.int (nI 7)), some (.int (a))] by rw [y1_7]]
        refine r_iload k23_49 rfl ?_
        refine j_call (ml := 1) k23_50 rfl (show 0 < d.1 by omega) (show 19 + 1 ≤ d.2 by omega) ⟨Nat.le_of_ble_eq_true rfl, Nat.le_of_ble_eq_true rfl, True.intro, Nat.le_of_ble_eq_true rfl⟩ rfl (rest := []) rfl (s_w_gen a (show 1 ≤ d.1 - 1 by omega) (show 22 ≤ d.2 - 20 by omega)) (fun r h1 hq => ?_)
        obtain ⟨rfl, rfl⟩ := hq
        show am_wp _ _ _ [some (.int (nI 7)), some (.int (a))] [.int (am_b (w_gen a))] _ _
        have e9 : w_opd op a = ((w_gen a)) := by unfold w_opd; rw [am_ite_f y1_2, am_ite_f y1_3, am_ite_t y1_7]
        exact r_zret k23_53 rfl am_b_1 ⟨by rw [e9], rfl⟩
      · by_cases y1_8 : op = (nI 8)
        · refine r_tsIn k23_1 (by rw [y1_8]; decide) (t := 54) (by rw [y1_8]; rfl) ?_
          rw [show ([some (.int (op)), some (.int (a))] : am_L) = [some (.int (nI 8)), some (.int (a))] by rw [y1_8]]
          refine r_iload k23_54 rfl ?_
          refine r_pushn (v := nI 0) k23_55 rfl ?_
          refine r_pushn (v := nI 11) k23_56 rfl ?_
          refine j_call (ml := 3) k23_58 rfl (show 0 < d.1 by omega) (show 19 + 3 ≤ d.2 by omega) ⟨Nat.le_of_ble_eq_true rfl, Nat.le_of_ble_eq_true rfl, True.intro, Nat.le_of_ble_eq_true rfl⟩ rfl (rest := []) rfl (s_w_in a (nI 0) (nI 11)) (fun r h1 hq => ?_)
          obtain ⟨rfl, rfl⟩ := hq
          show am_wp _ _ _ [some (.int (nI 8)), some (.int (a))] [.int (am_b (w_in a (nI 0) (nI 11)))] _ _
          have e9 : w_opd op a = ((w_in a (nI 0) (nI 11))) := by unfold w_opd; rw [am_ite_f y1_2, am_ite_f y1_3, am_ite_f y1_7, am_ite_t y1_8]
          exact r_zret k23_61 rfl am_b_1 ⟨by rw [e9], rfl⟩
        · refine am_tsd k23_1 (fun v h1 h2 => ?_) (fun v h1 h2 e1 => ?_) ?_
          · rcases (show v = 2 ∨ v = 3 ∨ v = 4 ∨ v = 5 ∨ v = 6 ∨ v = 7 ∨ v = 8 by omega) with rfl | rfl | rfl | rfl | rfl | rfl | rfl
            · exact Or.inl (fun q => y1_2 q)
            · exact Or.inl (fun q => y1_3 q)
            · exact Or.inr rfl
            · exact Or.inr rfl
            · exact Or.inr rfl
            · exact Or.inl (fun q => y1_7 q)
            · exact Or.inl (fun q => y1_8 q)
          · exact rfl
          · refine r_pushn (v := nI 1) k23_62 rfl ?_
            have e9 : w_opd op a = ((True)) := by unfold w_opd; rw [am_ite_f y1_2, am_ite_f y1_3, am_ite_f y1_7, am_ite_f y1_8]
            exact r_zret k23_63 rfl (by decide) ⟨by rw [e9, am_b_t True.intro]; rfl, rfl⟩
noncomputable def D_define (J : Nat → Nat → Int32) (c : Int32) (s : Int32) (t : Int32) (u : Int32) : Int32 × (Nat → Nat → Int32) := (am_ite (w_in c (nI 1) (nI 11)) (am_ite (w_sup s t u) (am_ite (t = ((-1))) (am_ite (((C_settle J (jx c) s t ((-1))).1) ≤ 0) ((((C_settle J (jx c) s t ((-1))).1), (C_settle J (jx c) s t ((-1))).2)) ((((C_settle J (jx c) s t ((-1))).1), K_forgetAll ((C_settle J (jx c) s t ((-1))).2)))) (am_ite (((C_settle J (jx c) s t u).1) ≤ 0) ((((C_settle J (jx c) s t u).1), (C_settle J (jx c) s t u).2)) ((((C_settle J (jx c) s t u).1), K_forgetAll ((C_settle J (jx c) s t u).2))))) ((((-1)), J))) ((((-1)), J)))
set_option maxRecDepth 20000 in
theorem s_D_define {d : am_D} {h : am_H} {J : Nat → Nat → Int32} (hB : am_B h) (hT : am_ty2 J) (c : Int32) (s : Int32) (t : Int32) (u : Int32) (hd : 5 ≤ d.1) (hw : 122 ≤ d.2) : am_wp d 2 0 [some (.ref 1), some (.int (c)), some (.int (s)), some (.int (t)), some (.int (u)), none] [] (am_si h J) (fun r h' => r = some (.int (D_define J c s t u).1) ∧ h' = am_si h (D_define J c s t u).2 ∧ am_ty2 (D_define J c s t u).2) := by
  refine r_iload k2_0 rfl ?_
  refine r_pushn (v := nI 1) k2_1 rfl ?_
  refine r_pushn (v := nI 11) k2_2 rfl ?_
  refine j_call (ml := 3) k2_4 rfl (show 0 < d.1 by omega) (show 19 + 3 ≤ d.2 by omega) ⟨Nat.le_of_ble_eq_true rfl, Nat.le_of_ble_eq_true rfl, True.intro, Nat.le_of_ble_eq_true rfl⟩ rfl (rest := []) rfl (s_w_in c (nI 1) (nI 11)) (fun r h1 hq => ?_)
  obtain ⟨rfl, rfl⟩ := hq
  show am_wp _ _ _ [some (.ref 1), some (.int (c)), some (.int (s)), some (.int (t)), some (.int (u)), none] [.int (am_b (w_in c (nI 1) (nI 11)))] _ _
  refine r_ifeqB k2_7 (fun z7 => ?_) (fun z7 => ?_)
  · refine r_pushn (v := (-1)) k2_20 rfl ?_
    have e9 : D_define J c s t u = ((((-1)), J)) := by unfold D_define; rw [am_ite_f z7]
    exact r_iret k2_21 rfl ⟨by rw [e9], by rw [e9], by rw [e9]; exact hT⟩
  · have e_c := jx_eqL (by decide) (by decide) z7
    rw [show ([some (.ref 1), some (.int (c)), some (.int (s)), some (.int (t)), some (.int (u)), none] : am_L) = [some (.ref 1), some (.int (nI (jx c))), some (.int (s)), some (.int (t)), some (.int (u)), none] by rw [← e_c.1]]
    refine r_iload k2_10 rfl ?_
    refine r_iload k2_11 rfl ?_
    refine r_iload k2_12 rfl ?_
    refine j_call (ml := 3) k2_14 rfl (show 0 < d.1 by omega) (show 19 + 3 ≤ d.2 by omega) ⟨Nat.le_of_ble_eq_true rfl, Nat.le_of_ble_eq_true rfl, True.intro, Nat.le_of_ble_eq_true rfl⟩ rfl (rest := []) rfl (s_w_sup s t u (show 1 ≤ d.1 - 1 by omega) (show 22 ≤ d.2 - 22 by omega)) (fun r h1 hq => ?_)
    obtain ⟨rfl, rfl⟩ := hq
    show am_wp _ _ _ [some (.ref 1), some (.int (nI (jx c))), some (.int (s)), some (.int (t)), some (.int (u)), none] [.int (am_b (w_sup s t u))] _ _
    refine r_ifneB k2_17 (fun z17 => ?_) (fun z17 => ?_)
    · refine r_aload k2_22 rfl ?_
      refine j_ref (b := 2) k2_23 hB rfl ?_
      refine r_iload k2_26 rfl ?_
      refine r_iload k2_27 rfl ?_
      refine r_iload k2_28 rfl ?_
      refine r_iload k2_29 rfl ?_
      refine r_pushn (v := (-1)) k2_30 rfl ?_
      refine r_icmpne k2_31 (fun z31 => ?_) (fun z31 => ?_)
      · refine r_iload k2_38 rfl ?_
        refine j_call (ml := 8) k2_40 rfl (show 0 < d.1 by omega) (show 19 + 8 ≤ d.2 by omega) ⟨Nat.le_of_ble_eq_true rfl, Nat.le_of_ble_eq_true rfl, am_obB hB rfl, Nat.le_of_ble_eq_true rfl⟩ rfl (rest := []) rfl (s_C_settle hB hT (jx c) s t u (by omega) (show 4 ≤ d.1 - 1 by omega) (show 95 ≤ d.2 - 27 by omega)) (fun r h1 hq => ?_)
        obtain ⟨rfl, rfl, hT40⟩ := hq
        show am_wp _ _ _ [some (.ref 1), some (.int (nI (jx c))), some (.int (s)), some (.int (t)), some (.int (u)), none] [.int ((C_settle J (jx c) s t u).1)] _ _
        refine r_istore (L' := [some (.ref 1), some (.int (nI (jx c))), some (.int (s)), some (.int (t)), some (.int (u)), some (.int ((C_settle J (jx c) s t u).1))]) k2_43 (Nat.le_of_ble_eq_true rfl) rfl ?_
        refine r_iload k2_45 rfl ?_
        refine r_ifle k2_47 (fun z47 => ?_) (fun z47 => ?_)
        · refine r_iload k2_57 rfl ?_
          have e9 : D_define J c s t u = ((((C_settle J (jx c) s t u).1), (C_settle J (jx c) s t u).2)) := by unfold D_define; rw [am_ite_t z7, am_ite_t z17, am_ite_f z31, am_ite_t z47]
          exact r_iret k2_59 rfl ⟨by rw [e9], by rw [e9], by rw [e9]; exact hT40⟩
        · refine r_aload k2_50 rfl ?_
          refine j_ref (b := 22) k2_51 hB rfl ?_
          refine j_call (ml := 2) k2_54 rfl (show 0 < d.1 by omega) (show 19 + 2 ≤ d.2 by omega) ⟨Nat.le_of_ble_eq_true rfl, Nat.le_of_ble_eq_true rfl, am_obB hB rfl, Nat.le_of_ble_eq_true rfl⟩ rfl (rest := []) rfl (s_K_forgetAll hB hT40 (show 1 ≤ d.1 - 1 by omega) (show 21 ≤ d.2 - 21 by omega)) (fun r h1 hq => ?_)
          obtain ⟨rfl, rfl, hT54⟩ := hq
          show am_wp _ _ _ [some (.ref 1), some (.int (nI (jx c))), some (.int (s)), some (.int (t)), some (.int (u)), some (.int ((C_settle J (jx c) s t u).1))] [] _ _
          refine r_iload k2_57 rfl ?_
          have e9 : D_define J c s t u = ((((C_settle J (jx c) s t u).1), K_forgetAll ((C_settle J (jx c) s t u).2))) := by unfold D_define; rw [am_ite_t z7, am_ite_t z17, am_ite_f z31, am_ite_f z47]
          exact r_iret k2_59 rfl ⟨by rw [e9], by rw [e9], by rw [e9]; exact hT54⟩
      · refine r_pushn (v := (-1)) k2_34 rfl ?_
        refine r_goto k2_35 ?_
        refine j_call (ml := 8) k2_40 rfl (show 0 < d.1 by omega) (show 19 + 8 ≤ d.2 by omega) ⟨Nat.le_of_ble_eq_true rfl, Nat.le_of_ble_eq_true rfl, am_obB hB rfl, Nat.le_of_ble_eq_true rfl⟩ rfl (rest := []) rfl (s_C_settle hB hT (jx c) s t ((-1)) (by omega) (show 4 ≤ d.1 - 1 by omega) (show 95 ≤ d.2 - 27 by omega)) (fun r h1 hq => ?_)
        obtain ⟨rfl, rfl, hT40⟩ := hq
        show am_wp _ _ _ [some (.ref 1), some (.int (nI (jx c))), some (.int (s)), some (.int (t)), some (.int (u)), none] [.int ((C_settle J (jx c) s t ((-1))).1)] _ _
        refine r_istore (L' := [some (.ref 1), some (.int (nI (jx c))), some (.int (s)), some (.int (t)), some (.int (u)), some (.int ((C_settle J (jx c) s t ((-1))).1))]) k2_43 (Nat.le_of_ble_eq_true rfl) rfl ?_
        refine r_iload k2_45 rfl ?_
        refine r_ifle k2_47 (fun z47 => ?_) (fun z47 => ?_)
        · refine r_iload k2_57 rfl ?_
          have e9 : D_define J c s t u = ((((C_settle J (jx c) s t ((-1))).1), (C_settle J (jx c) s t ((-1))).2)) := by unfold D_define; rw [am_ite_t z7, am_ite_t z17, am_ite_t z31, am_ite_t z47]
          exact r_iret k2_59 rfl ⟨by rw [e9], by rw [e9], by rw [e9]; exact hT40⟩
        · refine r_aload k2_50 rfl ?_
          refine j_ref (b := 22) k2_51 hB rfl ?_
          refine j_call (ml := 2) k2_54 rfl (show 0 < d.1 by omega) (show 19 + 2 ≤ d.2 by omega) ⟨Nat.le_of_ble_eq_true rfl, Nat.le_of_ble_eq_true rfl, am_obB hB rfl, Nat.le_of_ble_eq_true rfl⟩ rfl (rest := []) rfl (s_K_forgetAll hB hT40 (show 1 ≤ d.1 - 1 by omega) (show 21 ≤ d.2 - 21 by omega)) (fun r h1 hq => ?_)
          obtain ⟨rfl, rfl, hT54⟩ := hq
          show am_wp _ _ _ [some (.ref 1), some (.int (nI (jx c))), some (.int (s)), some (.int (t)), some (.int (u)), some (.int ((C_settle J (jx c) s t ((-1))).1))] [] _ _
          refine r_iload k2_57 rfl ?_
          have e9 : D_define J c s t u = ((((C_settle J (jx c) s t ((-1))).1), K_forgetAll ((C_settle J (jx c) s t ((-1))).2))) := by unfold D_define; rw [am_ite_t z7, am_ite_t z17, am_ite_t z31, am_ite_f z47]
          exact r_iret k2_59 rfl ⟨by rw [e9], by rw [e9], by rw [e9]; exact hT54⟩
    · refine r_pushn (v := (-1)) k2_20 rfl ?_
      have e9 : D_define J c s t u = ((((-1)), J)) := by unfold D_define; rw [am_ite_t z7, am_ite_f z17]
      exact r_iret k2_21 rfl ⟨by rw [e9], by rw [e9], by rw [e9]; exact hT⟩
theorem fr_D_define {J : Nat → Nat → Int32} {c : Int32} {s : Int32} {t : Int32} {u : Int32} (q : Nat) (hq : ¬ q = 2 ∧ ¬ q = 3 ∧ ¬ q = 4 ∧ ¬ q = 5 ∧ ¬ q = 8 ∧ ¬ q = 9 ∧ ¬ q = 24 ∧ ¬ q = 25) : (D_define J c s t u).2 q = J q := by
  unfold D_define
  refine fr_i2 (fun _ => ?_) (fun _ => ?_)
  · refine fr_i2 (fun _ => ?_) (fun _ => ?_)
    · refine fr_i2 (fun _ => ?_) (fun _ => ?_)
      · refine fr_i2 (fun _ => ?_) (fun _ => ?_)
        · exact fr_C_settle q (by omega)
        · exact (fr_K_forgetAll q (by omega)).trans (fr_C_settle q (by omega))
      · refine fr_i2 (fun _ => ?_) (fun _ => ?_)
        · exact fr_C_settle q (by omega)
        · exact (fr_K_forgetAll q (by omega)).trans (fr_C_settle q (by omega))
    · exact rfl
  · exact rfl
noncomputable def D_slot (J : Nat → Nat → Int32) (c : Int32) (nm : Int32) (how : Int32) (v : Int32) : Int32 × (Nat → Nat → Int32) := (am_ite (w_name nm) (am_ite (w_in how (nI 0) (nI 3)) (am_ite (C_there J c) (((nI 1), C_setSlot J (jx c) (jx nm) (jx how) v)) ((((-2)), J))) ((((-1)), J))) ((((-1)), J)))
set_option maxRecDepth 20000 in
theorem s_D_slot {d : am_D} {h : am_H} {J : Nat → Nat → Int32} (hB : am_B h) (hT : am_ty2 J) (c : Int32) (nm : Int32) (how : Int32) (v : Int32) (hd : 2 ≤ d.1) (hw : 43 ≤ d.2) : am_wp d 3 0 [some (.ref 1), some (.int (c)), some (.int (nm)), some (.int (how)), some (.int (v))] [] (am_si h J) (fun r h' => r = some (.int (D_slot J c nm how v).1) ∧ h' = am_si h (D_slot J c nm how v).2 ∧ am_ty2 (D_slot J c nm how v).2) := by
  refine r_iload k3_0 rfl ?_
  refine j_call (ml := 1) k3_1 rfl (show 0 < d.1 by omega) (show 19 + 1 ≤ d.2 by omega) ⟨Nat.le_of_ble_eq_true rfl, Nat.le_of_ble_eq_true rfl, True.intro, Nat.le_of_ble_eq_true rfl⟩ rfl (rest := []) rfl (s_w_name nm (show 1 ≤ d.1 - 1 by omega) (show 22 ≤ d.2 - 20 by omega)) (fun r h1 hq => ?_)
  obtain ⟨rfl, rfl⟩ := hq
  show am_wp _ _ _ [some (.ref 1), some (.int (c)), some (.int (nm)), some (.int (how)), some (.int (v))] [.int (am_b (w_name nm))] _ _
  refine r_ifeqB k3_4 (fun z4 => ?_) (fun z4 => ?_)
  · refine r_pushn (v := (-1)) k3_16 rfl ?_
    have e9 : D_slot J c nm how v = ((((-1)), J)) := by unfold D_slot; rw [am_ite_f z4]
    exact r_iret k3_17 rfl ⟨by rw [e9], by rw [e9], by rw [e9]; exact hT⟩
  · have e_nm := jx_eq (by decide) z4
    rw [show ([some (.ref 1), some (.int (c)), some (.int (nm)), some (.int (how)), some (.int (v))] : am_L) = [some (.ref 1), some (.int (c)), some (.int (nI (jx nm))), some (.int (how)), some (.int (v))] by rw [← e_nm.1]]
    refine r_iload k3_7 rfl ?_
    refine r_pushn (v := nI 0) k3_8 rfl ?_
    refine r_pushn (v := nI 3) k3_9 rfl ?_
    refine j_call (ml := 3) k3_10 rfl (show 0 < d.1 by omega) (show 19 + 3 ≤ d.2 by omega) ⟨Nat.le_of_ble_eq_true rfl, Nat.le_of_ble_eq_true rfl, True.intro, Nat.le_of_ble_eq_true rfl⟩ rfl (rest := []) rfl (s_w_in how (nI 0) (nI 3)) (fun r h1 hq => ?_)
    obtain ⟨rfl, rfl⟩ := hq
    show am_wp _ _ _ [some (.ref 1), some (.int (c)), some (.int (nI (jx nm))), some (.int (how)), some (.int (v))] [.int (am_b (w_in how (nI 0) (nI 3)))] _ _
    refine r_ifneB k3_13 (fun z13 => ?_) (fun z13 => ?_)
    · have e_how := jx_eq (by decide) z13
      rw [show ([some (.ref 1), some (.int (c)), some (.int (nI (jx nm))), some (.int (how)), some (.int (v))] : am_L) = [some (.ref 1), some (.int (c)), some (.int (nI (jx nm))), some (.int (nI (jx how))), some (.int (v))] by rw [← e_how.1]]
      refine r_aload k3_18 rfl ?_
      refine j_ref (b := 2) k3_19 hB rfl ?_
      refine r_iload k3_22 rfl ?_
      refine j_call (ml := 2) k3_23 rfl (show 0 < d.1 by omega) (show 19 + 2 ≤ d.2 by omega) ⟨Nat.le_of_ble_eq_true rfl, Nat.le_of_ble_eq_true rfl, am_obB hB rfl, Nat.le_of_ble_eq_true rfl⟩ rfl (rest := []) rfl (s_C_there hB hT c (show 1 ≤ d.1 - 1 by omega) (show 22 ≤ d.2 - 21 by omega)) (fun r h1 hq => ?_)
      obtain ⟨rfl, rfl⟩ := hq
      show am_wp _ _ _ [some (.ref 1), some (.int (c)), some (.int (nI (jx nm))), some (.int (nI (jx how))), some (.int (v))] [.int (am_b (C_there J c))] _ _
      refine r_ifneB k3_26 (fun z26 => ?_) (fun z26 => ?_)
      · have e_c := C_there_r z26
        rw [show ([some (.ref 1), some (.int (c)), some (.int (nI (jx nm))), some (.int (nI (jx how))), some (.int (v))] : am_L) = [some (.ref 1), some (.int (nI (jx c))), some (.int (nI (jx nm))), some (.int (nI (jx how))), some (.int (v))] by rw [← e_c.1]]
        refine r_aload k3_32 rfl ?_
        refine j_ref (b := 2) k3_33 hB rfl ?_
        refine r_iload k3_36 rfl ?_
        refine r_iload k3_37 rfl ?_
        refine r_iload k3_38 rfl ?_
        refine r_iload k3_39 rfl ?_
        refine j_call (ml := 5) k3_41 rfl (show 0 < d.1 by omega) (show 19 + 5 ≤ d.2 by omega) ⟨Nat.le_of_ble_eq_true rfl, Nat.le_of_ble_eq_true rfl, am_obB hB rfl, Nat.le_of_ble_eq_true rfl⟩ rfl (rest := []) rfl (s_C_setSlot hB hT (jx c) (jx nm) (jx how) v (by omega) (by omega) (by omega)) (fun r h1 hq => ?_)
        obtain ⟨rfl, rfl, hT41⟩ := hq
        show am_wp _ _ _ [some (.ref 1), some (.int (nI (jx c))), some (.int (nI (jx nm))), some (.int (nI (jx how))), some (.int (v))] [] _ _
        refine r_pushn (v := nI 1) k3_44 rfl ?_
        have e9 : D_slot J c nm how v = (((nI 1), C_setSlot J (jx c) (jx nm) (jx how) v)) := by unfold D_slot; rw [am_ite_t z4, am_ite_t z13, am_ite_t z26]
        exact r_iret k3_45 rfl ⟨by rw [e9], by rw [e9], by rw [e9]; exact hT41⟩
      · refine r_pushn (v := (-2)) k3_29 rfl ?_
        have e9 : D_slot J c nm how v = ((((-2)), J)) := by unfold D_slot; rw [am_ite_t z4, am_ite_t z13, am_ite_f z26]
        exact r_iret k3_31 rfl ⟨by rw [e9], by rw [e9], by rw [e9]; exact hT⟩
    · refine r_pushn (v := (-1)) k3_16 rfl ?_
      have e9 : D_slot J c nm how v = ((((-1)), J)) := by unfold D_slot; rw [am_ite_t z4, am_ite_f z13]
      exact r_iret k3_17 rfl ⟨by rw [e9], by rw [e9], by rw [e9]; exact hT⟩
theorem fr_D_slot {J : Nat → Nat → Int32} {c : Int32} {nm : Int32} {how : Int32} {v : Int32} (q : Nat) (hq : ¬ q = 6 ∧ ¬ q = 7) : (D_slot J c nm how v).2 q = J q := by
  unfold D_slot
  refine fr_i2 (fun _ => ?_) (fun _ => ?_)
  · refine fr_i2 (fun _ => ?_) (fun _ => ?_)
    · refine fr_i2 (fun _ => ?_) (fun _ => ?_)
      · exact fr_C_setSlot q (by omega)
      · exact rfl
    · exact rfl
  · exact rfl
noncomputable def D_make (J : Nat → Nat → Int32) (c : Int32) : Int32 × (Nat → Nat → Int32) := (am_ite (C_there J c) ((((I_make J (jx c)).1), (I_make J (jx c)).2)) ((((-2)), J)))
set_option maxRecDepth 20000 in
theorem s_D_make {d : am_D} {h : am_H} {J : Nat → Nat → Int32} (hB : am_B h) (hT : am_ty2 J) (c : Int32) (hd : 3 ≤ d.1) (hw : 71 ≤ d.2) : am_wp d 4 0 [some (.ref 1), some (.int (c))] [] (am_si h J) (fun r h' => r = some (.int (D_make J c).1) ∧ h' = am_si h (D_make J c).2 ∧ am_ty2 (D_make J c).2) := by
  refine r_aload k4_0 rfl ?_
  refine j_ref (b := 2) k4_1 hB rfl ?_
  refine r_iload k4_4 rfl ?_
  refine j_call (ml := 2) k4_5 rfl (show 0 < d.1 by omega) (show 19 + 2 ≤ d.2 by omega) ⟨Nat.le_of_ble_eq_true rfl, Nat.le_of_ble_eq_true rfl, am_obB hB rfl, Nat.le_of_ble_eq_true rfl⟩ rfl (rest := []) rfl (s_C_there hB hT c (show 1 ≤ d.1 - 1 by omega) (show 22 ≤ d.2 - 21 by omega)) (fun r h1 hq => ?_)
  obtain ⟨rfl, rfl⟩ := hq
  show am_wp _ _ _ [some (.ref 1), some (.int (c))] [.int (am_b (C_there J c))] _ _
  refine r_ifneB k4_8 (fun z8 => ?_) (fun z8 => ?_)
  · have e_c := C_there_r z8
    rw [show ([some (.ref 1), some (.int (c))] : am_L) = [some (.ref 1), some (.int (nI (jx c)))] by rw [← e_c.1]]
    refine r_aload k4_14 rfl ?_
    refine j_ref (b := 10) k4_15 hB rfl ?_
    refine r_iload k4_18 rfl ?_
    refine j_call (ml := 3) k4_19 rfl (show 0 < d.1 by omega) (show 19 + 3 ≤ d.2 by omega) ⟨Nat.le_of_ble_eq_true rfl, Nat.le_of_ble_eq_true rfl, am_obB hB rfl, Nat.le_of_ble_eq_true rfl⟩ rfl (rest := []) rfl (s_I_make hB hT (jx c) (by omega) (show 2 ≤ d.1 - 1 by omega) (show 49 ≤ d.2 - 22 by omega)) (fun r h1 hq => ?_)
    obtain ⟨rfl, rfl, hT19⟩ := hq
    show am_wp _ _ _ [some (.ref 1), some (.int (nI (jx c)))] [.int ((I_make J (jx c)).1)] _ _
    have e9 : D_make J c = ((((I_make J (jx c)).1), (I_make J (jx c)).2)) := by unfold D_make; rw [am_ite_t z8]
    exact r_iret k4_22 rfl ⟨by rw [e9], by rw [e9], by rw [e9]; exact hT19⟩
  · refine r_pushn (v := (-2)) k4_11 rfl ?_
    have e9 : D_make J c = ((((-2)), J)) := by unfold D_make; rw [am_ite_f z8]
    exact r_iret k4_13 rfl ⟨by rw [e9], by rw [e9], by rw [e9]; exact hT⟩
theorem fr_D_make {J : Nat → Nat → Int32} {c : Int32} (q : Nat) (hq : ¬ q = 10 ∧ ¬ q = 11 ∧ ¬ q = 12 ∧ ¬ q = 13 ∧ ¬ q = 14) : (D_make J c).2 q = J q := by
  unfold D_make
  refine fr_i2 (fun _ => ?_) (fun _ => ?_)
  · exact fr_I_make q (by omega)
  · exact rfl
noncomputable def D_become (J : Nat → Nat → Int32) (i : Int32) (c : Int32) : Int32 × (Nat → Nat → Int32) := (am_ite (I_there J i) (am_ite (C_there J c) (((nI 1), I_chg J (jx i) (jx c))) ((((-2)), J))) ((((-2)), J)))
set_option maxRecDepth 20000 in
theorem s_D_become {d : am_D} {h : am_H} {J : Nat → Nat → Int32} (hB : am_B h) (hT : am_ty2 J) (i : Int32) (c : Int32) (hd : 3 ≤ d.1) (hw : 71 ≤ d.2) : am_wp d 5 0 [some (.ref 1), some (.int (i)), some (.int (c))] [] (am_si h J) (fun r h' => r = some (.int (D_become J i c).1) ∧ h' = am_si h (D_become J i c).2 ∧ am_ty2 (D_become J i c).2) := by
  refine r_aload k5_0 rfl ?_
  refine j_ref (b := 10) k5_1 hB rfl ?_
  refine r_iload k5_4 rfl ?_
  refine j_call (ml := 2) k5_5 rfl (show 0 < d.1 by omega) (show 19 + 2 ≤ d.2 by omega) ⟨Nat.le_of_ble_eq_true rfl, Nat.le_of_ble_eq_true rfl, am_obB hB rfl, Nat.le_of_ble_eq_true rfl⟩ rfl (rest := []) rfl (s_I_there hB hT i (show 1 ≤ d.1 - 1 by omega) (show 22 ≤ d.2 - 21 by omega)) (fun r h1 hq => ?_)
  obtain ⟨rfl, rfl⟩ := hq
  show am_wp _ _ _ [some (.ref 1), some (.int (i)), some (.int (c))] [.int (am_b (I_there J i))] _ _
  refine r_ifeqB k5_8 (fun z8 => ?_) (fun z8 => ?_)
  · refine r_pushn (v := (-2)) k5_22 rfl ?_
    have e9 : D_become J i c = ((((-2)), J)) := by unfold D_become; rw [am_ite_f z8]
    exact r_iret k5_24 rfl ⟨by rw [e9], by rw [e9], by rw [e9]; exact hT⟩
  · have e_i := I_there_r hT z8
    rw [show ([some (.ref 1), some (.int (i)), some (.int (c))] : am_L) = [some (.ref 1), some (.int (nI (jx i))), some (.int (c))] by rw [← e_i.1]]
    refine r_aload k5_11 rfl ?_
    refine j_ref (b := 2) k5_12 hB rfl ?_
    refine r_iload k5_15 rfl ?_
    refine j_call (ml := 2) k5_16 rfl (show 0 < d.1 by omega) (show 19 + 2 ≤ d.2 by omega) ⟨Nat.le_of_ble_eq_true rfl, Nat.le_of_ble_eq_true rfl, am_obB hB rfl, Nat.le_of_ble_eq_true rfl⟩ rfl (rest := []) rfl (s_C_there hB hT c (show 1 ≤ d.1 - 1 by omega) (show 22 ≤ d.2 - 21 by omega)) (fun r h1 hq => ?_)
    obtain ⟨rfl, rfl⟩ := hq
    show am_wp _ _ _ [some (.ref 1), some (.int (nI (jx i))), some (.int (c))] [.int (am_b (C_there J c))] _ _
    refine r_ifneB k5_19 (fun z19 => ?_) (fun z19 => ?_)
    · have e_c := C_there_r z19
      rw [show ([some (.ref 1), some (.int (nI (jx i))), some (.int (c))] : am_L) = [some (.ref 1), some (.int (nI (jx i))), some (.int (nI (jx c)))] by rw [← e_c.1]]
      refine r_aload k5_25 rfl ?_
      refine j_ref (b := 10) k5_26 hB rfl ?_
      refine r_iload k5_29 rfl ?_
      refine r_iload k5_30 rfl ?_
      refine j_call (ml := 3) k5_31 rfl (show 0 < d.1 by omega) (show 19 + 3 ≤ d.2 by omega) ⟨Nat.le_of_ble_eq_true rfl, Nat.le_of_ble_eq_true rfl, am_obB hB rfl, Nat.le_of_ble_eq_true rfl⟩ rfl (rest := []) rfl (s_I_chg hB hT (jx i) (jx c) (by omega) (by omega) (show 2 ≤ d.1 - 1 by omega) (show 49 ≤ d.2 - 22 by omega)) (fun r h1 hq => ?_)
      obtain ⟨rfl, rfl, hT31⟩ := hq
      show am_wp _ _ _ [some (.ref 1), some (.int (nI (jx i))), some (.int (nI (jx c)))] [] _ _
      refine r_pushn (v := nI 1) k5_34 rfl ?_
      have e9 : D_become J i c = (((nI 1), I_chg J (jx i) (jx c))) := by unfold D_become; rw [am_ite_t z8, am_ite_t z19]
      exact r_iret k5_35 rfl ⟨by rw [e9], by rw [e9], by rw [e9]; exact hT31⟩
    · refine r_pushn (v := (-2)) k5_22 rfl ?_
      have e9 : D_become J i c = ((((-2)), J)) := by unfold D_become; rw [am_ite_t z8, am_ite_f z19]
      exact r_iret k5_24 rfl ⟨by rw [e9], by rw [e9], by rw [e9]; exact hT⟩
theorem fr_D_become {J : Nat → Nat → Int32} {i : Int32} {c : Int32} (q : Nat) (hq : ¬ q = 10 ∧ ¬ q = 11 ∧ ¬ q = 12 ∧ ¬ q = 13 ∧ ¬ q = 14) : (D_become J i c).2 q = J q := by
  unfold D_become
  refine fr_i2 (fun _ => ?_) (fun _ => ?_)
  · refine fr_i2 (fun _ => ?_) (fun _ => ?_)
    · exact fr_I_chg q (by omega)
    · exact rfl
  · exact rfl
noncomputable def D_get (J : Nat → Nat → Int32) (i : Int32) (nm : Int32) : Int64 × (Nat → Nat → Int32) := (am_ite ((D_ref J i nm) = 0) (((I_read J (jx i) (jx nm)).1, (I_read J (jx i) (jx nm)).2)) (((Int64.ofInt 1099511627776) + ((D_ref J i nm).toInt64), J)))
set_option maxRecDepth 20000 in
theorem s_D_get {d : am_D} {h : am_H} {J : Nat → Nat → Int32} (hB : am_B h) (hT : am_ty2 J) (i : Int32) (nm : Int32) (hd : 3 ≤ d.1) (hw : 72 ≤ d.2) : am_wp d 6 0 [some (.ref 1), some (.int (i)), some (.int (nm)), none] [] (am_si h J) (fun r h' => r = some (.long (D_get J i nm).1) ∧ h' = am_si h (D_get J i nm).2 ∧ am_ty2 (D_get J i nm).2) := by
  refine r_aload k6_0 rfl ?_
  refine r_iload k6_1 rfl ?_
  refine r_iload k6_2 rfl ?_
  refine j_call (ml := 3) k6_3 rfl (show 0 < d.1 by omega) (show 19 + 3 ≤ d.2 by omega) ⟨Nat.le_of_ble_eq_true rfl, Nat.le_of_ble_eq_true rfl, am_obB hB rfl, Nat.le_of_ble_eq_true rfl⟩ rfl (rest := []) rfl (s_D_ref hB hT i nm (show 2 ≤ d.1 - 1 by omega) (show 43 ≤ d.2 - 22 by omega)) (fun r h1 hq => ?_)
  obtain ⟨rfl, rfl⟩ := hq
  show am_wp _ _ _ [some (.ref 1), some (.int (i)), some (.int (nm)), none] [.int (D_ref J i nm)] _ _
  refine r_istore (L' := [some (.ref 1), some (.int (i)), some (.int (nm)), some (.int (D_ref J i nm))]) k6_6 (Nat.le_of_ble_eq_true rfl) rfl ?_
  refine r_iload k6_7 rfl ?_
  refine r_ifeq k6_8 (fun z8 => ?_) (fun z8 => ?_)
  · have e0_z8 := (D_ref_r hT z8).1
    rw [show ([some (.ref 1), some (.int (i)), some (.int (nm)), some (.int (D_ref J i nm))] : am_L) = [some (.ref 1), some (.int (nI (jx i))), some (.int (nm)), some (.int (D_ref J i nm))] by rw [← e0_z8.1]]
    have e1_z8 := (D_ref_r hT z8).2
    rw [show ([some (.ref 1), some (.int (nI (jx i))), some (.int (nm)), some (.int (D_ref J i nm))] : am_L) = [some (.ref 1), some (.int (nI (jx i))), some (.int (nI (jx nm))), some (.int (D_ref J i nm))] by rw [← e1_z8.1]]
    refine r_aload k6_20 rfl ?_
    refine j_ref (b := 10) k6_21 hB rfl ?_
    refine r_iload k6_24 rfl ?_
    refine r_iload k6_25 rfl ?_
    refine j_call (ml := 4) k6_26 rfl (show 0 < d.1 by omega) (show 19 + 4 ≤ d.2 by omega) ⟨Nat.le_of_ble_eq_true rfl, Nat.le_of_ble_eq_true rfl, am_obB hB rfl, Nat.le_of_ble_eq_true rfl⟩ rfl (rest := []) rfl (s_I_read hB hT (jx i) (jx nm) (by omega) (by omega) (show 2 ≤ d.1 - 1 by omega) (show 49 ≤ d.2 - 23 by omega)) (fun r h1 hq => ?_)
    obtain ⟨rfl, rfl, hT26⟩ := hq
    show am_wp _ _ _ [some (.ref 1), some (.int (nI (jx i))), some (.int (nI (jx nm))), some (.int (D_ref J i nm))] [.long ((I_read J (jx i) (jx nm)).1)] _ _
    have e9 : D_get J i nm = (((I_read J (jx i) (jx nm)).1, (I_read J (jx i) (jx nm)).2)) := by unfold D_get; rw [am_ite_t z8]
    exact r_lret k6_29 rfl ⟨by rw [e9], by rw [e9], by rw [e9]; exact hT26⟩
  · refine r_pushl k6_11 ?_
    refine r_iload k6_14 rfl ?_
    refine r_i2l k6_15 ?_
    refine r_ladd k6_16 ?_
    refine r_goto k6_17 ?_
    have e9 : D_get J i nm = (((Int64.ofInt 1099511627776) + ((D_ref J i nm).toInt64), J)) := by unfold D_get; rw [am_ite_f z8]
    exact r_lret k6_29 rfl ⟨by rw [e9], by rw [e9], by rw [e9]; exact hT⟩
theorem fr_D_get {J : Nat → Nat → Int32} {i : Int32} {nm : Int32} (q : Nat) (hq : ¬ q = 10 ∧ ¬ q = 12 ∧ ¬ q = 13 ∧ ¬ q = 14) : (D_get J i nm).2 q = J q := by
  unfold D_get
  refine fr_i2 (fun _ => ?_) (fun _ => ?_)
  · exact fr_I_read q (by omega)
  · exact rfl
noncomputable def D_put (J : Nat → Nat → Int32) (i : Int32) (nm : Int32) (v : Int32) : Int64 × (Nat → Nat → Int32) := (am_ite ((D_ref J i nm) = 0) (((I_write J (jx i) (jx nm) v).1, (I_write J (jx i) (jx nm) v).2)) (((Int64.ofInt 1099511627776) + ((D_ref J i nm).toInt64), J)))
set_option maxRecDepth 20000 in
theorem s_D_put {d : am_D} {h : am_H} {J : Nat → Nat → Int32} (hB : am_B h) (hT : am_ty2 J) (i : Int32) (nm : Int32) (v : Int32) (hd : 3 ≤ d.1) (hw : 73 ≤ d.2) : am_wp d 7 0 [some (.ref 1), some (.int (i)), some (.int (nm)), some (.int (v)), none] [] (am_si h J) (fun r h' => r = some (.long (D_put J i nm v).1) ∧ h' = am_si h (D_put J i nm v).2 ∧ am_ty2 (D_put J i nm v).2) := by
  refine r_aload k7_0 rfl ?_
  refine r_iload k7_1 rfl ?_
  refine r_iload k7_2 rfl ?_
  refine j_call (ml := 3) k7_3 rfl (show 0 < d.1 by omega) (show 19 + 3 ≤ d.2 by omega) ⟨Nat.le_of_ble_eq_true rfl, Nat.le_of_ble_eq_true rfl, am_obB hB rfl, Nat.le_of_ble_eq_true rfl⟩ rfl (rest := []) rfl (s_D_ref hB hT i nm (show 2 ≤ d.1 - 1 by omega) (show 43 ≤ d.2 - 22 by omega)) (fun r h1 hq => ?_)
  obtain ⟨rfl, rfl⟩ := hq
  show am_wp _ _ _ [some (.ref 1), some (.int (i)), some (.int (nm)), some (.int (v)), none] [.int (D_ref J i nm)] _ _
  refine r_istore (L' := [some (.ref 1), some (.int (i)), some (.int (nm)), some (.int (v)), some (.int (D_ref J i nm))]) k7_6 (Nat.le_of_ble_eq_true rfl) rfl ?_
  refine r_iload k7_8 rfl ?_
  refine r_ifeq k7_10 (fun z10 => ?_) (fun z10 => ?_)
  · have e0_z10 := (D_ref_r hT z10).1
    rw [show ([some (.ref 1), some (.int (i)), some (.int (nm)), some (.int (v)), some (.int (D_ref J i nm))] : am_L) = [some (.ref 1), some (.int (nI (jx i))), some (.int (nm)), some (.int (v)), some (.int (D_ref J i nm))] by rw [← e0_z10.1]]
    have e1_z10 := (D_ref_r hT z10).2
    rw [show ([some (.ref 1), some (.int (nI (jx i))), some (.int (nm)), some (.int (v)), some (.int (D_ref J i nm))] : am_L) = [some (.ref 1), some (.int (nI (jx i))), some (.int (nI (jx nm))), some (.int (v)), some (.int (D_ref J i nm))] by rw [← e1_z10.1]]
    refine r_aload k7_23 rfl ?_
    refine j_ref (b := 10) k7_24 hB rfl ?_
    refine r_iload k7_27 rfl ?_
    refine r_iload k7_28 rfl ?_
    refine r_iload k7_29 rfl ?_
    refine j_call (ml := 5) k7_30 rfl (show 0 < d.1 by omega) (show 19 + 5 ≤ d.2 by omega) ⟨Nat.le_of_ble_eq_true rfl, Nat.le_of_ble_eq_true rfl, am_obB hB rfl, Nat.le_of_ble_eq_true rfl⟩ rfl (rest := []) rfl (s_I_write hB hT (jx i) (jx nm) v (by omega) (by omega) (show 2 ≤ d.1 - 1 by omega) (show 49 ≤ d.2 - 24 by omega)) (fun r h1 hq => ?_)
    obtain ⟨rfl, rfl, hT30⟩ := hq
    show am_wp _ _ _ [some (.ref 1), some (.int (nI (jx i))), some (.int (nI (jx nm))), some (.int (v)), some (.int (D_ref J i nm))] [.long ((I_write J (jx i) (jx nm) v).1)] _ _
    have e9 : D_put J i nm v = (((I_write J (jx i) (jx nm) v).1, (I_write J (jx i) (jx nm) v).2)) := by unfold D_put; rw [am_ite_t z10]
    exact r_lret k7_33 rfl ⟨by rw [e9], by rw [e9], by rw [e9]; exact hT30⟩
  · refine r_pushl k7_13 ?_
    refine r_iload k7_16 rfl ?_
    refine r_i2l k7_18 ?_
    refine r_ladd k7_19 ?_
    refine r_goto k7_20 ?_
    have e9 : D_put J i nm v = (((Int64.ofInt 1099511627776) + ((D_ref J i nm).toInt64), J)) := by unfold D_put; rw [am_ite_f z10]
    exact r_lret k7_33 rfl ⟨by rw [e9], by rw [e9], by rw [e9]; exact hT⟩
theorem fr_D_put {J : Nat → Nat → Int32} {i : Int32} {nm : Int32} {v : Int32} (q : Nat) (hq : ¬ q = 7 ∧ ¬ q = 10 ∧ ¬ q = 12 ∧ ¬ q = 13 ∧ ¬ q = 14) : (D_put J i nm v).2 q = J q := by
  unfold D_put
  refine fr_i2 (fun _ => ?_) (fun _ => ?_)
  · exact fr_I_write q (by omega)
  · exact rfl
noncomputable def D_unbind (J : Nat → Nat → Int32) (i : Int32) (nm : Int32) : Int64 × (Nat → Nat → Int32) := (am_ite ((D_ref J i nm) = 0) (((I_drop J (jx i) (jx nm)).1, (I_drop J (jx i) (jx nm)).2)) (((Int64.ofInt 1099511627776) + ((D_ref J i nm).toInt64), J)))
set_option maxRecDepth 20000 in
theorem s_D_unbind {d : am_D} {h : am_H} {J : Nat → Nat → Int32} (hB : am_B h) (hT : am_ty2 J) (i : Int32) (nm : Int32) (hd : 3 ≤ d.1) (hw : 71 ≤ d.2) : am_wp d 8 0 [some (.ref 1), some (.int (i)), some (.int (nm)), none] [] (am_si h J) (fun r h' => r = some (.long (D_unbind J i nm).1) ∧ h' = am_si h (D_unbind J i nm).2 ∧ am_ty2 (D_unbind J i nm).2) := by
  refine r_aload k8_0 rfl ?_
  refine r_iload k8_1 rfl ?_
  refine r_iload k8_2 rfl ?_
  refine j_call (ml := 3) k8_3 rfl (show 0 < d.1 by omega) (show 19 + 3 ≤ d.2 by omega) ⟨Nat.le_of_ble_eq_true rfl, Nat.le_of_ble_eq_true rfl, am_obB hB rfl, Nat.le_of_ble_eq_true rfl⟩ rfl (rest := []) rfl (s_D_ref hB hT i nm (show 2 ≤ d.1 - 1 by omega) (show 43 ≤ d.2 - 22 by omega)) (fun r h1 hq => ?_)
  obtain ⟨rfl, rfl⟩ := hq
  show am_wp _ _ _ [some (.ref 1), some (.int (i)), some (.int (nm)), none] [.int (D_ref J i nm)] _ _
  refine r_istore (L' := [some (.ref 1), some (.int (i)), some (.int (nm)), some (.int (D_ref J i nm))]) k8_6 (Nat.le_of_ble_eq_true rfl) rfl ?_
  refine r_iload k8_7 rfl ?_
  refine r_ifeq k8_8 (fun z8 => ?_) (fun z8 => ?_)
  · have e0_z8 := (D_ref_r hT z8).1
    rw [show ([some (.ref 1), some (.int (i)), some (.int (nm)), some (.int (D_ref J i nm))] : am_L) = [some (.ref 1), some (.int (nI (jx i))), some (.int (nm)), some (.int (D_ref J i nm))] by rw [← e0_z8.1]]
    have e1_z8 := (D_ref_r hT z8).2
    rw [show ([some (.ref 1), some (.int (nI (jx i))), some (.int (nm)), some (.int (D_ref J i nm))] : am_L) = [some (.ref 1), some (.int (nI (jx i))), some (.int (nI (jx nm))), some (.int (D_ref J i nm))] by rw [← e1_z8.1]]
    refine r_aload k8_20 rfl ?_
    refine j_ref (b := 10) k8_21 hB rfl ?_
    refine r_iload k8_24 rfl ?_
    refine r_iload k8_25 rfl ?_
    refine j_call (ml := 3) k8_26 rfl (show 0 < d.1 by omega) (show 19 + 3 ≤ d.2 by omega) ⟨Nat.le_of_ble_eq_true rfl, Nat.le_of_ble_eq_true rfl, am_obB hB rfl, Nat.le_of_ble_eq_true rfl⟩ rfl (rest := []) rfl (s_I_drop hB hT (jx i) (jx nm) (by omega) (by omega) (show 2 ≤ d.1 - 1 by omega) (show 49 ≤ d.2 - 22 by omega)) (fun r h1 hq => ?_)
    obtain ⟨rfl, rfl, hT26⟩ := hq
    show am_wp _ _ _ [some (.ref 1), some (.int (nI (jx i))), some (.int (nI (jx nm))), some (.int (D_ref J i nm))] [.long ((I_drop J (jx i) (jx nm)).1)] _ _
    have e9 : D_unbind J i nm = (((I_drop J (jx i) (jx nm)).1, (I_drop J (jx i) (jx nm)).2)) := by unfold D_unbind; rw [am_ite_t z8]
    exact r_lret k8_29 rfl ⟨by rw [e9], by rw [e9], by rw [e9]; exact hT26⟩
  · refine r_pushl k8_11 ?_
    refine r_iload k8_14 rfl ?_
    refine r_i2l k8_15 ?_
    refine r_ladd k8_16 ?_
    refine r_goto k8_17 ?_
    have e9 : D_unbind J i nm = (((Int64.ofInt 1099511627776) + ((D_ref J i nm).toInt64), J)) := by unfold D_unbind; rw [am_ite_f z8]
    exact r_lret k8_29 rfl ⟨by rw [e9], by rw [e9], by rw [e9]; exact hT⟩
theorem fr_D_unbind {J : Nat → Nat → Int32} {i : Int32} {nm : Int32} (q : Nat) (hq : ¬ q = 10 ∧ ¬ q = 12 ∧ ¬ q = 13 ∧ ¬ q = 14) : (D_unbind J i nm).2 q = J q := by
  unfold D_unbind
  refine fr_i2 (fun _ => ?_) (fun _ => ?_)
  · exact fr_I_drop q (by omega)
  · exact rfl
noncomputable def D_generic (J : Nat → Nat → Int32) (g : Int32) (n : Int32) : Int32 × (Nat → Nat → Int32) := (am_ite (w_gen g) (am_ite (w_in n (nI 1) (nI 2)) ((((M_start (K_forget J (jx g)) (jx g) (jx n)).1), (M_start (K_forget J (jx g)) (jx g) (jx n)).2)) ((((-1)), J))) ((((-1)), J)))
set_option maxRecDepth 20000 in
theorem s_D_generic {d : am_D} {h : am_H} {J : Nat → Nat → Int32} (hB : am_B h) (hT : am_ty2 J) (g : Int32) (n : Int32) (hd : 2 ≤ d.1) (hw : 46 ≤ d.2) : am_wp d 9 0 [some (.ref 1), some (.int (g)), some (.int (n))] [] (am_si h J) (fun r h' => r = some (.int (D_generic J g n).1) ∧ h' = am_si h (D_generic J g n).2 ∧ am_ty2 (D_generic J g n).2) := by
  refine r_iload k9_0 rfl ?_
  refine j_call (ml := 1) k9_1 rfl (show 0 < d.1 by omega) (show 19 + 1 ≤ d.2 by omega) ⟨Nat.le_of_ble_eq_true rfl, Nat.le_of_ble_eq_true rfl, True.intro, Nat.le_of_ble_eq_true rfl⟩ rfl (rest := []) rfl (s_w_gen g (show 1 ≤ d.1 - 1 by omega) (show 22 ≤ d.2 - 20 by omega)) (fun r h1 hq => ?_)
  obtain ⟨rfl, rfl⟩ := hq
  show am_wp _ _ _ [some (.ref 1), some (.int (g)), some (.int (n))] [.int (am_b (w_gen g))] _ _
  refine r_ifeqB k9_4 (fun z4 => ?_) (fun z4 => ?_)
  · refine r_pushn (v := (-1)) k9_16 rfl ?_
    have e9 : D_generic J g n = ((((-1)), J)) := by unfold D_generic; rw [am_ite_f z4]
    exact r_iret k9_17 rfl ⟨by rw [e9], by rw [e9], by rw [e9]; exact hT⟩
  · have e_g := jx_eq (by decide) z4
    rw [show ([some (.ref 1), some (.int (g)), some (.int (n))] : am_L) = [some (.ref 1), some (.int (nI (jx g))), some (.int (n))] by rw [← e_g.1]]
    refine r_iload k9_7 rfl ?_
    refine r_pushn (v := nI 1) k9_8 rfl ?_
    refine r_pushn (v := nI 2) k9_9 rfl ?_
    refine j_call (ml := 3) k9_10 rfl (show 0 < d.1 by omega) (show 19 + 3 ≤ d.2 by omega) ⟨Nat.le_of_ble_eq_true rfl, Nat.le_of_ble_eq_true rfl, True.intro, Nat.le_of_ble_eq_true rfl⟩ rfl (rest := []) rfl (s_w_in n (nI 1) (nI 2)) (fun r h1 hq => ?_)
    obtain ⟨rfl, rfl⟩ := hq
    show am_wp _ _ _ [some (.ref 1), some (.int (nI (jx g))), some (.int (n))] [.int (am_b (w_in n (nI 1) (nI 2)))] _ _
    refine r_ifneB k9_13 (fun z13 => ?_) (fun z13 => ?_)
    · have e_n := jx_eqL (by decide) (by decide) z13
      rw [show ([some (.ref 1), some (.int (nI (jx g))), some (.int (n))] : am_L) = [some (.ref 1), some (.int (nI (jx g))), some (.int (nI (jx n)))] by rw [← e_n.1]]
      refine r_aload k9_18 rfl ?_
      refine j_ref (b := 22) k9_19 hB rfl ?_
      refine r_iload k9_22 rfl ?_
      refine j_call (ml := 2) k9_23 rfl (show 0 < d.1 by omega) (show 19 + 2 ≤ d.2 by omega) ⟨Nat.le_of_ble_eq_true rfl, Nat.le_of_ble_eq_true rfl, am_obB hB rfl, Nat.le_of_ble_eq_true rfl⟩ rfl (rest := []) rfl (s_K_forget hB hT (jx g) (by omega)) (fun r h1 hq => ?_)
      obtain ⟨rfl, rfl, hT23⟩ := hq
      show am_wp _ _ _ [some (.ref 1), some (.int (nI (jx g))), some (.int (nI (jx n)))] [] _ _
      refine r_aload k9_26 rfl ?_
      refine j_ref (b := 15) k9_27 hB rfl ?_
      refine r_iload k9_30 rfl ?_
      refine r_iload k9_31 rfl ?_
      refine j_call (ml := 5) k9_32 rfl (show 0 < d.1 by omega) (show 19 + 5 ≤ d.2 by omega) ⟨Nat.le_of_ble_eq_true rfl, Nat.le_of_ble_eq_true rfl, am_obB hB rfl, Nat.le_of_ble_eq_true rfl⟩ rfl (rest := []) rfl (s_M_start hB hT23 (jx g) (jx n) (by omega) (by omega) (show 1 ≤ d.1 - 1 by omega) (show 22 ≤ d.2 - 24 by omega)) (fun r h1 hq => ?_)
      obtain ⟨rfl, rfl, hT32⟩ := hq
      show am_wp _ _ _ [some (.ref 1), some (.int (nI (jx g))), some (.int (nI (jx n)))] [.int ((M_start (K_forget J (jx g)) (jx g) (jx n)).1)] _ _
      have e9 : D_generic J g n = ((((M_start (K_forget J (jx g)) (jx g) (jx n)).1), (M_start (K_forget J (jx g)) (jx g) (jx n)).2)) := by unfold D_generic; rw [am_ite_t z4, am_ite_t z13]
      exact r_iret k9_35 rfl ⟨by rw [e9], by rw [e9], by rw [e9]; exact hT32⟩
    · refine r_pushn (v := (-1)) k9_16 rfl ?_
      have e9 : D_generic J g n = ((((-1)), J)) := by unfold D_generic; rw [am_ite_t z4, am_ite_f z13]
      exact r_iret k9_17 rfl ⟨by rw [e9], by rw [e9], by rw [e9]; exact hT⟩
theorem fr_D_generic {J : Nat → Nat → Int32} {g : Int32} {n : Int32} (q : Nat) (hq : ¬ q = 15 ∧ ¬ q = 16 ∧ ¬ q = 17 ∧ ¬ q = 24 ∧ ¬ q = 25) : (D_generic J g n).2 q = J q := by
  unfold D_generic
  refine fr_i2 (fun _ => ?_) (fun _ => ?_)
  · refine fr_i2 (fun _ => ?_) (fun _ => ?_)
    · exact (fr_M_start q (by omega)).trans (fr_K_forget q (by omega))
    · exact rfl
  · exact rfl
noncomputable def D_method (J : Nat → Nat → Int32) (g : Int32) (kind : Int32) (s : Int32) (t : Int32) (body : Int32) : Int32 × (Nat → Nat → Int32) := (am_ite (w_gen g) (am_ite (w_in kind (nI 0) (nI 3)) (am_ite (w_body body) (am_ite ((jn J 16 (jx g)) = 2) (am_ite (w_spec s) (am_ite (w_spec t) (am_ite ((jn J 16 (jx g)) = 0) ((((-2)), J)) (am_ite (D_spth J (nI (jx s))) (am_ite (D_spth J (nI (jx t))) (am_ite (((M_settle J (jx g) (jx kind) (jx s) (nI (jx t)) (jx body)).1) < 0) ((((M_settle J (jx g) (jx kind) (jx s) (nI (jx t)) (jx body)).1), (M_settle J (jx g) (jx kind) (jx s) (nI (jx t)) (jx body)).2)) ((((M_settle J (jx g) (jx kind) (jx s) (nI (jx t)) (jx body)).1), K_forget ((M_settle J (jx g) (jx kind) (jx s) (nI (jx t)) (jx body)).2) (jx g)))) ((((-2)), J))) ((((-2)), J)))) ((((-1)), J))) ((((-1)), J))) (am_ite (w_spec s) (am_ite ((jn J 16 (jx g)) = 0) ((((-2)), J)) (am_ite (D_spth J (nI (jx s))) (am_ite (((M_settle J (jx g) (jx kind) (jx s) ((-1)) (jx body)).1) < 0) ((((M_settle J (jx g) (jx kind) (jx s) ((-1)) (jx body)).1), (M_settle J (jx g) (jx kind) (jx s) ((-1)) (jx body)).2)) ((((M_settle J (jx g) (jx kind) (jx s) ((-1)) (jx body)).1), K_forget ((M_settle J (jx g) (jx kind) (jx s) ((-1)) (jx body)).2) (jx g)))) ((((-2)), J)))) ((((-1)), J)))) ((((-1)), J))) ((((-1)), J))) ((((-1)), J)))
set_option maxRecDepth 20000 in
theorem s_D_method {d : am_D} {h : am_H} {J : Nat → Nat → Int32} (hB : am_B h) (hT : am_ty2 J) (g : Int32) (kind : Int32) (s : Int32) (t : Int32) (body : Int32) (hd : 3 ≤ d.1) (hw : 73 ≤ d.2) : am_wp d 10 0 [some (.ref 1), some (.int (g)), some (.int (kind)), some (.int (s)), some (.int (t)), some (.int (body)), none, none, none] [] (am_si h J) (fun r h' => r = some (.int (D_method J g kind s t body).1) ∧ h' = am_si h (D_method J g kind s t body).2 ∧ am_ty2 (D_method J g kind s t body).2) := by
  refine r_iload k10_0 rfl ?_
  refine j_call (ml := 1) k10_1 rfl (show 0 < d.1 by omega) (show 19 + 1 ≤ d.2 by omega) ⟨Nat.le_of_ble_eq_true rfl, Nat.le_of_ble_eq_true rfl, True.intro, Nat.le_of_ble_eq_true rfl⟩ rfl (rest := []) rfl (s_w_gen g (show 1 ≤ d.1 - 1 by omega) (show 22 ≤ d.2 - 20 by omega)) (fun r h1 hq => ?_)
  obtain ⟨rfl, rfl⟩ := hq
  show am_wp _ _ _ [some (.ref 1), some (.int (g)), some (.int (kind)), some (.int (s)), some (.int (t)), some (.int (body)), none, none, none] [.int (am_b (w_gen g))] _ _
  refine r_ifeqB k10_4 (fun z4 => ?_) (fun z4 => ?_)
  · refine r_pushn (v := (-1)) k10_24 rfl ?_
    have e9 : D_method J g kind s t body = ((((-1)), J)) := by unfold D_method; rw [am_ite_f z4]
    exact r_iret k10_25 rfl ⟨by rw [e9], by rw [e9], by rw [e9]; exact hT⟩
  · have e_g := jx_eq (by decide) z4
    rw [show ([some (.ref 1), some (.int (g)), some (.int (kind)), some (.int (s)), some (.int (t)), some (.int (body)), none, none, none] : am_L) = [some (.ref 1), some (.int (nI (jx g))), some (.int (kind)), some (.int (s)), some (.int (t)), some (.int (body)), none, none, none] by rw [← e_g.1]]
    refine r_iload k10_7 rfl ?_
    refine r_pushn (v := nI 0) k10_8 rfl ?_
    refine r_pushn (v := nI 3) k10_9 rfl ?_
    refine j_call (ml := 3) k10_10 rfl (show 0 < d.1 by omega) (show 19 + 3 ≤ d.2 by omega) ⟨Nat.le_of_ble_eq_true rfl, Nat.le_of_ble_eq_true rfl, True.intro, Nat.le_of_ble_eq_true rfl⟩ rfl (rest := []) rfl (s_w_in kind (nI 0) (nI 3)) (fun r h1 hq => ?_)
    obtain ⟨rfl, rfl⟩ := hq
    show am_wp _ _ _ [some (.ref 1), some (.int (nI (jx g))), some (.int (kind)), some (.int (s)), some (.int (t)), some (.int (body)), none, none, none] [.int (am_b (w_in kind (nI 0) (nI 3)))] _ _
    refine r_ifeqB k10_13 (fun z13 => ?_) (fun z13 => ?_)
    · refine r_pushn (v := (-1)) k10_24 rfl ?_
      have e9 : D_method J g kind s t body = ((((-1)), J)) := by unfold D_method; rw [am_ite_t z4, am_ite_f z13]
      exact r_iret k10_25 rfl ⟨by rw [e9], by rw [e9], by rw [e9]; exact hT⟩
    · have e_kind := jx_eq (by decide) z13
      rw [show ([some (.ref 1), some (.int (nI (jx g))), some (.int (kind)), some (.int (s)), some (.int (t)), some (.int (body)), none, none, none] : am_L) = [some (.ref 1), some (.int (nI (jx g))), some (.int (nI (jx kind))), some (.int (s)), some (.int (t)), some (.int (body)), none, none, none] by rw [← e_kind.1]]
      refine r_iload k10_16 rfl ?_
      refine j_call (ml := 1) k10_18 rfl (show 0 < d.1 by omega) (show 19 + 1 ≤ d.2 by omega) ⟨Nat.le_of_ble_eq_true rfl, Nat.le_of_ble_eq_true rfl, True.intro, Nat.le_of_ble_eq_true rfl⟩ rfl (rest := []) rfl (s_w_body body (show 1 ≤ d.1 - 1 by omega) (show 22 ≤ d.2 - 20 by omega)) (fun r h1 hq => ?_)
      obtain ⟨rfl, rfl⟩ := hq
      show am_wp _ _ _ [some (.ref 1), some (.int (nI (jx g))), some (.int (nI (jx kind))), some (.int (s)), some (.int (t)), some (.int (body)), none, none, none] [.int (am_b (w_body body))] _ _
      refine r_ifneB k10_21 (fun z21 => ?_) (fun z21 => ?_)
      · have e_body := jx_eq (by decide) z21
        rw [show ([some (.ref 1), some (.int (nI (jx g))), some (.int (nI (jx kind))), some (.int (s)), some (.int (t)), some (.int (body)), none, none, none] : am_L) = [some (.ref 1), some (.int (nI (jx g))), some (.int (nI (jx kind))), some (.int (s)), some (.int (t)), some (.int (nI (jx body))), none, none, none] by rw [← e_body.1]]
        refine r_aload k10_26 rfl ?_
        refine j_ref (b := 15) k10_27 hB rfl ?_
        refine r_iload k10_30 rfl ?_
        refine j_call (ml := 2) k10_31 rfl (show 0 < d.1 by omega) (show 19 + 2 ≤ d.2 by omega) ⟨Nat.le_of_ble_eq_true rfl, Nat.le_of_ble_eq_true rfl, am_obB hB rfl, Nat.le_of_ble_eq_true rfl⟩ rfl (rest := []) rfl (s_M_par hB hT (jx g) (by omega)) (fun r h1 hq => ?_)
        obtain ⟨rfl, rfl⟩ := hq
        show am_wp _ _ _ [some (.ref 1), some (.int (nI (jx g))), some (.int (nI (jx kind))), some (.int (s)), some (.int (t)), some (.int (nI (jx body))), none, none, none] [.int (M_par J (jx g))] _ _
        rw [show M_par J (jx g) = nI (jn J 16 (jx g)) from rfl]
        have b31 := ty_n hT (q := 16) (B := 3) (by decide) (by decide) (jx g)
        refine r_istore (L' := [some (.ref 1), some (.int (nI (jx g))), some (.int (nI (jx kind))), some (.int (s)), some (.int (t)), some (.int (nI (jx body))), some (.int (nI (jn J 16 (jx g)))), none, none]) k10_34 (Nat.le_of_ble_eq_true rfl) rfl ?_
        refine r_iload k10_36 rfl ?_
        refine r_pushn (v := nI 2) k10_38 rfl ?_
        refine r_icmpneN (by omega) (by omega) k10_39 (fun z39 => ?_) (fun z39 => ?_)
        · refine r_pushn (v := nI 0) k10_46 rfl ?_
          refine r_istore (L' := [some (.ref 1), some (.int (nI (jx g))), some (.int (nI (jx kind))), some (.int (s)), some (.int (t)), some (.int (nI (jx body))), some (.int (nI (jn J 16 (jx g)))), some (.int (nI 0)), none]) k10_47 (Nat.le_of_ble_eq_true rfl) rfl ?_
          refine r_iload k10_49 rfl ?_
          refine j_call (ml := 1) k10_50 rfl (show 0 < d.1 by omega) (show 19 + 1 ≤ d.2 by omega) ⟨Nat.le_of_ble_eq_true rfl, Nat.le_of_ble_eq_true rfl, True.intro, Nat.le_of_ble_eq_true rfl⟩ rfl (rest := []) rfl (s_w_spec s (show 1 ≤ d.1 - 1 by omega) (show 22 ≤ d.2 - 20 by omega)) (fun r h1 hq => ?_)
          obtain ⟨rfl, rfl⟩ := hq
          show am_wp _ _ _ [some (.ref 1), some (.int (nI (jx g))), some (.int (nI (jx kind))), some (.int (s)), some (.int (t)), some (.int (nI (jx body))), some (.int (nI (jn J 16 (jx g)))), some (.int (nI 0)), none] [.int (am_b (w_spec s))] _ _
          refine r_ifeqB k10_53 (fun z53 => ?_) (fun z53 => ?_)
          · refine r_pushn (v := (-1)) k10_69 rfl ?_
            have e9 : D_method J g kind s t body = ((((-1)), J)) := by unfold D_method; rw [am_ite_t z4, am_ite_t z13, am_ite_t z21, am_ite_f z39, am_ite_f z53]
            exact r_iret k10_70 rfl ⟨by rw [e9], by rw [e9], by rw [e9]; exact hT⟩
          · have e_s := w_spec_r z53
            rw [show ([some (.ref 1), some (.int (nI (jx g))), some (.int (nI (jx kind))), some (.int (s)), some (.int (t)), some (.int (nI (jx body))), some (.int (nI (jn J 16 (jx g)))), some (.int (nI 0)), none] : am_L) = [some (.ref 1), some (.int (nI (jx g))), some (.int (nI (jx kind))), some (.int (nI (jx s))), some (.int (t)), some (.int (nI (jx body))), some (.int (nI (jn J 16 (jx g)))), some (.int (nI 0)), none] by rw [← e_s.1]]
            refine r_iload k10_56 rfl ?_
            refine r_ifeqN (by omega) k10_58 (fun _ => ?_) (fun z => absurd z (by decide))
            refine r_iload k10_71 rfl ?_
            refine r_ifeqN (by omega) k10_73 (fun z73 => ?_) (fun z73 => ?_)
            · refine r_pushn (v := (-2)) k10_98 rfl ?_
              have e9 : D_method J g kind s t body = ((((-2)), J)) := by unfold D_method; rw [am_ite_t z4, am_ite_t z13, am_ite_t z21, am_ite_f z39, am_ite_t z53, am_ite_t z73]
              exact r_iret k10_100 rfl ⟨by rw [e9], by rw [e9], by rw [e9]; exact hT⟩
            · refine r_aload k10_76 rfl ?_
              refine r_iload k10_77 rfl ?_
              refine j_call (ml := 2) k10_78 rfl (show 0 < d.1 by omega) (show 19 + 2 ≤ d.2 by omega) ⟨Nat.le_of_ble_eq_true rfl, Nat.le_of_ble_eq_true rfl, am_obB hB rfl, Nat.le_of_ble_eq_true rfl⟩ rfl (rest := []) rfl (s_D_spth hB hT (nI (jx s)) (show 2 ≤ d.1 - 1 by omega) (show 43 ≤ d.2 - 21 by omega)) (fun r h1 hq => ?_)
              obtain ⟨rfl, rfl⟩ := hq
              show am_wp _ _ _ [some (.ref 1), some (.int (nI (jx g))), some (.int (nI (jx kind))), some (.int (nI (jx s))), some (.int (t)), some (.int (nI (jx body))), some (.int (nI (jn J 16 (jx g)))), some (.int (nI 0)), none] [.int (am_b (D_spth J (nI (jx s))))] _ _
              refine r_ifeqB k10_81 (fun z81 => ?_) (fun z81 => ?_)
              · refine r_pushn (v := (-2)) k10_98 rfl ?_
                have e9 : D_method J g kind s t body = ((((-2)), J)) := by unfold D_method; rw [am_ite_t z4, am_ite_t z13, am_ite_t z21, am_ite_f z39, am_ite_t z53, am_ite_f z73, am_ite_f z81]
                exact r_iret k10_100 rfl ⟨by rw [e9], by rw [e9], by rw [e9]; exact hT⟩
              · refine r_iload k10_84 rfl ?_
                refine r_ifeqN (by omega) k10_86 (fun _ => ?_) (fun z => absurd z (by decide))
                refine r_aload k10_101 rfl ?_
                refine j_ref (b := 15) k10_102 hB rfl ?_
                refine r_iload k10_105 rfl ?_
                refine r_iload k10_106 rfl ?_
                refine r_iload k10_107 rfl ?_
                refine r_iload k10_108 rfl ?_
                refine r_ifeqN (by omega) k10_110 (fun _ => ?_) (fun z => absurd z (by decide))
                refine r_pushn (v := (-1)) k10_118 rfl ?_
                refine r_iload k10_119 rfl ?_
                refine j_call (ml := 7) k10_121 rfl (show 0 < d.1 by omega) (show 19 + 7 ≤ d.2 by omega) ⟨Nat.le_of_ble_eq_true rfl, Nat.le_of_ble_eq_true rfl, am_obB hB rfl, Nat.le_of_ble_eq_true rfl⟩ rfl (rest := []) rfl (s_M_settle hB hT (jx g) (jx kind) (jx s) ((-1)) (jx body) (by omega) (by omega) (by omega) (Or.inl rfl) (by omega) (show 2 ≤ d.1 - 1 by omega) (show 47 ≤ d.2 - 26 by omega)) (fun r h1 hq => ?_)
                obtain ⟨rfl, rfl, hT121⟩ := hq
                show am_wp _ _ _ [some (.ref 1), some (.int (nI (jx g))), some (.int (nI (jx kind))), some (.int (nI (jx s))), some (.int (t)), some (.int (nI (jx body))), some (.int (nI (jn J 16 (jx g)))), some (.int (nI 0)), none] [.int ((M_settle J (jx g) (jx kind) (jx s) ((-1)) (jx body)).1)] _ _
                refine r_istore (L' := [some (.ref 1), some (.int (nI (jx g))), some (.int (nI (jx kind))), some (.int (nI (jx s))), some (.int (t)), some (.int (nI (jx body))), some (.int (nI (jn J 16 (jx g)))), some (.int (nI 0)), some (.int ((M_settle J (jx g) (jx kind) (jx s) ((-1)) (jx body)).1))]) k10_124 (Nat.le_of_ble_eq_true rfl) rfl ?_
                refine r_iload k10_126 rfl ?_
                refine r_iflt k10_128 (fun z128 => ?_) (fun z128 => ?_)
                · refine r_iload k10_139 rfl ?_
                  have e9 : D_method J g kind s t body = ((((M_settle J (jx g) (jx kind) (jx s) ((-1)) (jx body)).1), (M_settle J (jx g) (jx kind) (jx s) ((-1)) (jx body)).2)) := by unfold D_method; rw [am_ite_t z4, am_ite_t z13, am_ite_t z21, am_ite_f z39, am_ite_t z53, am_ite_f z73, am_ite_t z81, am_ite_t z128]
                  exact r_iret k10_141 rfl ⟨by rw [e9], by rw [e9], by rw [e9]; exact hT121⟩
                · refine r_aload k10_131 rfl ?_
                  refine j_ref (b := 22) k10_132 hB rfl ?_
                  refine r_iload k10_135 rfl ?_
                  refine j_call (ml := 2) k10_136 rfl (show 0 < d.1 by omega) (show 19 + 2 ≤ d.2 by omega) ⟨Nat.le_of_ble_eq_true rfl, Nat.le_of_ble_eq_true rfl, am_obB hB rfl, Nat.le_of_ble_eq_true rfl⟩ rfl (rest := []) rfl (s_K_forget hB hT121 (jx g) (by omega)) (fun r h1 hq => ?_)
                  obtain ⟨rfl, rfl, hT136⟩ := hq
                  show am_wp _ _ _ [some (.ref 1), some (.int (nI (jx g))), some (.int (nI (jx kind))), some (.int (nI (jx s))), some (.int (t)), some (.int (nI (jx body))), some (.int (nI (jn J 16 (jx g)))), some (.int (nI 0)), some (.int ((M_settle J (jx g) (jx kind) (jx s) ((-1)) (jx body)).1))] [] _ _
                  refine r_iload k10_139 rfl ?_
                  have e9 : D_method J g kind s t body = ((((M_settle J (jx g) (jx kind) (jx s) ((-1)) (jx body)).1), K_forget ((M_settle J (jx g) (jx kind) (jx s) ((-1)) (jx body)).2) (jx g))) := by unfold D_method; rw [am_ite_t z4, am_ite_t z13, am_ite_t z21, am_ite_f z39, am_ite_t z53, am_ite_f z73, am_ite_t z81, am_ite_f z128]
                  exact r_iret k10_141 rfl ⟨by rw [e9], by rw [e9], by rw [e9]; exact hT136⟩
        · refine r_pushn (v := nI 1) k10_42 rfl ?_
          refine r_goto k10_43 ?_
          refine r_istore (L' := [some (.ref 1), some (.int (nI (jx g))), some (.int (nI (jx kind))), some (.int (s)), some (.int (t)), some (.int (nI (jx body))), some (.int (nI (jn J 16 (jx g)))), some (.int (nI 1)), none]) k10_47 (Nat.le_of_ble_eq_true rfl) rfl ?_
          refine r_iload k10_49 rfl ?_
          refine j_call (ml := 1) k10_50 rfl (show 0 < d.1 by omega) (show 19 + 1 ≤ d.2 by omega) ⟨Nat.le_of_ble_eq_true rfl, Nat.le_of_ble_eq_true rfl, True.intro, Nat.le_of_ble_eq_true rfl⟩ rfl (rest := []) rfl (s_w_spec s (show 1 ≤ d.1 - 1 by omega) (show 22 ≤ d.2 - 20 by omega)) (fun r h1 hq => ?_)
          obtain ⟨rfl, rfl⟩ := hq
          show am_wp _ _ _ [some (.ref 1), some (.int (nI (jx g))), some (.int (nI (jx kind))), some (.int (s)), some (.int (t)), some (.int (nI (jx body))), some (.int (nI (jn J 16 (jx g)))), some (.int (nI 1)), none] [.int (am_b (w_spec s))] _ _
          refine r_ifeqB k10_53 (fun z53 => ?_) (fun z53 => ?_)
          · refine r_pushn (v := (-1)) k10_69 rfl ?_
            have e9 : D_method J g kind s t body = ((((-1)), J)) := by unfold D_method; rw [am_ite_t z4, am_ite_t z13, am_ite_t z21, am_ite_t z39, am_ite_f z53]
            exact r_iret k10_70 rfl ⟨by rw [e9], by rw [e9], by rw [e9]; exact hT⟩
          · have e_s := w_spec_r z53
            rw [show ([some (.ref 1), some (.int (nI (jx g))), some (.int (nI (jx kind))), some (.int (s)), some (.int (t)), some (.int (nI (jx body))), some (.int (nI (jn J 16 (jx g)))), some (.int (nI 1)), none] : am_L) = [some (.ref 1), some (.int (nI (jx g))), some (.int (nI (jx kind))), some (.int (nI (jx s))), some (.int (t)), some (.int (nI (jx body))), some (.int (nI (jn J 16 (jx g)))), some (.int (nI 1)), none] by rw [← e_s.1]]
            refine r_iload k10_56 rfl ?_
            refine r_ifeqN (by omega) k10_58 (fun z => absurd z (by decide)) (fun _ => ?_)
            refine r_iload k10_61 rfl ?_
            refine j_call (ml := 1) k10_63 rfl (show 0 < d.1 by omega) (show 19 + 1 ≤ d.2 by omega) ⟨Nat.le_of_ble_eq_true rfl, Nat.le_of_ble_eq_true rfl, True.intro, Nat.le_of_ble_eq_true rfl⟩ rfl (rest := []) rfl (s_w_spec t (show 1 ≤ d.1 - 1 by omega) (show 22 ≤ d.2 - 20 by omega)) (fun r h1 hq => ?_)
            obtain ⟨rfl, rfl⟩ := hq
            show am_wp _ _ _ [some (.ref 1), some (.int (nI (jx g))), some (.int (nI (jx kind))), some (.int (nI (jx s))), some (.int (t)), some (.int (nI (jx body))), some (.int (nI (jn J 16 (jx g)))), some (.int (nI 1)), none] [.int (am_b (w_spec t))] _ _
            refine r_ifneB k10_66 (fun z66 => ?_) (fun z66 => ?_)
            · have e_t := w_spec_r z66
              rw [show ([some (.ref 1), some (.int (nI (jx g))), some (.int (nI (jx kind))), some (.int (nI (jx s))), some (.int (t)), some (.int (nI (jx body))), some (.int (nI (jn J 16 (jx g)))), some (.int (nI 1)), none] : am_L) = [some (.ref 1), some (.int (nI (jx g))), some (.int (nI (jx kind))), some (.int (nI (jx s))), some (.int (nI (jx t))), some (.int (nI (jx body))), some (.int (nI (jn J 16 (jx g)))), some (.int (nI 1)), none] by rw [← e_t.1]]
              refine r_iload k10_71 rfl ?_
              refine r_ifeqN (by omega) k10_73 (fun z73 => ?_) (fun z73 => ?_)
              · refine r_pushn (v := (-2)) k10_98 rfl ?_
                have e9 : D_method J g kind s t body = ((((-2)), J)) := by unfold D_method; rw [am_ite_t z4, am_ite_t z13, am_ite_t z21, am_ite_t z39, am_ite_t z53, am_ite_t z66, am_ite_t z73]
                exact r_iret k10_100 rfl ⟨by rw [e9], by rw [e9], by rw [e9]; exact hT⟩
              · refine r_aload k10_76 rfl ?_
                refine r_iload k10_77 rfl ?_
                refine j_call (ml := 2) k10_78 rfl (show 0 < d.1 by omega) (show 19 + 2 ≤ d.2 by omega) ⟨Nat.le_of_ble_eq_true rfl, Nat.le_of_ble_eq_true rfl, am_obB hB rfl, Nat.le_of_ble_eq_true rfl⟩ rfl (rest := []) rfl (s_D_spth hB hT (nI (jx s)) (show 2 ≤ d.1 - 1 by omega) (show 43 ≤ d.2 - 21 by omega)) (fun r h1 hq => ?_)
                obtain ⟨rfl, rfl⟩ := hq
                show am_wp _ _ _ [some (.ref 1), some (.int (nI (jx g))), some (.int (nI (jx kind))), some (.int (nI (jx s))), some (.int (nI (jx t))), some (.int (nI (jx body))), some (.int (nI (jn J 16 (jx g)))), some (.int (nI 1)), none] [.int (am_b (D_spth J (nI (jx s))))] _ _
                refine r_ifeqB k10_81 (fun z81 => ?_) (fun z81 => ?_)
                · refine r_pushn (v := (-2)) k10_98 rfl ?_
                  have e9 : D_method J g kind s t body = ((((-2)), J)) := by unfold D_method; rw [am_ite_t z4, am_ite_t z13, am_ite_t z21, am_ite_t z39, am_ite_t z53, am_ite_t z66, am_ite_f z73, am_ite_f z81]
                  exact r_iret k10_100 rfl ⟨by rw [e9], by rw [e9], by rw [e9]; exact hT⟩
                · refine r_iload k10_84 rfl ?_
                  refine r_ifeqN (by omega) k10_86 (fun z => absurd z (by decide)) (fun _ => ?_)
                  refine r_aload k10_89 rfl ?_
                  refine r_iload k10_90 rfl ?_
                  refine j_call (ml := 2) k10_92 rfl (show 0 < d.1 by omega) (show 19 + 2 ≤ d.2 by omega) ⟨Nat.le_of_ble_eq_true rfl, Nat.le_of_ble_eq_true rfl, am_obB hB rfl, Nat.le_of_ble_eq_true rfl⟩ rfl (rest := []) rfl (s_D_spth hB hT (nI (jx t)) (show 2 ≤ d.1 - 1 by omega) (show 43 ≤ d.2 - 21 by omega)) (fun r h1 hq => ?_)
                  obtain ⟨rfl, rfl⟩ := hq
                  show am_wp _ _ _ [some (.ref 1), some (.int (nI (jx g))), some (.int (nI (jx kind))), some (.int (nI (jx s))), some (.int (nI (jx t))), some (.int (nI (jx body))), some (.int (nI (jn J 16 (jx g)))), some (.int (nI 1)), none] [.int (am_b (D_spth J (nI (jx t))))] _ _
                  refine r_ifneB k10_95 (fun z95 => ?_) (fun z95 => ?_)
                  · refine r_aload k10_101 rfl ?_
                    refine j_ref (b := 15) k10_102 hB rfl ?_
                    refine r_iload k10_105 rfl ?_
                    refine r_iload k10_106 rfl ?_
                    refine r_iload k10_107 rfl ?_
                    refine r_iload k10_108 rfl ?_
                    refine r_ifeqN (by omega) k10_110 (fun z => absurd z (by decide)) (fun _ => ?_)
                    refine r_iload k10_113 rfl ?_
                    refine r_goto k10_115 ?_
                    refine r_iload k10_119 rfl ?_
                    refine j_call (ml := 7) k10_121 rfl (show 0 < d.1 by omega) (show 19 + 7 ≤ d.2 by omega) ⟨Nat.le_of_ble_eq_true rfl, Nat.le_of_ble_eq_true rfl, am_obB hB rfl, Nat.le_of_ble_eq_true rfl⟩ rfl (rest := []) rfl (s_M_settle hB hT (jx g) (jx kind) (jx s) (nI (jx t)) (jx body) (by omega) (by omega) (by omega) (Or.inr ⟨_, by omega, rfl⟩) (by omega) (show 2 ≤ d.1 - 1 by omega) (show 47 ≤ d.2 - 26 by omega)) (fun r h1 hq => ?_)
                    obtain ⟨rfl, rfl, hT121⟩ := hq
                    show am_wp _ _ _ [some (.ref 1), some (.int (nI (jx g))), some (.int (nI (jx kind))), some (.int (nI (jx s))), some (.int (nI (jx t))), some (.int (nI (jx body))), some (.int (nI (jn J 16 (jx g)))), some (.int (nI 1)), none] [.int ((M_settle J (jx g) (jx kind) (jx s) (nI (jx t)) (jx body)).1)] _ _
                    refine r_istore (L' := [some (.ref 1), some (.int (nI (jx g))), some (.int (nI (jx kind))), some (.int (nI (jx s))), some (.int (nI (jx t))), some (.int (nI (jx body))), some (.int (nI (jn J 16 (jx g)))), some (.int (nI 1)), some (.int ((M_settle J (jx g) (jx kind) (jx s) (nI (jx t)) (jx body)).1))]) k10_124 (Nat.le_of_ble_eq_true rfl) rfl ?_
                    refine r_iload k10_126 rfl ?_
                    refine r_iflt k10_128 (fun z128 => ?_) (fun z128 => ?_)
                    · refine r_iload k10_139 rfl ?_
                      have e9 : D_method J g kind s t body = ((((M_settle J (jx g) (jx kind) (jx s) (nI (jx t)) (jx body)).1), (M_settle J (jx g) (jx kind) (jx s) (nI (jx t)) (jx body)).2)) := by unfold D_method; rw [am_ite_t z4, am_ite_t z13, am_ite_t z21, am_ite_t z39, am_ite_t z53, am_ite_t z66, am_ite_f z73, am_ite_t z81, am_ite_t z95, am_ite_t z128]
                      exact r_iret k10_141 rfl ⟨by rw [e9], by rw [e9], by rw [e9]; exact hT121⟩
                    · refine r_aload k10_131 rfl ?_
                      refine j_ref (b := 22) k10_132 hB rfl ?_
                      refine r_iload k10_135 rfl ?_
                      refine j_call (ml := 2) k10_136 rfl (show 0 < d.1 by omega) (show 19 + 2 ≤ d.2 by omega) ⟨Nat.le_of_ble_eq_true rfl, Nat.le_of_ble_eq_true rfl, am_obB hB rfl, Nat.le_of_ble_eq_true rfl⟩ rfl (rest := []) rfl (s_K_forget hB hT121 (jx g) (by omega)) (fun r h1 hq => ?_)
                      obtain ⟨rfl, rfl, hT136⟩ := hq
                      show am_wp _ _ _ [some (.ref 1), some (.int (nI (jx g))), some (.int (nI (jx kind))), some (.int (nI (jx s))), some (.int (nI (jx t))), some (.int (nI (jx body))), some (.int (nI (jn J 16 (jx g)))), some (.int (nI 1)), some (.int ((M_settle J (jx g) (jx kind) (jx s) (nI (jx t)) (jx body)).1))] [] _ _
                      refine r_iload k10_139 rfl ?_
                      have e9 : D_method J g kind s t body = ((((M_settle J (jx g) (jx kind) (jx s) (nI (jx t)) (jx body)).1), K_forget ((M_settle J (jx g) (jx kind) (jx s) (nI (jx t)) (jx body)).2) (jx g))) := by unfold D_method; rw [am_ite_t z4, am_ite_t z13, am_ite_t z21, am_ite_t z39, am_ite_t z53, am_ite_t z66, am_ite_f z73, am_ite_t z81, am_ite_t z95, am_ite_f z128]
                      exact r_iret k10_141 rfl ⟨by rw [e9], by rw [e9], by rw [e9]; exact hT136⟩
                  · refine r_pushn (v := (-2)) k10_98 rfl ?_
                    have e9 : D_method J g kind s t body = ((((-2)), J)) := by unfold D_method; rw [am_ite_t z4, am_ite_t z13, am_ite_t z21, am_ite_t z39, am_ite_t z53, am_ite_t z66, am_ite_f z73, am_ite_t z81, am_ite_f z95]
                    exact r_iret k10_100 rfl ⟨by rw [e9], by rw [e9], by rw [e9]; exact hT⟩
            · refine r_pushn (v := (-1)) k10_69 rfl ?_
              have e9 : D_method J g kind s t body = ((((-1)), J)) := by unfold D_method; rw [am_ite_t z4, am_ite_t z13, am_ite_t z21, am_ite_t z39, am_ite_t z53, am_ite_f z66]
              exact r_iret k10_70 rfl ⟨by rw [e9], by rw [e9], by rw [e9]; exact hT⟩
      · refine r_pushn (v := (-1)) k10_24 rfl ?_
        have e9 : D_method J g kind s t body = ((((-1)), J)) := by unfold D_method; rw [am_ite_t z4, am_ite_t z13, am_ite_f z21]
        exact r_iret k10_25 rfl ⟨by rw [e9], by rw [e9], by rw [e9]; exact hT⟩
theorem fr_D_method {J : Nat → Nat → Int32} {g : Int32} {kind : Int32} {s : Int32} {t : Int32} {body : Int32} (q : Nat) (hq : ¬ q = 15 ∧ ¬ q = 17 ∧ ¬ q = 18 ∧ ¬ q = 19 ∧ ¬ q = 20 ∧ ¬ q = 21 ∧ ¬ q = 24 ∧ ¬ q = 25) : (D_method J g kind s t body).2 q = J q := by
  unfold D_method
  refine fr_i2 (fun _ => ?_) (fun _ => ?_)
  · refine fr_i2 (fun _ => ?_) (fun _ => ?_)
    · refine fr_i2 (fun _ => ?_) (fun _ => ?_)
      · refine fr_i2 (fun _ => ?_) (fun _ => ?_)
        · refine fr_i2 (fun _ => ?_) (fun _ => ?_)
          · refine fr_i2 (fun _ => ?_) (fun _ => ?_)
            · refine fr_i2 (fun _ => ?_) (fun _ => ?_)
              · exact rfl
              · refine fr_i2 (fun _ => ?_) (fun _ => ?_)
                · refine fr_i2 (fun _ => ?_) (fun _ => ?_)
                  · refine fr_i2 (fun _ => ?_) (fun _ => ?_)
                    · exact fr_M_settle q (by omega)
                    · exact (fr_K_forget q (by omega)).trans (fr_M_settle q (by omega))
                  · exact rfl
                · exact rfl
            · exact rfl
          · exact rfl
        · refine fr_i2 (fun _ => ?_) (fun _ => ?_)
          · refine fr_i2 (fun _ => ?_) (fun _ => ?_)
            · exact rfl
            · refine fr_i2 (fun _ => ?_) (fun _ => ?_)
              · refine fr_i2 (fun _ => ?_) (fun _ => ?_)
                · exact fr_M_settle q (by omega)
                · exact (fr_K_forget q (by omega)).trans (fr_M_settle q (by omega))
              · exact rfl
          · exact rfl
      · exact rfl
    · exact rfl
  · exact rfl
noncomputable def D_remove (J : Nat → Nat → Int32) (m : Int32) : Int32 × (Nat → Nat → Int32) := (am_ite (M_there J m) (((nI (jn J 17 (jx m))), K_forget ((M_take J (jx m)).2) (jn J 17 (jx m)))) ((((-2)), J)))
set_option maxRecDepth 20000 in
theorem s_D_remove {d : am_D} {h : am_H} {J : Nat → Nat → Int32} (hB : am_B h) (hT : am_ty2 J) (m : Int32) (hd : 2 ≤ d.1) (hw : 43 ≤ d.2) : am_wp d 11 0 [some (.ref 1), some (.int (m)), none] [] (am_si h J) (fun r h' => r = some (.int (D_remove J m).1) ∧ h' = am_si h (D_remove J m).2 ∧ am_ty2 (D_remove J m).2) := by
  refine r_aload k11_0 rfl ?_
  refine j_ref (b := 15) k11_1 hB rfl ?_
  refine r_iload k11_4 rfl ?_
  refine j_call (ml := 2) k11_5 rfl (show 0 < d.1 by omega) (show 19 + 2 ≤ d.2 by omega) ⟨Nat.le_of_ble_eq_true rfl, Nat.le_of_ble_eq_true rfl, am_obB hB rfl, Nat.le_of_ble_eq_true rfl⟩ rfl (rest := []) rfl (s_M_there hB hT m (show 1 ≤ d.1 - 1 by omega) (show 22 ≤ d.2 - 21 by omega)) (fun r h1 hq => ?_)
  obtain ⟨rfl, rfl⟩ := hq
  show am_wp _ _ _ [some (.ref 1), some (.int (m)), none] [.int (am_b (M_there J m))] _ _
  refine r_ifneB k11_8 (fun z8 => ?_) (fun z8 => ?_)
  · have e_m := M_there_r z8
    rw [show ([some (.ref 1), some (.int (m)), none] : am_L) = [some (.ref 1), some (.int (nI (jx m))), none] by rw [← e_m.1]]
    refine r_aload k11_14 rfl ?_
    refine j_ref (b := 15) k11_15 hB rfl ?_
    refine r_iload k11_18 rfl ?_
    refine j_call (ml := 3) k11_19 rfl (show 0 < d.1 by omega) (show 19 + 3 ≤ d.2 by omega) ⟨Nat.le_of_ble_eq_true rfl, Nat.le_of_ble_eq_true rfl, am_obB hB rfl, Nat.le_of_ble_eq_true rfl⟩ rfl (rest := []) rfl (s_M_take hB hT (jx m) (by omega)) (fun r h1 hq => ?_)
    obtain ⟨rfl, rfl, hT19⟩ := hq
    show am_wp _ _ _ [some (.ref 1), some (.int (nI (jx m))), none] [.int ((M_take J (jx m)).1)] _ _
    have c9 := ty_m hT (q := 17) (B := 5) (by decide) (by decide) (jx m) (M_there_ne z8)
    rw [show (M_take J (jx m)).1 = nI (jn J 17 (jx m)) from c9.1]
    refine r_istore (L' := [some (.ref 1), some (.int (nI (jx m))), some (.int (nI (jn J 17 (jx m))))]) k11_22 (Nat.le_of_ble_eq_true rfl) rfl ?_
    refine r_aload k11_23 rfl ?_
    refine j_ref (b := 22) k11_24 hB rfl ?_
    refine r_iload k11_27 rfl ?_
    refine j_call (ml := 2) k11_28 rfl (show 0 < d.1 by omega) (show 19 + 2 ≤ d.2 by omega) ⟨Nat.le_of_ble_eq_true rfl, Nat.le_of_ble_eq_true rfl, am_obB hB rfl, Nat.le_of_ble_eq_true rfl⟩ rfl (rest := []) rfl (s_K_forget hB hT19 (jn J 17 (jx m)) (by omega)) (fun r h1 hq => ?_)
    obtain ⟨rfl, rfl, hT28⟩ := hq
    show am_wp _ _ _ [some (.ref 1), some (.int (nI (jx m))), some (.int (nI (jn J 17 (jx m))))] [] _ _
    refine r_iload k11_31 rfl ?_
    have e9 : D_remove J m = (((nI (jn J 17 (jx m))), K_forget ((M_take J (jx m)).2) (jn J 17 (jx m)))) := by unfold D_remove; rw [am_ite_t z8]
    exact r_iret k11_32 rfl ⟨by rw [e9], by rw [e9], by rw [e9]; exact hT28⟩
  · refine r_pushn (v := (-2)) k11_11 rfl ?_
    have e9 : D_remove J m = ((((-2)), J)) := by unfold D_remove; rw [am_ite_f z8]
    exact r_iret k11_13 rfl ⟨by rw [e9], by rw [e9], by rw [e9]; exact hT⟩
theorem fr_D_remove {J : Nat → Nat → Int32} {m : Int32} (q : Nat) (hq : ¬ q = 15 ∧ ¬ q = 17 ∧ ¬ q = 24 ∧ ¬ q = 25) : (D_remove J m).2 q = J q := by
  unfold D_remove
  refine fr_i2 (fun _ => ?_) (fun _ => ?_)
  · exact (fr_K_forget q (by omega)).trans (fr_M_take q (by omega))
  · exact rfl
noncomputable def D_step (J : Nat → Nat → Int32) (b : Int32) (op : Int32) (a : Int32) : Int32 × (Nat → Nat → Int32) := (am_ite (w_body b) (am_ite (w_in op (nI 0) (nI 9)) (am_ite (w_opd (nI (jx op)) a) ((((B_append J (jx b) (jx op) a).1), (B_append J (jx b) (jx op) a).2)) ((((-1)), J))) ((((-1)), J))) ((((-1)), J)))
set_option maxRecDepth 20000 in
theorem s_D_step {d : am_D} {h : am_H} {J : Nat → Nat → Int32} (hB : am_B h) (hT : am_ty2 J) (b : Int32) (op : Int32) (a : Int32) (hd : 3 ≤ d.1) (hw : 63 ≤ d.2) : am_wp d 12 0 [some (.ref 1), some (.int (b)), some (.int (op)), some (.int (a))] [] (am_si h J) (fun r h' => r = some (.int (D_step J b op a).1) ∧ h' = am_si h (D_step J b op a).2 ∧ am_ty2 (D_step J b op a).2) := by
  refine r_iload k12_0 rfl ?_
  refine j_call (ml := 1) k12_1 rfl (show 0 < d.1 by omega) (show 19 + 1 ≤ d.2 by omega) ⟨Nat.le_of_ble_eq_true rfl, Nat.le_of_ble_eq_true rfl, True.intro, Nat.le_of_ble_eq_true rfl⟩ rfl (rest := []) rfl (s_w_body b (show 1 ≤ d.1 - 1 by omega) (show 22 ≤ d.2 - 20 by omega)) (fun r h1 hq => ?_)
  obtain ⟨rfl, rfl⟩ := hq
  show am_wp _ _ _ [some (.ref 1), some (.int (b)), some (.int (op)), some (.int (a))] [.int (am_b (w_body b))] _ _
  refine r_ifeqB k12_4 (fun z4 => ?_) (fun z4 => ?_)
  · refine r_pushn (v := (-1)) k12_25 rfl ?_
    have e9 : D_step J b op a = ((((-1)), J)) := by unfold D_step; rw [am_ite_f z4]
    exact r_iret k12_26 rfl ⟨by rw [e9], by rw [e9], by rw [e9]; exact hT⟩
  · have e_b := jx_eq (by decide) z4
    rw [show ([some (.ref 1), some (.int (b)), some (.int (op)), some (.int (a))] : am_L) = [some (.ref 1), some (.int (nI (jx b))), some (.int (op)), some (.int (a))] by rw [← e_b.1]]
    refine r_iload k12_7 rfl ?_
    refine r_pushn (v := nI 0) k12_8 rfl ?_
    refine r_pushn (v := nI 9) k12_9 rfl ?_
    refine j_call (ml := 3) k12_11 rfl (show 0 < d.1 by omega) (show 19 + 3 ≤ d.2 by omega) ⟨Nat.le_of_ble_eq_true rfl, Nat.le_of_ble_eq_true rfl, True.intro, Nat.le_of_ble_eq_true rfl⟩ rfl (rest := []) rfl (s_w_in op (nI 0) (nI 9)) (fun r h1 hq => ?_)
    obtain ⟨rfl, rfl⟩ := hq
    show am_wp _ _ _ [some (.ref 1), some (.int (nI (jx b))), some (.int (op)), some (.int (a))] [.int (am_b (w_in op (nI 0) (nI 9)))] _ _
    refine r_ifeqB k12_14 (fun z14 => ?_) (fun z14 => ?_)
    · refine r_pushn (v := (-1)) k12_25 rfl ?_
      have e9 : D_step J b op a = ((((-1)), J)) := by unfold D_step; rw [am_ite_t z4, am_ite_f z14]
      exact r_iret k12_26 rfl ⟨by rw [e9], by rw [e9], by rw [e9]; exact hT⟩
    · have e_op := jx_eq (by decide) z14
      rw [show ([some (.ref 1), some (.int (nI (jx b))), some (.int (op)), some (.int (a))] : am_L) = [some (.ref 1), some (.int (nI (jx b))), some (.int (nI (jx op))), some (.int (a))] by rw [← e_op.1]]
      refine r_iload k12_17 rfl ?_
      refine r_iload k12_18 rfl ?_
      refine j_call (ml := 2) k12_19 rfl (show 0 < d.1 by omega) (show 19 + 2 ≤ d.2 by omega) ⟨Nat.le_of_ble_eq_true rfl, Nat.le_of_ble_eq_true rfl, True.intro, Nat.le_of_ble_eq_true rfl⟩ rfl (rest := []) rfl (s_w_opd (nI (jx op)) a (show 2 ≤ d.1 - 1 by omega) (show 42 ≤ d.2 - 21 by omega)) (fun r h1 hq => ?_)
      obtain ⟨rfl, rfl⟩ := hq
      show am_wp _ _ _ [some (.ref 1), some (.int (nI (jx b))), some (.int (nI (jx op))), some (.int (a))] [.int (am_b (w_opd (nI (jx op)) a))] _ _
      refine r_ifneB k12_22 (fun z22 => ?_) (fun z22 => ?_)
      · refine r_aload k12_27 rfl ?_
        refine j_ref (b := 27) k12_28 hB rfl ?_
        refine r_iload k12_31 rfl ?_
        refine r_iload k12_32 rfl ?_
        refine r_iload k12_33 rfl ?_
        refine j_call (ml := 4) k12_34 rfl (show 0 < d.1 by omega) (show 19 + 4 ≤ d.2 by omega) ⟨Nat.le_of_ble_eq_true rfl, Nat.le_of_ble_eq_true rfl, am_obB hB rfl, Nat.le_of_ble_eq_true rfl⟩ rfl (rest := []) rfl (s_B_append hB hT (jx b) (jx op) a (by omega) (by omega)) (fun r h1 hq => ?_)
        obtain ⟨rfl, rfl, hT34⟩ := hq
        show am_wp _ _ _ [some (.ref 1), some (.int (nI (jx b))), some (.int (nI (jx op))), some (.int (a))] [.int ((B_append J (jx b) (jx op) a).1)] _ _
        have e9 : D_step J b op a = ((((B_append J (jx b) (jx op) a).1), (B_append J (jx b) (jx op) a).2)) := by unfold D_step; rw [am_ite_t z4, am_ite_t z14, am_ite_t z22]
        exact r_iret k12_37 rfl ⟨by rw [e9], by rw [e9], by rw [e9]; exact hT34⟩
      · refine r_pushn (v := (-1)) k12_25 rfl ?_
        have e9 : D_step J b op a = ((((-1)), J)) := by unfold D_step; rw [am_ite_t z4, am_ite_t z14, am_ite_f z22]
        exact r_iret k12_26 rfl ⟨by rw [e9], by rw [e9], by rw [e9]; exact hT⟩
theorem fr_D_step {J : Nat → Nat → Int32} {b : Int32} {op : Int32} {a : Int32} (q : Nat) (hq : ¬ q = 28 ∧ ¬ q = 29 ∧ ¬ q = 30) : (D_step J b op a).2 q = J q := by
  unfold D_step
  refine fr_i2 (fun _ => ?_) (fun _ => ?_)
  · refine fr_i2 (fun _ => ?_) (fun _ => ?_)
    · refine fr_i2 (fun _ => ?_) (fun _ => ?_)
      · exact fr_B_append q (by omega)
      · exact rfl
    · exact rfl
  · exact rfl
noncomputable def D_clear (J : Nat → Nat → Int32) (b : Int32) : Int32 × (Nat → Nat → Int32) := (am_ite (w_body b) ((((B_empty J (jx b)).1), (B_empty J (jx b)).2)) ((((-1)), J)))
set_option maxRecDepth 20000 in
theorem s_D_clear {d : am_D} {h : am_H} {J : Nat → Nat → Int32} (hB : am_B h) (hT : am_ty2 J) (b : Int32) (hd : 2 ≤ d.1) (hw : 42 ≤ d.2) : am_wp d 13 0 [some (.ref 1), some (.int (b))] [] (am_si h J) (fun r h' => r = some (.int (D_clear J b).1) ∧ h' = am_si h (D_clear J b).2 ∧ am_ty2 (D_clear J b).2) := by
  refine r_iload k13_0 rfl ?_
  refine j_call (ml := 1) k13_1 rfl (show 0 < d.1 by omega) (show 19 + 1 ≤ d.2 by omega) ⟨Nat.le_of_ble_eq_true rfl, Nat.le_of_ble_eq_true rfl, True.intro, Nat.le_of_ble_eq_true rfl⟩ rfl (rest := []) rfl (s_w_body b (show 1 ≤ d.1 - 1 by omega) (show 22 ≤ d.2 - 20 by omega)) (fun r h1 hq => ?_)
  obtain ⟨rfl, rfl⟩ := hq
  show am_wp _ _ _ [some (.ref 1), some (.int (b))] [.int (am_b (w_body b))] _ _
  refine r_ifeqB k13_4 (fun z4 => ?_) (fun z4 => ?_)
  · refine r_pushn (v := (-1)) k13_18 rfl ?_
    have e9 : D_clear J b = ((((-1)), J)) := by unfold D_clear; rw [am_ite_f z4]
    exact r_iret k13_19 rfl ⟨by rw [e9], by rw [e9], by rw [e9]; exact hT⟩
  · have e_b := jx_eq (by decide) z4
    rw [show ([some (.ref 1), some (.int (b))] : am_L) = [some (.ref 1), some (.int (nI (jx b)))] by rw [← e_b.1]]
    refine r_aload k13_7 rfl ?_
    refine j_ref (b := 27) k13_8 hB rfl ?_
    refine r_iload k13_11 rfl ?_
    refine j_call (ml := 3) k13_12 rfl (show 0 < d.1 by omega) (show 19 + 3 ≤ d.2 by omega) ⟨Nat.le_of_ble_eq_true rfl, Nat.le_of_ble_eq_true rfl, am_obB hB rfl, Nat.le_of_ble_eq_true rfl⟩ rfl (rest := []) rfl (s_B_empty hB hT (jx b) (by omega)) (fun r h1 hq => ?_)
    obtain ⟨rfl, rfl, hT12⟩ := hq
    show am_wp _ _ _ [some (.ref 1), some (.int (nI (jx b)))] [.int ((B_empty J (jx b)).1)] _ _
    refine r_goto k13_15 ?_
    have e9 : D_clear J b = ((((B_empty J (jx b)).1), (B_empty J (jx b)).2)) := by unfold D_clear; rw [am_ite_t z4]
    exact r_iret k13_19 rfl ⟨by rw [e9], by rw [e9], by rw [e9]; exact hT12⟩
theorem fr_D_clear {J : Nat → Nat → Int32} {b : Int32} (q : Nat) (hq : ¬ q = 28) : (D_clear J b).2 q = J q := by
  unfold D_clear
  refine fr_i2 (fun _ => ?_) (fun _ => ?_)
  · exact fr_B_empty q (by omega)
  · exact rfl
noncomputable def D_prec (J : Nat → Nat → Int32) (c : Int32) (k : Int32) : Int32 := (am_ite (C_there J c) (((C_prec J (jx c) k))) ((((-2)))))
set_option maxRecDepth 20000 in
theorem s_D_prec {d : am_D} {h : am_H} {J : Nat → Nat → Int32} (hB : am_B h) (hT : am_ty2 J) (c : Int32) (k : Int32) (hd : 2 ≤ d.1) (hw : 44 ≤ d.2) : am_wp d 15 0 [some (.ref 1), some (.int (c)), some (.int (k))] [] (am_si h J) (fun r h' => r = some (.int (D_prec J c k)) ∧ h' = (am_si h J)) := by
  refine r_aload k15_0 rfl ?_
  refine j_ref (b := 2) k15_1 hB rfl ?_
  refine r_iload k15_4 rfl ?_
  refine j_call (ml := 2) k15_5 rfl (show 0 < d.1 by omega) (show 19 + 2 ≤ d.2 by omega) ⟨Nat.le_of_ble_eq_true rfl, Nat.le_of_ble_eq_true rfl, am_obB hB rfl, Nat.le_of_ble_eq_true rfl⟩ rfl (rest := []) rfl (s_C_there hB hT c (show 1 ≤ d.1 - 1 by omega) (show 22 ≤ d.2 - 21 by omega)) (fun r h1 hq => ?_)
  obtain ⟨rfl, rfl⟩ := hq
  show am_wp _ _ _ [some (.ref 1), some (.int (c)), some (.int (k))] [.int (am_b (C_there J c))] _ _
  refine r_ifeqB k15_8 (fun z8 => ?_) (fun z8 => ?_)
  · refine r_pushn (v := (-2)) k15_23 rfl ?_
    have e9 : D_prec J c k = ((((-2)))) := by unfold D_prec; rw [am_ite_f z8]
    exact r_iret k15_25 rfl ⟨by rw [e9], rfl⟩
  · have e_c := C_there_r z8
    rw [show ([some (.ref 1), some (.int (c)), some (.int (k))] : am_L) = [some (.ref 1), some (.int (nI (jx c))), some (.int (k))] by rw [← e_c.1]]
    refine r_aload k15_11 rfl ?_
    refine j_ref (b := 2) k15_12 hB rfl ?_
    refine r_iload k15_15 rfl ?_
    refine r_iload k15_16 rfl ?_
    refine j_call (ml := 3) k15_17 rfl (show 0 < d.1 by omega) (show 19 + 3 ≤ d.2 by omega) ⟨Nat.le_of_ble_eq_true rfl, Nat.le_of_ble_eq_true rfl, am_obB hB rfl, Nat.le_of_ble_eq_true rfl⟩ rfl (rest := []) rfl (s_C_prec hB hT (jx c) k (by omega) (show 1 ≤ d.1 - 1 by omega) (show 22 ≤ d.2 - 22 by omega)) (fun r h1 hq => ?_)
    obtain ⟨rfl, rfl⟩ := hq
    show am_wp _ _ _ [some (.ref 1), some (.int (nI (jx c))), some (.int (k))] [.int (C_prec J (jx c) k)] _ _
    refine r_goto k15_20 ?_
    have e9 : D_prec J c k = (((C_prec J (jx c) k))) := by unfold D_prec; rw [am_ite_t z8]
    exact r_iret k15_25 rfl ⟨by rw [e9], rfl⟩
noncomputable def D_has (J : Nat → Nat → Int32) (c : Int32) (nm : Int32) : Int32 := (am_ite (C_there J c) (am_ite (w_name nm) (((C_holder J (jx c) (jx nm)))) ((((-1))))) ((((-2)))))
set_option maxRecDepth 20000 in
theorem s_D_has {d : am_D} {h : am_H} {J : Nat → Nat → Int32} (hB : am_B h) (hT : am_ty2 J) (c : Int32) (nm : Int32) (hd : 2 ≤ d.1) (hw : 43 ≤ d.2) : am_wp d 16 0 [some (.ref 1), some (.int (c)), some (.int (nm))] [] (am_si h J) (fun r h' => r = some (.int (D_has J c nm)) ∧ h' = (am_si h J)) := by
  refine r_aload k16_0 rfl ?_
  refine j_ref (b := 2) k16_1 hB rfl ?_
  refine r_iload k16_4 rfl ?_
  refine j_call (ml := 2) k16_5 rfl (show 0 < d.1 by omega) (show 19 + 2 ≤ d.2 by omega) ⟨Nat.le_of_ble_eq_true rfl, Nat.le_of_ble_eq_true rfl, am_obB hB rfl, Nat.le_of_ble_eq_true rfl⟩ rfl (rest := []) rfl (s_C_there hB hT c (show 1 ≤ d.1 - 1 by omega) (show 22 ≤ d.2 - 21 by omega)) (fun r h1 hq => ?_)
  obtain ⟨rfl, rfl⟩ := hq
  show am_wp _ _ _ [some (.ref 1), some (.int (c)), some (.int (nm))] [.int (am_b (C_there J c))] _ _
  refine r_ifneB k16_8 (fun z8 => ?_) (fun z8 => ?_)
  · have e_c := C_there_r z8
    rw [show ([some (.ref 1), some (.int (c)), some (.int (nm))] : am_L) = [some (.ref 1), some (.int (nI (jx c))), some (.int (nm))] by rw [← e_c.1]]
    refine r_iload k16_14 rfl ?_
    refine j_call (ml := 1) k16_15 rfl (show 0 < d.1 by omega) (show 19 + 1 ≤ d.2 by omega) ⟨Nat.le_of_ble_eq_true rfl, Nat.le_of_ble_eq_true rfl, True.intro, Nat.le_of_ble_eq_true rfl⟩ rfl (rest := []) rfl (s_w_name nm (show 1 ≤ d.1 - 1 by omega) (show 22 ≤ d.2 - 20 by omega)) (fun r h1 hq => ?_)
    obtain ⟨rfl, rfl⟩ := hq
    show am_wp _ _ _ [some (.ref 1), some (.int (nI (jx c))), some (.int (nm))] [.int (am_b (w_name nm))] _ _
    refine r_ifeqB k16_18 (fun z18 => ?_) (fun z18 => ?_)
    · refine r_pushn (v := (-1)) k16_33 rfl ?_
      have e9 : D_has J c nm = ((((-1)))) := by unfold D_has; rw [am_ite_t z8, am_ite_f z18]
      exact r_iret k16_34 rfl ⟨by rw [e9], rfl⟩
    · have e_nm := jx_eq (by decide) z18
      rw [show ([some (.ref 1), some (.int (nI (jx c))), some (.int (nm))] : am_L) = [some (.ref 1), some (.int (nI (jx c))), some (.int (nI (jx nm)))] by rw [← e_nm.1]]
      refine r_aload k16_21 rfl ?_
      refine j_ref (b := 2) k16_22 hB rfl ?_
      refine r_iload k16_25 rfl ?_
      refine r_iload k16_26 rfl ?_
      refine j_call (ml := 5) k16_27 rfl (show 0 < d.1 by omega) (show 19 + 5 ≤ d.2 by omega) ⟨Nat.le_of_ble_eq_true rfl, Nat.le_of_ble_eq_true rfl, am_obB hB rfl, Nat.le_of_ble_eq_true rfl⟩ rfl (rest := []) rfl (s_C_holder hB hT (jx c) (jx nm) (by omega) (by omega)) (fun r h1 hq => ?_)
      obtain ⟨rfl, rfl⟩ := hq
      show am_wp _ _ _ [some (.ref 1), some (.int (nI (jx c))), some (.int (nI (jx nm)))] [.int (C_holder J (jx c) (jx nm))] _ _
      refine r_goto k16_30 ?_
      have e9 : D_has J c nm = (((C_holder J (jx c) (jx nm)))) := by unfold D_has; rw [am_ite_t z8, am_ite_t z18]
      exact r_iret k16_34 rfl ⟨by rw [e9], rfl⟩
  · refine r_pushn (v := (-2)) k16_11 rfl ?_
    have e9 : D_has J c nm = ((((-2)))) := by unfold D_has; rw [am_ite_f z8]
    exact r_iret k16_13 rfl ⟨by rw [e9], rfl⟩
noncomputable def D_noted (J : Nat → Nat → Int32) (k : Int32) : Int32 := (((T_before J k)))
set_option maxRecDepth 20000 in
theorem s_D_noted {d : am_D} {h : am_H} {J : Nat → Nat → Int32} (hB : am_B h) (hT : am_ty2 J) (k : Int32) (hd : 2 ≤ d.1) (hw : 43 ≤ d.2) : am_wp d 18 0 [some (.ref 1), some (.int (k))] [] (am_si h J) (fun r h' => r = some (.int (D_noted J k)) ∧ h' = (am_si h J)) := by
  refine r_aload k18_0 rfl ?_
  refine j_ref (b := 31) k18_1 hB rfl ?_
  refine r_iload k18_4 rfl ?_
  refine j_call (ml := 2) k18_5 rfl (show 0 < d.1 by omega) (show 19 + 2 ≤ d.2 by omega) ⟨Nat.le_of_ble_eq_true rfl, Nat.le_of_ble_eq_true rfl, am_obB hB rfl, Nat.le_of_ble_eq_true rfl⟩ rfl (rest := []) rfl (s_T_before hB hT k (show 1 ≤ d.1 - 1 by omega) (show 22 ≤ d.2 - 21 by omega)) (fun r h1 hq => ?_)
  obtain ⟨rfl, rfl⟩ := hq
  show am_wp _ _ _ [some (.ref 1), some (.int (k))] [.int (T_before J k)] _ _
  have e9 : D_noted J k = (((T_before J k))) := rfl
  exact r_iret k18_8 rfl ⟨by rw [e9], rfl⟩
noncomputable def D_count (J : Nat → Nat → Int32) (what : Int32) : Int32 := (am_ite (what = (nI 0)) (((C_total J))) (am_ite (what = (nI 1)) (((I_total J))) (am_ite (what = (nI 2)) (((M_total J))) (am_ite (what = (nI 3)) (((T_total J))) (am_ite (what = (nI 4)) (((X_bodies J))) (am_ite (what = (nI 5)) (((K_found J))) (am_ite (what = (nI 6)) (((K_total J))) (am_ite (what = (nI 7)) (((I_changes J))) (am_ite (what = (nI 8)) (((J 1 7))) (am_ite (what = (nI 9)) (((X_steps J))) ((((-1))))))))))))))
set_option maxRecDepth 20000 in
theorem s_D_count {d : am_D} {h : am_H} {J : Nat → Nat → Int32} (hB : am_B h) (hT : am_ty2 J) (what : Int32) (hd : 1 ≤ d.1) (hw : 22 ≤ d.2) : am_wp d 19 0 [some (.ref 1), some (.int (what))] [] (am_si h J) (fun r h' => r = some (.int (D_count J what)) ∧ h' = (am_si h J)) := by
  refine r_iload k19_0 rfl ?_
  by_cases y1_0 : what = (nI 0)
  · refine r_tsIn k19_1 (by rw [y1_0]; decide) (t := 56) (by rw [y1_0]; rfl) ?_
    rw [show ([some (.ref 1), some (.int (what))] : am_L) = [some (.ref 1), some (.int (nI 0))] by rw [y1_0]]
    refine r_aload k19_56 rfl ?_
    refine j_ref (b := 2) k19_57 hB rfl ?_
    refine j_call (ml := 1) k19_60 rfl (show 0 < d.1 by omega) (show 19 + 1 ≤ d.2 by omega) ⟨Nat.le_of_ble_eq_true rfl, Nat.le_of_ble_eq_true rfl, am_obB hB rfl, Nat.le_of_ble_eq_true rfl⟩ rfl (rest := []) rfl (s_C_total hB hT) (fun r h1 hq => ?_)
    obtain ⟨rfl, rfl⟩ := hq
    show am_wp _ _ _ [some (.ref 1), some (.int (nI 0))] [.int (C_total J)] _ _
    have e9 : D_count J what = (((C_total J))) := by unfold D_count; rw [am_ite_t y1_0]
    exact r_iret k19_63 rfl ⟨by rw [e9], rfl⟩
  · by_cases y1_1 : what = (nI 1)
    · refine r_tsIn k19_1 (by rw [y1_1]; decide) (t := 64) (by rw [y1_1]; rfl) ?_
      rw [show ([some (.ref 1), some (.int (what))] : am_L) = [some (.ref 1), some (.int (nI 1))] by rw [y1_1]]
      refine r_aload k19_64 rfl ?_
      refine j_ref (b := 10) k19_65 hB rfl ?_
      refine j_call (ml := 1) k19_68 rfl (show 0 < d.1 by omega) (show 19 + 1 ≤ d.2 by omega) ⟨Nat.le_of_ble_eq_true rfl, Nat.le_of_ble_eq_true rfl, am_obB hB rfl, Nat.le_of_ble_eq_true rfl⟩ rfl (rest := []) rfl (s_I_total hB hT) (fun r h1 hq => ?_)
      obtain ⟨rfl, rfl⟩ := hq
      show am_wp _ _ _ [some (.ref 1), some (.int (nI 1))] [.int (I_total J)] _ _
      have e9 : D_count J what = (((I_total J))) := by unfold D_count; rw [am_ite_f y1_0, am_ite_t y1_1]
      exact r_iret k19_71 rfl ⟨by rw [e9], rfl⟩
    · by_cases y1_2 : what = (nI 2)
      · refine r_tsIn k19_1 (by rw [y1_2]; decide) (t := 72) (by rw [y1_2]; rfl) ?_
        rw [show ([some (.ref 1), some (.int (what))] : am_L) = [some (.ref 1), some (.int (nI 2))] by rw [y1_2]]
        refine r_aload k19_72 rfl ?_
        refine j_ref (b := 15) k19_73 hB rfl ?_
        refine j_call (ml := 1) k19_76 rfl (show 0 < d.1 by omega) (show 19 + 1 ≤ d.2 by omega) ⟨Nat.le_of_ble_eq_true rfl, Nat.le_of_ble_eq_true rfl, am_obB hB rfl, Nat.le_of_ble_eq_true rfl⟩ rfl (rest := []) rfl (s_M_total hB hT) (fun r h1 hq => ?_)
        obtain ⟨rfl, rfl⟩ := hq
        show am_wp _ _ _ [some (.ref 1), some (.int (nI 2))] [.int (M_total J)] _ _
        have e9 : D_count J what = (((M_total J))) := by unfold D_count; rw [am_ite_f y1_0, am_ite_f y1_1, am_ite_t y1_2]
        exact r_iret k19_79 rfl ⟨by rw [e9], rfl⟩
      · by_cases y1_3 : what = (nI 3)
        · refine r_tsIn k19_1 (by rw [y1_3]; decide) (t := 80) (by rw [y1_3]; rfl) ?_
          rw [show ([some (.ref 1), some (.int (what))] : am_L) = [some (.ref 1), some (.int (nI 3))] by rw [y1_3]]
          refine r_aload k19_80 rfl ?_
          refine j_ref (b := 31) k19_81 hB rfl ?_
          refine j_call (ml := 1) k19_84 rfl (show 0 < d.1 by omega) (show 19 + 1 ≤ d.2 by omega) ⟨Nat.le_of_ble_eq_true rfl, Nat.le_of_ble_eq_true rfl, am_obB hB rfl, Nat.le_of_ble_eq_true rfl⟩ rfl (rest := []) rfl (s_T_total hB hT) (fun r h1 hq => ?_)
          obtain ⟨rfl, rfl⟩ := hq
          show am_wp _ _ _ [some (.ref 1), some (.int (nI 3))] [.int (T_total J)] _ _
          have e9 : D_count J what = (((T_total J))) := by unfold D_count; rw [am_ite_f y1_0, am_ite_f y1_1, am_ite_f y1_2, am_ite_t y1_3]
          exact r_iret k19_87 rfl ⟨by rw [e9], rfl⟩
        · by_cases y1_4 : what = (nI 4)
          · refine r_tsIn k19_1 (by rw [y1_4]; decide) (t := 88) (by rw [y1_4]; rfl) ?_
            rw [show ([some (.ref 1), some (.int (what))] : am_L) = [some (.ref 1), some (.int (nI 4))] by rw [y1_4]]
            refine r_aload k19_88 rfl ?_
            refine j_ref (b := 33) k19_89 hB rfl ?_
            refine j_call (ml := 1) k19_92 rfl (show 0 < d.1 by omega) (show 19 + 1 ≤ d.2 by omega) ⟨Nat.le_of_ble_eq_true rfl, Nat.le_of_ble_eq_true rfl, am_obB hB rfl, Nat.le_of_ble_eq_true rfl⟩ rfl (rest := []) rfl (s_X_bodies hB hT) (fun r h1 hq => ?_)
            obtain ⟨rfl, rfl⟩ := hq
            show am_wp _ _ _ [some (.ref 1), some (.int (nI 4))] [.int (X_bodies J)] _ _
            have e9 : D_count J what = (((X_bodies J))) := by unfold D_count; rw [am_ite_f y1_0, am_ite_f y1_1, am_ite_f y1_2, am_ite_f y1_3, am_ite_t y1_4]
            exact r_iret k19_95 rfl ⟨by rw [e9], rfl⟩
          · by_cases y1_5 : what = (nI 5)
            · refine r_tsIn k19_1 (by rw [y1_5]; decide) (t := 96) (by rw [y1_5]; rfl) ?_
              rw [show ([some (.ref 1), some (.int (what))] : am_L) = [some (.ref 1), some (.int (nI 5))] by rw [y1_5]]
              refine r_aload k19_96 rfl ?_
              refine j_ref (b := 22) k19_97 hB rfl ?_
              refine j_call (ml := 1) k19_100 rfl (show 0 < d.1 by omega) (show 19 + 1 ≤ d.2 by omega) ⟨Nat.le_of_ble_eq_true rfl, Nat.le_of_ble_eq_true rfl, am_obB hB rfl, Nat.le_of_ble_eq_true rfl⟩ rfl (rest := []) rfl (s_K_found hB hT) (fun r h1 hq => ?_)
              obtain ⟨rfl, rfl⟩ := hq
              show am_wp _ _ _ [some (.ref 1), some (.int (nI 5))] [.int (K_found J)] _ _
              have e9 : D_count J what = (((K_found J))) := by unfold D_count; rw [am_ite_f y1_0, am_ite_f y1_1, am_ite_f y1_2, am_ite_f y1_3, am_ite_f y1_4, am_ite_t y1_5]
              exact r_iret k19_103 rfl ⟨by rw [e9], rfl⟩
            · by_cases y1_6 : what = (nI 6)
              · refine r_tsIn k19_1 (by rw [y1_6]; decide) (t := 104) (by rw [y1_6]; rfl) ?_
                rw [show ([some (.ref 1), some (.int (what))] : am_L) = [some (.ref 1), some (.int (nI 6))] by rw [y1_6]]
                refine r_aload k19_104 rfl ?_
                refine j_ref (b := 22) k19_105 hB rfl ?_
                refine j_call (ml := 3) k19_108 rfl (show 0 < d.1 by omega) (show 19 + 3 ≤ d.2 by omega) ⟨Nat.le_of_ble_eq_true rfl, Nat.le_of_ble_eq_true rfl, am_obB hB rfl, Nat.le_of_ble_eq_true rfl⟩ rfl (rest := []) rfl (s_K_total hB hT) (fun r h1 hq => ?_)
                obtain ⟨rfl, rfl⟩ := hq
                show am_wp _ _ _ [some (.ref 1), some (.int (nI 6))] [.int (K_total J)] _ _
                have e9 : D_count J what = (((K_total J))) := by unfold D_count; rw [am_ite_f y1_0, am_ite_f y1_1, am_ite_f y1_2, am_ite_f y1_3, am_ite_f y1_4, am_ite_f y1_5, am_ite_t y1_6]
                exact r_iret k19_111 rfl ⟨by rw [e9], rfl⟩
              · by_cases y1_7 : what = (nI 7)
                · refine r_tsIn k19_1 (by rw [y1_7]; decide) (t := 112) (by rw [y1_7]; rfl) ?_
                  rw [show ([some (.ref 1), some (.int (what))] : am_L) = [some (.ref 1), some (.int (nI 7))] by rw [y1_7]]
                  refine r_aload k19_112 rfl ?_
                  refine j_ref (b := 10) k19_113 hB rfl ?_
                  refine j_call (ml := 1) k19_116 rfl (show 0 < d.1 by omega) (show 19 + 1 ≤ d.2 by omega) ⟨Nat.le_of_ble_eq_true rfl, Nat.le_of_ble_eq_true rfl, am_obB hB rfl, Nat.le_of_ble_eq_true rfl⟩ rfl (rest := []) rfl (s_I_changes hB hT) (fun r h1 hq => ?_)
                  obtain ⟨rfl, rfl⟩ := hq
                  show am_wp _ _ _ [some (.ref 1), some (.int (nI 7))] [.int (I_changes J)] _ _
                  have e9 : D_count J what = (((I_changes J))) := by unfold D_count; rw [am_ite_f y1_0, am_ite_f y1_1, am_ite_f y1_2, am_ite_f y1_3, am_ite_f y1_4, am_ite_f y1_5, am_ite_f y1_6, am_ite_t y1_7]
                  exact r_iret k19_119 rfl ⟨by rw [e9], rfl⟩
                · by_cases y1_8 : what = (nI 8)
                  · refine r_tsIn k19_1 (by rw [y1_8]; decide) (t := 120) (by rw [y1_8]; rfl) ?_
                    rw [show ([some (.ref 1), some (.int (what))] : am_L) = [some (.ref 1), some (.int (nI 8))] by rw [y1_8]]
                    refine r_aload k19_120 rfl ?_
                    refine j_get (j := 7) (v := (J 1 7)) k19_121 hB rfl rfl ?_
                    have e9 : D_count J what = (((J 1 7))) := by unfold D_count; rw [am_ite_f y1_0, am_ite_f y1_1, am_ite_f y1_2, am_ite_f y1_3, am_ite_f y1_4, am_ite_f y1_5, am_ite_f y1_6, am_ite_f y1_7, am_ite_t y1_8]
                    exact r_iret k19_124 rfl ⟨by rw [e9], rfl⟩
                  · by_cases y1_9 : what = (nI 9)
                    · refine r_tsIn k19_1 (by rw [y1_9]; decide) (t := 125) (by rw [y1_9]; rfl) ?_
                      rw [show ([some (.ref 1), some (.int (what))] : am_L) = [some (.ref 1), some (.int (nI 9))] by rw [y1_9]]
                      refine r_aload k19_125 rfl ?_
                      refine j_ref (b := 33) k19_126 hB rfl ?_
                      refine j_call (ml := 1) k19_129 rfl (show 0 < d.1 by omega) (show 19 + 1 ≤ d.2 by omega) ⟨Nat.le_of_ble_eq_true rfl, Nat.le_of_ble_eq_true rfl, am_obB hB rfl, Nat.le_of_ble_eq_true rfl⟩ rfl (rest := []) rfl (s_X_steps hB hT) (fun r h1 hq => ?_)
                      obtain ⟨rfl, rfl⟩ := hq
                      show am_wp _ _ _ [some (.ref 1), some (.int (nI 9))] [.int (X_steps J)] _ _
                      have e9 : D_count J what = (((X_steps J))) := by unfold D_count; rw [am_ite_f y1_0, am_ite_f y1_1, am_ite_f y1_2, am_ite_f y1_3, am_ite_f y1_4, am_ite_f y1_5, am_ite_f y1_6, am_ite_f y1_7, am_ite_f y1_8, am_ite_t y1_9]
                      exact r_iret k19_132 rfl ⟨by rw [e9], rfl⟩
                    · refine am_tsd k19_1 (fun v h1 h2 => ?_) (fun v h1 h2 e1 => ?_) ?_
                      · rcases (show v = 0 ∨ v = 1 ∨ v = 2 ∨ v = 3 ∨ v = 4 ∨ v = 5 ∨ v = 6 ∨ v = 7 ∨ v = 8 ∨ v = 9 by omega) with rfl | rfl | rfl | rfl | rfl | rfl | rfl | rfl | rfl | rfl
                        · exact Or.inl (fun q => y1_0 q)
                        · exact Or.inl (fun q => y1_1 q)
                        · exact Or.inl (fun q => y1_2 q)
                        · exact Or.inl (fun q => y1_3 q)
                        · exact Or.inl (fun q => y1_4 q)
                        · exact Or.inl (fun q => y1_5 q)
                        · exact Or.inl (fun q => y1_6 q)
                        · exact Or.inl (fun q => y1_7 q)
                        · exact Or.inl (fun q => y1_8 q)
                        · exact Or.inl (fun q => y1_9 q)
                      · exact rfl
                      · refine r_pushn (v := (-1)) k19_133 rfl ?_
                        have e9 : D_count J what = ((((-1)))) := by unfold D_count; rw [am_ite_f y1_0, am_ite_f y1_1, am_ite_f y1_2, am_ite_f y1_3, am_ite_f y1_4, am_ite_f y1_5, am_ite_f y1_6, am_ite_f y1_7, am_ite_f y1_8, am_ite_f y1_9]
                        exact r_iret k19_134 rfl ⟨by rw [e9], rfl⟩
