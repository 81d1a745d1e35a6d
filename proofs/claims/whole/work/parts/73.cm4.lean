/-! The class: the rest of the machine; the calls. -/
set_option maxRecDepth 20000 in
theorem l_M_p0 {d : am_D} {h : am_H} {J : Nat → Nat → Int32} {Q : Option Value → am_H → Prop} (hB : am_B h) (hT : am_ty2 J) (w : Nat) (place : Nat)  (hd : 2 ≤ d.1) (hw : 47 ≤ d.2) (K1 : ¬ ((jn J 33 9) = 192) → am_ty2 (J) → am_wp d 148 17 [some (.ref 33), some (.ref w), some (.int (nI (place))), none, none, none] [] (am_si h J) Q) (K2 : ((jn J 33 9) = 192) → am_ty2 (am_u2 J 33 11 ((-11))) → Q none (am_si h (am_u2 J 33 11 ((-11))))) : am_wp d 148 0 [some (.ref 33), some (.ref w), some (.int (nI (place))), none, none, none] [] (am_si h J) Q := by
  refine r_aload k148_0 rfl ?_
  have b1 := ty_f hT (q := 33) (j := 9) (B := 193) (by decide) (by decide)
  refine j_get (j := 9) (v := (nI (jn J 33 9))) k148_1 hB rfl (b1.1) ?_
  refine r_pushn (v := nI 192) k148_4 rfl ?_
  refine r_icmpneN (by omega) (by omega) k148_7 (fun z7 => ?_) (fun z7 => ?_)
  · exact K1 z7 hT
  · refine r_aload k148_10 rfl ?_
    refine r_pushn (v := (-11)) k148_11 rfl ?_
    refine j_put (j := 11) k148_13 hB rfl rfl ?_
    have hT13 : am_ty2 (am_u2 J 33 11 ((-11))) := ty_w hT (tw_u (by decide) (by decide) (by decide))
    exact r_vret k148_16 rfl (K2 z7 hT13)
set_option maxRecDepth 20000 in
theorem l_M_p17 {d : am_D} {h : am_H} {J : Nat → Nat → Int32} {Q : Option Value → am_H → Prop} (hB : am_B h) (hT : am_ty2 J) (w : Nat) (place : Nat) (f : Nat) (ho : jn J 33 9 < 192) (hpf : am_P h 35 (jn J 33 9) = some f) (hd : 2 ≤ d.1) (hw : 47 ≤ d.2) (K1 : am_ty2 (J) → am_wp d 148 46 [some (.ref 33), some (.ref w), some (.int (nI (place))), none, none, none] [] (am_si h J) Q) : am_wp d 148 17 [some (.ref 33), some (.ref w), some (.int (nI (place))), none, none, none] [] (am_si h J) Q := by
  refine r_aload k148_17 rfl ?_
  refine j_ref (b := 35) k148_18 hB rfl ?_
  refine r_aload k148_21 rfl ?_
  have b22 := ty_f hT (q := 33) (j := 9) (B := 193) (by decide) (by decide)
  refine j_get (j := 9) (v := (nI (jn J 33 9))) k148_22 hB rfl (b22.1) ?_
  refine v_aal (n := 192) (j := (jn J 33 9)) (b := f) k148_25 hB rfl rfl (by omega) hpf ?_
  refine r_ifnonnull k148_26 ?_
  exact K1 hT
set_option maxRecDepth 20000 in
theorem l_M_b44 {d : am_D} {h : am_H} {J : Nat → Nat → Int32} {Q : Option Value → am_H → Prop} (hB : am_B h) (hT : am_ty2 J) (g : Nat) (w : Nat) (h8 : jn J 33 8 < 12) (hpk : am_P h 34 (jn J 33 8) = some w) (hd : 5 ≤ d.1) (hw : 123 ≤ d.2) (K1 : am_ty2 (J) → am_wp d 147 72 [some (.ref 33), some (.int (nI (g))), none] [] (am_si h J) Q) : am_wp d 147 44 [some (.ref 33), some (.int (nI (g))), none] [] (am_si h J) Q := by
  refine r_aload k147_44 rfl ?_
  refine j_ref (b := 34) k147_45 hB rfl ?_
  refine r_aload k147_48 rfl ?_
  have b49 := ty_f hT (q := 33) (j := 8) (B := 13) (by decide) (by decide)
  refine j_get (j := 8) (v := (nI (jn J 33 8))) k147_49 hB rfl (b49.1) ?_
  refine v_aal (n := 12) (j := (jn J 33 8)) (b := w) k147_52 hB rfl rfl (by omega) hpk ?_
  refine r_ifnonnull k147_53 ?_
  exact K1 hT
set_option maxRecDepth 20000 in
theorem l_M_b72 {d : am_D} {h : am_H} {J : Nat → Nat → Int32} {Q : Option Value → am_H → Prop} (hB : am_B h) (hT : am_ty2 J) (g : Nat) (w : Nat) (sp : Nat) (hg : g < 5) (hw9 : am_ob h w 8) (hps : am_P h w 0 = some sp) (hpk : am_P h 34 (jn J 33 8) = some w) (h8 : jn J 33 8 < 12) (hd : 5 ≤ d.1) (hw : 123 ≤ d.2) (K1 : am_ty2 (J) → am_wp d 147 100 [some (.ref 33), some (.int (nI (g))), some (.ref w)] [.ref sp, .int (J 33 15), .int (nI (jn J 33 14)), .int (nI (g)), .ref 22, .ref w] (am_si h J) Q) : am_wp d 147 72 [some (.ref 33), some (.int (nI (g))), none] [] (am_si h J) Q := by
  refine r_aload k147_72 rfl ?_
  refine j_ref (b := 34) k147_73 hB rfl ?_
  refine r_aload k147_76 rfl ?_
  have b77 := ty_f hT (q := 33) (j := 8) (B := 13) (by decide) (by decide)
  refine j_get (j := 8) (v := (nI (jn J 33 8))) k147_77 hB rfl (b77.1) ?_
  refine v_aal (n := 12) (j := (jn J 33 8)) (b := w) k147_80 hB rfl rfl (by omega) hpk ?_
  refine r_astore (L' := [some (.ref 33), some (.int (nI (g))), some (.ref w)]) k147_81 (Nat.le_of_ble_eq_true rfl) rfl ?_
  refine r_aload k147_82 rfl ?_
  refine r_aload k147_83 rfl ?_
  refine j_ref (b := 22) k147_84 hB rfl ?_
  refine r_iload k147_87 rfl ?_
  refine r_aload k147_88 rfl ?_
  have b89 := ty_f hT (q := 33) (j := 14) (B := 12) (by decide) (by decide)
  refine j_get (j := 14) (v := (nI (jn J 33 14))) k147_89 hB rfl (b89.1) ?_
  refine r_aload k147_92 rfl ?_
  refine j_get (j := 15) (v := (J 33 15)) k147_93 hB rfl rfl ?_
  refine r_aload k147_96 rfl ?_
  refine v_ref (b := sp) k147_97 hw9 rfl hps ?_
  exact K1 hT
set_option maxRecDepth 20000 in
theorem l_M_nA {d : am_D} {h : am_H} {J : Nat → Nat → Int32} {Q : Option Value → am_H → Prop} (hB : am_B h) (hT : am_ty2 J) (f : Nat) (w : Nat) (hf : am_ob h f 10) (hp1 : am_P h f 0 = some w) (hw9 : am_ob h w 8) (h76 : 74 ≤ f) (h77 : 74 ≤ w) (n3 : ¬ w = f) (hd : 3 ≤ d.1) (hw : 72 ≤ d.2) (K1 : am_ty2 (am_u2 J 33 11 ((-10))) → Q none (am_si h (am_u2 J 33 11 ((-10))))) : am_wp d 153 15 [some (.ref 33), some (.ref f), some (.int ((-1)))] [] (am_si h J) Q := by
  refine r_iload k153_15 rfl ?_
  refine r_ifge k153_16 (fun z => absurd z (show ¬ (0 : Int32) ≤ (-1) by decide)) (fun _ => ?_)
  refine r_aload k153_19 rfl ?_
  refine r_pushn (v := (-10)) k153_20 rfl ?_
  refine j_put (j := 11) k153_22 hB rfl rfl ?_
  have hT22 : am_ty2 (am_u2 J 33 11 ((-10))) := ty_w hT (tw_u (by decide) (by decide) (by decide))
  refine r_goto k153_25 ?_
  exact r_vret k153_37 rfl (K1 hT22)
set_option maxRecDepth 20000 in
theorem l_M_nB {d : am_D} {h : am_H} {J : Nat → Nat → Int32} {Q : Option Value → am_H → Prop} (hB : am_B h) (hT : am_ty2 J) (f : Nat) (w : Nat) (p : Nat) (hf : am_ob h f 10) (hp1 : am_P h f 0 = some w) (hw9 : am_ob h w 8) (h76 : 74 ≤ f) (h77 : 74 ≤ w) (n3 : ¬ w = f) (hp : p < 16) (hd : 3 ≤ d.1) (hw : 72 ≤ d.2) (K1 : am_ty2 (J) → am_wp d 153 34 [some (.ref 33), some (.ref f), some (.int (nI (p)))] [.int (nI (p)), .ref w, .ref 33] (am_si h J) Q) : am_wp d 153 15 [some (.ref 33), some (.ref f), some (.int (nI (p)))] [] (am_si h J) Q := by
  refine r_iload k153_15 rfl ?_
  refine r_ifgeN (by omega) k153_16 ?_
  refine r_aload k153_28 rfl ?_
  refine r_aload k153_29 rfl ?_
  refine v_ref (b := w) k153_30 hf rfl hp1 ?_
  refine r_iload k153_33 rfl ?_
  exact K1 hT
set_option maxRecDepth 20000 in
theorem l_D_c0 {d : am_D} {h : am_H} {J : Nat → Nat → Int32} {Q : Option Value → am_H → Prop} (hB : am_B h) (hT : am_ty2 J) (g : Int32) (x : Int32) (y : Int32)  (hd : 7 ≤ d.1) (hw : 169 ≤ d.2) (K1 : (w_gen g) → ((jn J 16 (jx g)) = 0) → am_ty2 (J) → Q (some (.long (Int64.ofInt 1099511627774))) (am_si h J)) (K2 : (w_gen g) → ¬ ((jn J 16 (jx g)) = 0) → ¬ (I_there J x) → am_ty2 (J) → Q (some (.long (Int64.ofInt 1099511627774))) (am_si h J)) (K3 : (w_gen g) → ¬ ((jn J 16 (jx g)) = 0) → (I_there J x) → ¬ ((jn J 16 (jx g)) = 2) → am_ty2 (J) → am_wp d 14 65 [some (.ref 1), some (.int (nI (jx g))), some (.int (nI (jx x))), some (.int (y)), some (.int (nI (jn J 16 (jx g)))), none, none] [.int (y), .int (nI (jx x)), .int (nI (jx g)), .ref 33] (am_si h J) Q) (K4 : (w_gen g) → ¬ ((jn J 16 (jx g)) = 0) → (I_there J x) → ((jn J 16 (jx g)) = 2) → (I_there J y) → am_ty2 (J) → am_wp d 14 65 [some (.ref 1), some (.int (nI (jx g))), some (.int (nI (jx x))), some (.int (nI (jx y))), some (.int (nI (jn J 16 (jx g)))), none, none] [.int (nI (jx y)), .int (nI (jx x)), .int (nI (jx g)), .ref 33] (am_si h J) Q) (K5 : (w_gen g) → ¬ ((jn J 16 (jx g)) = 0) → (I_there J x) → ((jn J 16 (jx g)) = 2) → ¬ (I_there J y) → am_ty2 (J) → Q (some (.long (Int64.ofInt 1099511627774))) (am_si h J)) (K6 : ¬ (w_gen g) → am_ty2 (J) → Q (some (.long (Int64.ofInt 1099511627774))) (am_si h J)) : am_wp d 14 0 [some (.ref 1), some (.int (g)), some (.int (x)), some (.int (y)), none, none, none] [] (am_si h J) Q := by
  refine r_iload k14_0 rfl ?_
  refine j_call (ml := 1) k14_1 rfl (show 0 < d.1 by omega) (show 19 + 1 ≤ d.2 by omega) ⟨Nat.le_of_ble_eq_true rfl, Nat.le_of_ble_eq_true rfl, True.intro, Nat.le_of_ble_eq_true rfl⟩ rfl (rest := []) rfl (s_w_gen g (show 1 ≤ d.1 - 1 by omega) (show 22 ≤ d.2 - 20 by omega)) (fun r h1 hq => ?_)
  obtain ⟨rfl, rfl⟩ := hq
  show am_wp _ _ _ [some (.ref 1), some (.int (g)), some (.int (x)), some (.int (y)), none, none, none] [.int (am_b (w_gen g))] _ _
  refine r_ifneB k14_4 (fun z4 => ?_) (fun z4 => ?_)
  · have e_g := jx_eq (by decide) z4
    rw [show ([some (.ref 1), some (.int (g)), some (.int (x)), some (.int (y)), none, none, none] : am_L) = [some (.ref 1), some (.int (nI (jx g))), some (.int (x)), some (.int (y)), none, none, none] by rw [← e_g.1]]
    refine r_aload k14_11 rfl ?_
    refine j_ref (b := 15) k14_12 hB rfl ?_
    refine r_iload k14_15 rfl ?_
    refine j_call (ml := 2) k14_16 rfl (show 0 < d.1 by omega) (show 19 + 2 ≤ d.2 by omega) ⟨Nat.le_of_ble_eq_true rfl, Nat.le_of_ble_eq_true rfl, am_obB hB rfl, Nat.le_of_ble_eq_true rfl⟩ rfl (rest := []) rfl (s_M_par hB hT (jx g) (by omega)) (fun r h1 hq => ?_)
    obtain ⟨rfl, rfl⟩ := hq
    show am_wp _ _ _ [some (.ref 1), some (.int (nI (jx g))), some (.int (x)), some (.int (y)), none, none, none] [.int (M_par J (jx g))] _ _
    rw [show M_par J (jx g) = nI (jn J 16 (jx g)) from congrArg nI (jn_cg rfl)]
    have b16 := ty_n hT (q := 16) (B := 3) (by decide) (by decide) (jx g)
    refine r_istore (L' := [some (.ref 1), some (.int (nI (jx g))), some (.int (x)), some (.int (y)), some (.int (nI (jn J 16 (jx g)))), none, none]) k14_19 (Nat.le_of_ble_eq_true rfl) rfl ?_
    refine r_iload k14_21 rfl ?_
    refine r_ifeqN (by omega) k14_23 (fun z23 => ?_) (fun z23 => ?_)
    · refine r_pushl k14_54 ?_
      exact r_lret k14_57 rfl (K1 z4 z23 hT)
    · refine r_aload k14_26 rfl ?_
      refine j_ref (b := 10) k14_27 hB rfl ?_
      refine r_iload k14_30 rfl ?_
      refine j_call (ml := 2) k14_31 rfl (show 0 < d.1 by omega) (show 19 + 2 ≤ d.2 by omega) ⟨Nat.le_of_ble_eq_true rfl, Nat.le_of_ble_eq_true rfl, am_obB hB rfl, Nat.le_of_ble_eq_true rfl⟩ rfl (rest := []) rfl (s_I_there hB hT x (show 1 ≤ d.1 - 1 by omega) (show 22 ≤ d.2 - 21 by omega)) (fun r h1 hq => ?_)
      obtain ⟨rfl, rfl⟩ := hq
      show am_wp _ _ _ [some (.ref 1), some (.int (nI (jx g))), some (.int (x)), some (.int (y)), some (.int (nI (jn J 16 (jx g)))), none, none] [.int (am_b (I_there J x))] _ _
      refine r_ifeqB k14_34 (fun z34 => ?_) (fun z34 => ?_)
      · refine r_pushl k14_54 ?_
        exact r_lret k14_57 rfl (K2 z4 z23 z34 hT)
      · have e_x := I_there_r hT z34
        rw [show ([some (.ref 1), some (.int (nI (jx g))), some (.int (x)), some (.int (y)), some (.int (nI (jn J 16 (jx g)))), none, none] : am_L) = [some (.ref 1), some (.int (nI (jx g))), some (.int (nI (jx x))), some (.int (y)), some (.int (nI (jn J 16 (jx g)))), none, none] by rw [← e_x.1]]
        refine r_iload k14_37 rfl ?_
        refine r_pushn (v := nI 2) k14_39 rfl ?_
        refine r_icmpneN (by omega) (by omega) k14_40 (fun z40 => ?_) (fun z40 => ?_)
        · refine r_aload k14_58 rfl ?_
          refine j_ref (b := 33) k14_59 hB rfl ?_
          refine r_iload k14_62 rfl ?_
          refine r_iload k14_63 rfl ?_
          refine r_iload k14_64 rfl ?_
          exact K3 z4 z23 z34 z40 hT
        · refine r_aload k14_43 rfl ?_
          refine j_ref (b := 10) k14_44 hB rfl ?_
          refine r_iload k14_47 rfl ?_
          refine j_call (ml := 2) k14_48 rfl (show 0 < d.1 by omega) (show 19 + 2 ≤ d.2 by omega) ⟨Nat.le_of_ble_eq_true rfl, Nat.le_of_ble_eq_true rfl, am_obB hB rfl, Nat.le_of_ble_eq_true rfl⟩ rfl (rest := []) rfl (s_I_there hB hT y (show 1 ≤ d.1 - 1 by omega) (show 22 ≤ d.2 - 21 by omega)) (fun r h1 hq => ?_)
          obtain ⟨rfl, rfl⟩ := hq
          show am_wp _ _ _ [some (.ref 1), some (.int (nI (jx g))), some (.int (nI (jx x))), some (.int (y)), some (.int (nI (jn J 16 (jx g)))), none, none] [.int (am_b (I_there J y))] _ _
          refine r_ifneB k14_51 (fun z51 => ?_) (fun z51 => ?_)
          · have e_y := I_there_r hT z51
            rw [show ([some (.ref 1), some (.int (nI (jx g))), some (.int (nI (jx x))), some (.int (y)), some (.int (nI (jn J 16 (jx g)))), none, none] : am_L) = [some (.ref 1), some (.int (nI (jx g))), some (.int (nI (jx x))), some (.int (nI (jx y))), some (.int (nI (jn J 16 (jx g)))), none, none] by rw [← e_y.1]]
            refine r_aload k14_58 rfl ?_
            refine j_ref (b := 33) k14_59 hB rfl ?_
            refine r_iload k14_62 rfl ?_
            refine r_iload k14_63 rfl ?_
            refine r_iload k14_64 rfl ?_
            exact K4 z4 z23 z34 z40 z51 hT
          · refine r_pushl k14_54 ?_
            exact r_lret k14_57 rfl (K5 z4 z23 z34 z40 z51 hT)
  · refine r_pushl k14_7 ?_
    exact r_lret k14_10 rfl (K6 z4 hT)
set_option maxRecDepth 20000 in
theorem l_D_c1 {d : am_D} {h : am_H} {J : Nat → Nat → Int32} {Q : Option Value → am_H → Prop} (hB : am_B h) (hT : am_ty2 J) (v : Int64) (g : Int32) (x : Int32) (y : Int32)  (hd : 7 ≤ d.1) (hw : 169 ≤ d.2) (K1 : (w_err v) → am_ty2 (J) → Q (some (.long (v))) (am_si h J)) (K2 : ¬ (w_err v) → am_ty2 (am_u2 J 1 7 ((J 1 7) + (nI 1))) → Q (some (.long (v))) (am_si h (am_u2 J 1 7 ((J 1 7) + (nI 1))))) : am_wp d 14 68 [some (.ref 1), some (.int (g)), some (.int (x)), some (.int (y)), none, none, none] [.long (v)] (am_si h J) Q := by
  refine r_lstore (L' := [some (.ref 1), some (.int (g)), some (.int (x)), some (.int (y)), none, some (.long (v)), none]) k14_68 (Nat.le_of_ble_eq_true rfl) rfl ?_
  refine r_lload k14_70 rfl ?_
  refine j_call (ml := 2) k14_72 rfl (show 0 < d.1 by omega) (show 19 + 2 ≤ d.2 by omega) ⟨Nat.le_of_ble_eq_true rfl, Nat.le_of_ble_eq_true rfl, True.intro, Nat.le_of_ble_eq_true rfl⟩ rfl (rest := []) rfl (s_w_err v) (fun r h1 hq => ?_)
  obtain ⟨rfl, rfl⟩ := hq
  show am_wp _ _ _ [some (.ref 1), some (.int (g)), some (.int (x)), some (.int (y)), none, some (.long (v)), none] [.int (am_b (w_err v))] _ _
  refine r_ifneB k14_75 (fun z75 => ?_) (fun z75 => ?_)
  · refine r_lload k14_88 rfl ?_
    exact r_lret k14_90 rfl (K1 z75 hT)
  · refine r_aload k14_78 rfl ?_
    refine r_dup rfl k14_79 ?_
    refine j_get (j := 7) (v := (J 1 7)) k14_80 hB rfl rfl ?_
    refine r_pushn (v := nI 1) k14_83 rfl ?_
    refine r_iadd k14_84 ?_
    refine j_put (j := 7) k14_85 hB rfl rfl ?_
    have hT85 : am_ty2 (am_u2 J 1 7 ((J 1 7) + (nI 1))) := ty_w hT (tw_u (by decide) (by decide) (by decide))
    refine r_lload k14_88 rfl ?_
    exact r_lret k14_90 rfl (K2 z75 hT85)
set_option maxRecDepth 20000 in
theorem l_Q_c0 {d : am_D} {h : am_H} {J : Nat → Nat → Int32} {Q : Option Value → am_H → Prop} (hB : am_B h) (hT : am_ty2 J) (g : Int32) (x : Int32) (y : Int32)  (hd : 8 ≤ d.1) (hw : 192 ≤ d.2) (K1 : ¬ (r_is g (nI 0) (nI 4)) → am_ty2 (J) → Q (some (.long (Int64.ofInt 1099511627774))) (am_si h J)) (K2 : (r_is g (nI 0) (nI 4)) → ((jn J 49 (jx g)) = 0) → am_ty2 (J) → Q (some (.long (Int64.ofInt 1099511627774))) (am_si h J)) (K3 : (r_is g (nI 0) (nI 4)) → ¬ ((jn J 49 (jx g)) = 0) → ¬ (R_inst J x) → am_ty2 (J) → Q (some (.long (Int64.ofInt 1099511627774))) (am_si h J)) (K4 : (r_is g (nI 0) (nI 4)) → ¬ ((jn J 49 (jx g)) = 0) → (R_inst J x) → ¬ ((jn J 49 (jx g)) = 2) → am_ty2 (am_u2 (am_u2 (am_u2 J 36 38 (nI 0)) 36 39 (nI 0)) 36 41 (nI 0)) → am_wp d 70 63 [some (.ref 36), some (.int (nI (jx g))), some (.int (nI (jx x))), some (.int (y)), none] [] (am_si h (am_u2 (am_u2 (am_u2 J 36 38 (nI 0)) 36 39 (nI 0)) 36 41 (nI 0))) Q) (K5 : (r_is g (nI 0) (nI 4)) → ¬ ((jn J 49 (jx g)) = 0) → (R_inst J x) → ((jn J 49 (jx g)) = 2) → (R_inst J y) → am_ty2 (am_u2 (am_u2 (am_u2 J 36 38 (nI 0)) 36 39 (nI 0)) 36 41 (nI 0)) → am_wp d 70 63 [some (.ref 36), some (.int (nI (jx g))), some (.int (nI (jx x))), some (.int (nI (jx y))), none] [] (am_si h (am_u2 (am_u2 (am_u2 J 36 38 (nI 0)) 36 39 (nI 0)) 36 41 (nI 0))) Q) (K6 : (r_is g (nI 0) (nI 4)) → ¬ ((jn J 49 (jx g)) = 0) → (R_inst J x) → ((jn J 49 (jx g)) = 2) → ¬ (R_inst J y) → am_ty2 (J) → Q (some (.long (Int64.ofInt 1099511627774))) (am_si h J)) : am_wp d 70 0 [some (.ref 36), some (.int (g)), some (.int (x)), some (.int (y)), none] [] (am_si h J) Q := by
  refine r_iload k70_0 rfl ?_
  refine r_pushn (v := nI 0) k70_1 rfl ?_
  refine r_pushn (v := nI 4) k70_2 rfl ?_
  refine j_call (ml := 3) k70_3 rfl (show 0 < d.1 by omega) (show 19 + 3 ≤ d.2 by omega) ⟨Nat.le_of_ble_eq_true rfl, Nat.le_of_ble_eq_true rfl, True.intro, Nat.le_of_ble_eq_true rfl⟩ rfl (rest := []) rfl (s_r_is g (nI 0) (nI 4)) (fun r h1 hq => ?_)
  obtain ⟨rfl, rfl⟩ := hq
  show am_wp _ _ _ [some (.ref 36), some (.int (g)), some (.int (x)), some (.int (y)), none] [.int (am_b (r_is g (nI 0) (nI 4)))] _ _
  refine r_ifeqB k70_6 (fun z6 => ?_) (fun z6 => ?_)
  · refine r_pushl k70_44 ?_
    exact r_lret k70_47 rfl (K1 z6 hT)
  · have e_g := jx_eq (by decide) (show w_in _ _ _ from z6)
    rw [show ([some (.ref 36), some (.int (g)), some (.int (x)), some (.int (y)), none] : am_L) = [some (.ref 36), some (.int (nI (jx g))), some (.int (x)), some (.int (y)), none] by rw [← e_g.1]]
    refine r_aload k70_9 rfl ?_
    refine j_ref (b := 49) k70_10 hB rfl ?_
    refine r_iload k70_13 rfl ?_
    have b14 := ty_n hT (q := 49) (B := 3) (by decide) (by decide) (jx g)
    refine j_ald (n := 5) (j := (jx g)) (v := (nI (jn J 49 (jx g)))) k70_14 hB rfl rfl (by omega) (b14.1) ?_
    refine r_ifeqN (by omega) k70_15 (fun z15 => ?_) (fun z15 => ?_)
    · refine r_pushl k70_44 ?_
      exact r_lret k70_47 rfl (K2 z6 z15 hT)
    · refine r_aload k70_18 rfl ?_
      refine r_iload k70_19 rfl ?_
      refine j_call (ml := 2) k70_20 rfl (show 0 < d.1 by omega) (show 19 + 2 ≤ d.2 by omega) ⟨Nat.le_of_ble_eq_true rfl, Nat.le_of_ble_eq_true rfl, am_obB hB rfl, Nat.le_of_ble_eq_true rfl⟩ rfl (rest := []) rfl (s_R_inst hB hT x (show 1 ≤ d.1 - 1 by omega) (show 22 ≤ d.2 - 21 by omega)) (fun r h1 hq => ?_)
      obtain ⟨rfl, rfl⟩ := hq
      show am_wp _ _ _ [some (.ref 36), some (.int (nI (jx g))), some (.int (x)), some (.int (y)), none] [.int (am_b (R_inst J x))] _ _
      refine r_ifeqB k70_23 (fun z23 => ?_) (fun z23 => ?_)
      · refine r_pushl k70_44 ?_
        exact r_lret k70_47 rfl (K3 z6 z15 z23 hT)
      · have e_x := R_inst_r hT z23
        rw [show ([some (.ref 36), some (.int (nI (jx g))), some (.int (x)), some (.int (y)), none] : am_L) = [some (.ref 36), some (.int (nI (jx g))), some (.int (nI (jx x))), some (.int (y)), none] by rw [← e_x.1]]
        refine r_aload k70_26 rfl ?_
        refine j_ref (b := 49) k70_27 hB rfl ?_
        refine r_iload k70_30 rfl ?_
        have b31 := ty_n hT (q := 49) (B := 3) (by decide) (by decide) (jx g)
        refine j_ald (n := 5) (j := (jx g)) (v := (nI (jn J 49 (jx g)))) k70_31 hB rfl rfl (by omega) (b31.1) ?_
        refine r_pushn (v := nI 2) k70_32 rfl ?_
        refine r_icmpneN (by omega) (by omega) k70_33 (fun z33 => ?_) (fun z33 => ?_)
        · refine r_aload k70_48 rfl ?_
          refine r_pushn (v := nI 0) k70_49 rfl ?_
          refine j_put (j := 38) k70_50 hB rfl rfl ?_
          have hT50 : am_ty2 (am_u2 J 36 38 (nI 0)) := ty_w hT (tw_f (B := 13) (by decide) (by decide) (by decide) (by omega))
          refine r_aload k70_53 rfl ?_
          refine r_pushn (v := nI 0) k70_54 rfl ?_
          refine j_put (j := 39) k70_55 hB rfl rfl ?_
          have hT55 : am_ty2 (am_u2 (am_u2 J 36 38 (nI 0)) 36 39 (nI 0)) := ty_w hT50 (tw_f (B := 321) (by decide) (by decide) (by decide) (by omega))
          refine r_aload k70_58 rfl ?_
          refine r_pushn (v := nI 0) k70_59 rfl ?_
          refine j_put (j := 41) k70_60 hB rfl rfl ?_
          have hT60 : am_ty2 (am_u2 (am_u2 (am_u2 J 36 38 (nI 0)) 36 39 (nI 0)) 36 41 (nI 0)) := ty_w hT55 (tw_f (B := 301) (by decide) (by decide) (by decide) (by omega))
          exact K4 z6 z15 z23 z33 hT60
        · refine r_aload k70_36 rfl ?_
          refine r_iload k70_37 rfl ?_
          refine j_call (ml := 2) k70_38 rfl (show 0 < d.1 by omega) (show 19 + 2 ≤ d.2 by omega) ⟨Nat.le_of_ble_eq_true rfl, Nat.le_of_ble_eq_true rfl, am_obB hB rfl, Nat.le_of_ble_eq_true rfl⟩ rfl (rest := []) rfl (s_R_inst hB hT y (show 1 ≤ d.1 - 1 by omega) (show 22 ≤ d.2 - 21 by omega)) (fun r h1 hq => ?_)
          obtain ⟨rfl, rfl⟩ := hq
          show am_wp _ _ _ [some (.ref 36), some (.int (nI (jx g))), some (.int (nI (jx x))), some (.int (y)), none] [.int (am_b (R_inst J y))] _ _
          refine r_ifneB k70_41 (fun z41 => ?_) (fun z41 => ?_)
          · have e_y := R_inst_r hT z41
            rw [show ([some (.ref 36), some (.int (nI (jx g))), some (.int (nI (jx x))), some (.int (y)), none] : am_L) = [some (.ref 36), some (.int (nI (jx g))), some (.int (nI (jx x))), some (.int (nI (jx y))), none] by rw [← e_y.1]]
            refine r_aload k70_48 rfl ?_
            refine r_pushn (v := nI 0) k70_49 rfl ?_
            refine j_put (j := 38) k70_50 hB rfl rfl ?_
            have hT50 : am_ty2 (am_u2 J 36 38 (nI 0)) := ty_w hT (tw_f (B := 13) (by decide) (by decide) (by decide) (by omega))
            refine r_aload k70_53 rfl ?_
            refine r_pushn (v := nI 0) k70_54 rfl ?_
            refine j_put (j := 39) k70_55 hB rfl rfl ?_
            have hT55 : am_ty2 (am_u2 (am_u2 J 36 38 (nI 0)) 36 39 (nI 0)) := ty_w hT50 (tw_f (B := 321) (by decide) (by decide) (by decide) (by omega))
            refine r_aload k70_58 rfl ?_
            refine r_pushn (v := nI 0) k70_59 rfl ?_
            refine j_put (j := 41) k70_60 hB rfl rfl ?_
            have hT60 : am_ty2 (am_u2 (am_u2 (am_u2 J 36 38 (nI 0)) 36 39 (nI 0)) 36 41 (nI 0)) := ty_w hT55 (tw_f (B := 301) (by decide) (by decide) (by decide) (by omega))
            exact K5 z6 z15 z23 z33 z41 hT60
          · refine r_pushl k70_44 ?_
            exact r_lret k70_47 rfl (K6 z6 z15 z23 z33 z41 hT)
set_option maxRecDepth 20000 in
theorem l_Q_c2 {d : am_D} {h : am_H} {J : Nat → Nat → Int32} {Q : Option Value → am_H → Prop} (hB : am_B h) (hT : am_ty2 J) (g : Nat) (x : Nat) (y : Int32) (hg : g < 5) (hx : x < 12) (hy2 : jn J 49 g = 2 → y = nI (jx y) ∧ jx y < 12) (hl12 : jn J 36 38 < 12) (ht : jn J 36 39 < 320) (hd : 8 ≤ d.1) (hw : 192 ≤ d.2) (K1 : ¬ ((jn J 49 g) = 2) → am_ty2 ((R_enter J g x x).2) → am_wp d 70 86 [some (.ref 36), some (.int (nI (g))), some (.int (nI (x))), some (.int (y)), some (.int ((R_enter J g x x).1))] [] (am_si h ((R_enter J g x x).2)) Q) (K2 : ((jn J 49 g) = 2) → am_ty2 ((R_enter J g x (jx y)).2) → am_wp d 70 86 [some (.ref 36), some (.int (nI (g))), some (.int (nI (x))), some (.int (y)), some (.int ((R_enter J g x (jx y)).1))] [] (am_si h ((R_enter J g x (jx y)).2)) Q) : am_wp d 70 63 [some (.ref 36), some (.int (nI (g))), some (.int (nI (x))), some (.int (y)), none] [] (am_si h J) Q := by
  refine r_aload k70_63 rfl ?_
  refine r_iload k70_64 rfl ?_
  refine r_iload k70_65 rfl ?_
  refine r_aload k70_66 rfl ?_
  refine j_ref (b := 49) k70_67 hB rfl ?_
  refine r_iload k70_70 rfl ?_
  have b71 := ty_n hT (q := 49) (B := 3) (by decide) (by decide) g
  refine j_ald (n := 5) (j := g) (v := (nI (jn J 49 g))) k70_71 hB rfl rfl (by omega) (b71.1) ?_
  refine r_pushn (v := nI 2) k70_72 rfl ?_
  refine r_icmpneN (by omega) (by omega) k70_73 (fun z73 => ?_) (fun z73 => ?_)
  · refine r_iload k70_80 rfl ?_
    refine j_call (ml := 8) k70_81 rfl (show 0 < d.1 by omega) (show 19 + 8 ≤ d.2 by omega) ⟨Nat.le_of_ble_eq_true rfl, Nat.le_of_ble_eq_true rfl, am_obB hB rfl, Nat.le_of_ble_eq_true rfl⟩ rfl (rest := []) rfl (s_R_enter hB hT g x x (by omega) (by omega) (by omega) (by omega) (ht) (show 4 ≤ d.1 - 1 by omega) (show 96 ≤ d.2 - 27 by omega)) (fun r h1 hq => ?_)
    obtain ⟨rfl, rfl, hT81⟩ := hq
    show am_wp _ _ _ [some (.ref 36), some (.int (nI (g))), some (.int (nI (x))), some (.int (y)), none] [.int ((R_enter J g x x).1)] _ _
    refine r_istore (L' := [some (.ref 36), some (.int (nI (g))), some (.int (nI (x))), some (.int (y)), some (.int ((R_enter J g x x).1))]) k70_84 (Nat.le_of_ble_eq_true rfl) rfl ?_
    exact K1 z73 hT81
  · refine r_iload k70_76 rfl ?_
    have cy := hy2 z73
    rw [show ([.int (y), .int (nI (x)), .int (nI (g)), .ref 36] : List Value) = [.int (nI (jx y)), .int (nI (x)), .int (nI (g)), .ref 36] by rw [← cy.1]]
    refine r_goto k70_77 ?_
    refine j_call (ml := 8) k70_81 rfl (show 0 < d.1 by omega) (show 19 + 8 ≤ d.2 by omega) ⟨Nat.le_of_ble_eq_true rfl, Nat.le_of_ble_eq_true rfl, am_obB hB rfl, Nat.le_of_ble_eq_true rfl⟩ rfl (rest := []) rfl (s_R_enter hB hT g x (jx y) (by omega) (by omega) (by omega) (by omega) (ht) (show 4 ≤ d.1 - 1 by omega) (show 96 ≤ d.2 - 27 by omega)) (fun r h1 hq => ?_)
    obtain ⟨rfl, rfl, hT81⟩ := hq
    show am_wp _ _ _ [some (.ref 36), some (.int (nI (g))), some (.int (nI (x))), some (.int (y)), none] [.int ((R_enter J g x (jx y)).1)] _ _
    refine r_istore (L' := [some (.ref 36), some (.int (nI (g))), some (.int (nI (x))), some (.int (y)), some (.int ((R_enter J g x (jx y)).1))]) k70_84 (Nat.le_of_ble_eq_true rfl) rfl ?_
    exact K2 z73 hT81
set_option maxRecDepth 20000 in
theorem l_Q_c1 {d : am_D} {h : am_H} {J : Nat → Nat → Int32} {Q : Option Value → am_H → Prop} (hB : am_B h) (hT : am_ty2 J) (good : Int32)  (hd : 8 ≤ d.1) (hw : 192 ≤ d.2) (K1 : ¬ (good = 0) → am_ty2 (am_u2 J 73 8 ((J 73 8) + (nI 1))) → Q (some (.long (((am_u2 J 73 8 ((J 73 8) + (nI 1))) 36 42).toInt64))) (am_si h (am_u2 J 73 8 ((J 73 8) + (nI 1))))) (K2 : (good = 0) → am_ty2 (J) → Q (some (.long ((Int64.ofInt 1099511627776) + ((J 36 40).toInt64)))) (am_si h J)) : am_wp d 70 107 [some (.ref 36), none, none, none, some (.int (good))] [] (am_si h J) Q := by
  refine r_iload k70_107 rfl ?_
  refine r_ifne k70_109 (fun z109 => ?_) (fun z109 => ?_)
  · refine r_aload k70_122 rfl ?_
    refine j_ref (b := 73) k70_123 hB rfl ?_
    refine r_pushn (v := nI 8) k70_126 rfl ?_
    refine r_dup2 rfl rfl k70_128 ?_
    refine j_ald (n := 10) (j := 8) (v := (J 73 8)) k70_129 hB rfl rfl (by omega) rfl ?_
    refine r_pushn (v := nI 1) k70_130 rfl ?_
    refine r_iadd k70_131 ?_
    refine j_ast (n := 10) (j := 8) k70_132 hB rfl rfl (by omega) ?_
    have hT132 : am_ty2 (am_u2 J 73 8 ((J 73 8) + (nI 1))) := ty_w hT (tw_a (by decide) (by decide) (by decide))
    refine r_aload k70_133 rfl ?_
    refine j_getL (j := 42) k70_134 hB rfl ?_
    exact r_lret k70_137 rfl (K1 z109 hT132)
  · refine r_pushl k70_112 ?_
    refine r_aload k70_115 rfl ?_
    refine j_get (j := 40) (v := (J 36 40)) k70_116 hB rfl rfl ?_
    refine r_i2l k70_119 ?_
    refine r_ladd k70_120 ?_
    exact r_lret k70_121 rfl (K2 z109 hT)
