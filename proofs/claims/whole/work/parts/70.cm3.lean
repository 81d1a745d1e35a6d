/-! The class: the machine, more. -/
set_option maxRecDepth 20000 in
theorem l_M_c0 {d : am_D} {h : am_H} {J : Nat → Nat → Int32} {Q : Option Value → am_H → Prop} (hB : am_B h) (hT : am_ty2 J) (f : Nat) (w : Nat) (e : Nat) (hf : am_ob h f 10) (hp1 : am_P h f 0 = some w) (hw9 : am_ob h w 8) (h76 : 74 ≤ f) (h77 : 74 ≤ w) (n3 : ¬ w = f) (hpw : am_P h w 1 = some e) (he : am_ob h e 9) (h74 : 74 ≤ e) (n1 : ¬ e = f) (hE : ∀ j, 1 ≤ j → j ≤ 4 → J e j = nI (jn J e j) ∧ jn J e j ≤ 16) (f1 : J f 1 = nI (jn J f 1) ∧ jn J f 1 < 16) (h0 : 0 < jn J 33 9) (h8 : 0 < jn J 33 8) (w5 : J w 5 = nI (jn J w 5) ∧ jn J w 5 < 200) (z56 : jn J 33 9 - 1 = 0) (hd : 1 ≤ d.1) (hw : 21 ≤ d.2) (K1 : ¬ (((jn J 33 9) - 1) = (jn J w 5)) → ¬ (E_aside J e (jn J f 1)) → (((jn J 33 9) - 1) = 0) → am_ty2 (am_u2 (am_u2 J 33 9 (nI ((jn J 33 9) - 1))) 33 12 (J f 3)) → Q none (am_si h (am_u2 (am_u2 J 33 9 (nI ((jn J 33 9) - 1))) 33 12 (J f 3)))) (K3 : ¬ (((jn J 33 9) - 1) = (jn J w 5)) → (E_aside J e (jn J f 1)) → am_ty2 (am_u2 J 33 9 (nI ((jn J 33 9) - 1))) → Q none (am_si h (am_u2 J 33 9 (nI ((jn J 33 9) - 1))))) (K4 : (((jn J 33 9) - 1) = (jn J w 5)) → ¬ (E_aside J e (jn J f 1)) → (((jn J 33 9) - 1) = 0) → am_ty2 (am_u2 (am_u2 (am_u2 J 33 9 (nI ((jn J 33 9) - 1))) 33 8 (nI ((jn J 33 8) - 1))) 33 12 (J f 3)) → Q none (am_si h (am_u2 (am_u2 (am_u2 J 33 9 (nI ((jn J 33 9) - 1))) 33 8 (nI ((jn J 33 8) - 1))) 33 12 (J f 3)))) (K6 : (((jn J 33 9) - 1) = (jn J w 5)) → (E_aside J e (jn J f 1)) → am_ty2 (am_u2 (am_u2 J 33 9 (nI ((jn J 33 9) - 1))) 33 8 (nI ((jn J 33 8) - 1))) → Q none (am_si h (am_u2 (am_u2 J 33 9 (nI ((jn J 33 9) - 1))) 33 8 (nI ((jn J 33 8) - 1))))) : am_wp d 150 0 [some (.ref 33), some (.ref f), none] [] (am_si h J) Q := by
  refine r_aload k150_0 rfl ?_
  refine r_dup rfl k150_1 ?_
  have b2 := ty_f hT (q := 33) (j := 9) (B := 193) (by decide) (by decide)
  refine j_get (j := 9) (v := (nI (jn J 33 9))) k150_2 hB rfl (b2.1) ?_
  refine r_pushn (v := nI 1) k150_5 rfl ?_
  refine r_isubN (by omega) k150_6 ?_
  refine j_put (j := 9) k150_7 hB rfl rfl ?_
  have hT7 : am_ty2 (am_u2 J 33 9 (nI ((jn J 33 9) - 1))) := ty_w hT (tw_f (B := 193) (by decide) (by decide) (by decide) (by omega))
  refine r_aload k150_10 rfl ?_
  refine j_get (j := 9) (v := (nI ((jn J 33 9) - 1))) k150_11 hB rfl (am_u2_s) ?_
  refine r_aload k150_14 rfl ?_
  refine v_ref (b := w) k150_15 hf rfl hp1 ?_
  refine v_get (j := 5) (v := (nI (jn J w 5))) k150_18 hw9 rfl ((congrFun (fr_u (by omega)) _).trans (w5.1)) ?_
  refine r_icmpneN (by omega) (by omega) k150_21 (fun z21 => ?_) (fun z21 => ?_)
  · refine r_aload k150_34 rfl ?_
    refine v_ref (b := w) k150_35 hf rfl hp1 ?_
    refine v_ref (b := e) k150_38 hw9 rfl hpw ?_
    refine r_aload k150_41 rfl ?_
    refine v_get (j := 1) (v := (nI (jn J f 1))) k150_42 hf rfl ((congrFun (fr_u (by omega)) _).trans (f1.1)) ?_
    have E45 : ∀ j, 1 ≤ j → j ≤ 4 → (am_u2 J 33 9 (nI ((jn J 33 9) - 1))) e j = nI (jn (am_u2 J 33 9 (nI ((jn J 33 9) - 1))) e j) ∧ jn (am_u2 J 33 9 (nI ((jn J 33 9) - 1))) e j ≤ 16 := fun j h1 h2 => by rw [jn_cg (fr_u (by omega)), (fr_u (by omega))]; exact hE j h1 h2
    refine j_call (ml := 2) k150_45 rfl (show 0 < d.1 by omega) (show 19 + 2 ≤ d.2 by omega) ⟨Nat.le_of_ble_eq_true rfl, Nat.le_of_ble_eq_true rfl, he, Nat.le_of_ble_eq_true rfl⟩ rfl (rest := []) rfl (s_E_aside hB hT7 e (jn J f 1) (he) (E45 1 (by decide) (by decide)) (E45 2 (by decide) (by decide)) (E45 3 (by decide) (by decide)) (E45 4 (by decide) (by decide)) (by omega)) (fun r h1 hq => ?_)
    obtain ⟨rfl, rfl⟩ := hq
    show am_wp _ _ _ [some (.ref 33), some (.ref f), none] [.int (am_b (E_aside (am_u2 J 33 9 (nI ((jn J 33 9) - 1))) e (jn J f 1)))] _ _
    rw [show E_aside (am_u2 J 33 9 (nI ((jn J 33 9) - 1))) e (jn J f 1) = E_aside J e (jn J f 1) from E_aside_cg (fr_u (by omega))]
    refine r_ifeqB k150_48 (fun z48 => ?_) (fun z48 => ?_)
    · have e9 : jn (am_u2 J 33 9 (nI ((jn J 33 9) - 1))) 33 9 = jn J 33 9 - 1 := jn_u (by omega)
      refine r_aload k150_52 rfl ?_
      refine j_call (ml := 1) k150_53 rfl (show 0 < d.1 by omega) (show 19 + 1 ≤ d.2 by omega) ⟨Nat.le_of_ble_eq_true rfl, Nat.le_of_ble_eq_true rfl, am_obB hB rfl, Nat.le_of_ble_eq_true rfl⟩ rfl (rest := []) rfl (s_inn0 hB hT7 (e9.trans z56)) (fun r h1 hq => ?_)
      obtain ⟨rfl, rfl⟩ := hq
      show am_wp _ _ _ [some (.ref 33), some (.ref f), none] [.null] _ _
      refine r_astoreN (L' := [some (.ref 33), some (.ref f), some .null]) k150_56 (Nat.le_of_ble_eq_true rfl) rfl ?_
      refine r_aloadN k150_57 rfl ?_
      refine r_ifnullN k150_58 ?_
      refine r_aload k150_77 rfl ?_
      refine r_aload k150_78 rfl ?_
      refine v_get (j := 3) (v := (J f 3)) k150_79 hf rfl (congrFun (fr_u (by omega)) _) ?_
      refine j_put (j := 12) k150_82 hB rfl rfl ?_
      have hT90 : am_ty2 (am_u2 (am_u2 J 33 9 (nI ((jn J 33 9) - 1))) 33 12 (J f 3)) := ty_w hT7 (tw_u (by decide) (by decide) (by decide))
      exact r_vret k150_85 rfl (K1 z21 z48 z56 hT90)
    · exact r_vret k150_51 rfl (K3 z21 z48 hT7)
  · refine r_aload k150_24 rfl ?_
    refine r_dup rfl k150_25 ?_
    have b26 := ty_f hT (q := 33) (j := 8) (B := 13) (by decide) (by decide)
    refine j_get (j := 8) (v := (nI (jn J 33 8))) k150_26 hB rfl ((u2_ne (by decide)).trans (b26.1)) ?_
    refine r_pushn (v := nI 1) k150_29 rfl ?_
    refine r_isubN (by omega) k150_30 ?_
    refine j_put (j := 8) k150_31 hB rfl rfl ?_
    have hT31 : am_ty2 (am_u2 (am_u2 J 33 9 (nI ((jn J 33 9) - 1))) 33 8 (nI ((jn J 33 8) - 1))) := ty_w hT7 (tw_f (B := 13) (by decide) (by decide) (by decide) (by omega))
    refine r_aload k150_34 rfl ?_
    refine v_ref (b := w) k150_35 hf rfl hp1 ?_
    refine v_ref (b := e) k150_38 hw9 rfl hpw ?_
    refine r_aload k150_41 rfl ?_
    refine v_get (j := 1) (v := (nI (jn J f 1))) k150_42 hf rfl ((congrFun (fr_u (by omega)) _).trans ((congrFun (fr_u (by omega)) _).trans (f1.1))) ?_
    have E45 : ∀ j, 1 ≤ j → j ≤ 4 → (am_u2 (am_u2 J 33 9 (nI ((jn J 33 9) - 1))) 33 8 (nI ((jn J 33 8) - 1))) e j = nI (jn (am_u2 (am_u2 J 33 9 (nI ((jn J 33 9) - 1))) 33 8 (nI ((jn J 33 8) - 1))) e j) ∧ jn (am_u2 (am_u2 J 33 9 (nI ((jn J 33 9) - 1))) 33 8 (nI ((jn J 33 8) - 1))) e j ≤ 16 := fun j h1 h2 => by rw [jn_cg ((fr_u (by omega)).trans (fr_u (by omega))), ((fr_u (by omega)).trans (fr_u (by omega)))]; exact hE j h1 h2
    refine j_call (ml := 2) k150_45 rfl (show 0 < d.1 by omega) (show 19 + 2 ≤ d.2 by omega) ⟨Nat.le_of_ble_eq_true rfl, Nat.le_of_ble_eq_true rfl, he, Nat.le_of_ble_eq_true rfl⟩ rfl (rest := []) rfl (s_E_aside hB hT31 e (jn J f 1) (he) (E45 1 (by decide) (by decide)) (E45 2 (by decide) (by decide)) (E45 3 (by decide) (by decide)) (E45 4 (by decide) (by decide)) (by omega)) (fun r h1 hq => ?_)
    obtain ⟨rfl, rfl⟩ := hq
    show am_wp _ _ _ [some (.ref 33), some (.ref f), none] [.int (am_b (E_aside (am_u2 (am_u2 J 33 9 (nI ((jn J 33 9) - 1))) 33 8 (nI ((jn J 33 8) - 1))) e (jn J f 1)))] _ _
    rw [show E_aside (am_u2 (am_u2 J 33 9 (nI ((jn J 33 9) - 1))) 33 8 (nI ((jn J 33 8) - 1))) e (jn J f 1) = E_aside J e (jn J f 1) from E_aside_cg ((fr_u (by omega)).trans (fr_u (by omega)))]
    refine r_ifeqB k150_48 (fun z48 => ?_) (fun z48 => ?_)
    · have e9 : jn (am_u2 (am_u2 J 33 9 (nI ((jn J 33 9) - 1))) 33 8 (nI ((jn J 33 8) - 1))) 33 9 = jn J 33 9 - 1 := (jn_v (by decide)).trans (jn_u (by omega))
      refine r_aload k150_52 rfl ?_
      refine j_call (ml := 1) k150_53 rfl (show 0 < d.1 by omega) (show 19 + 1 ≤ d.2 by omega) ⟨Nat.le_of_ble_eq_true rfl, Nat.le_of_ble_eq_true rfl, am_obB hB rfl, Nat.le_of_ble_eq_true rfl⟩ rfl (rest := []) rfl (s_inn0 hB hT31 (e9.trans z56)) (fun r h1 hq => ?_)
      obtain ⟨rfl, rfl⟩ := hq
      show am_wp _ _ _ [some (.ref 33), some (.ref f), none] [.null] _ _
      refine r_astoreN (L' := [some (.ref 33), some (.ref f), some .null]) k150_56 (Nat.le_of_ble_eq_true rfl) rfl ?_
      refine r_aloadN k150_57 rfl ?_
      refine r_ifnullN k150_58 ?_
      refine r_aload k150_77 rfl ?_
      refine r_aload k150_78 rfl ?_
      refine v_get (j := 3) (v := (J f 3)) k150_79 hf rfl ((congrFun (fr_u (by omega)) _).trans (congrFun (fr_u (by omega)) _)) ?_
      refine j_put (j := 12) k150_82 hB rfl rfl ?_
      have hT90 : am_ty2 (am_u2 (am_u2 (am_u2 J 33 9 (nI ((jn J 33 9) - 1))) 33 8 (nI ((jn J 33 8) - 1))) 33 12 (J f 3)) := ty_w hT31 (tw_u (by decide) (by decide) (by decide))
      exact r_vret k150_85 rfl (K4 z21 z48 z56 hT90)
    · exact r_vret k150_51 rfl (K6 z21 z48 hT31)
set_option maxRecDepth 20000 in
theorem l_M_turn {d : am_D} {h : am_H} {J : Nat → Nat → Int32} {Q : Option Value → am_H → Prop} (hB : am_B h) (hT : am_ty2 J) (k : Nat) (f : Nat) (g : Int32) (x : Int32) (y : Int32) (hk : k ≤ 1000000) (hpf : ¬ jn J 33 9 = 0 → am_P h 35 (jn J 33 9 - 1) = some f) (hd : 6 ≤ d.1) (hw : 145 ≤ d.2) (K1 : (1000000 ≤ k) → ((J 33 11) = 0) → am_ty2 (J) → Q (some (.long ((J 33 12).toInt64))) (am_si h J)) (K2 : (1000000 ≤ k) → ¬ ((J 33 11) = 0) → am_ty2 (J) → Q (some (.long ((Int64.ofInt 1099511627776) + ((J 33 11).toInt64)))) (am_si h J)) (K3 : ¬ (1000000 ≤ k) → ¬ ((J 33 11) = 0) → am_ty2 (J) → Q (some (.long ((Int64.ofInt 1099511627776) + ((J 33 11).toInt64)))) (am_si h J)) (K4 : ¬ (1000000 ≤ k) → ((J 33 11) = 0) → ((J 33 13) = ((-1))) → ((jn J 33 9) = 0) → am_ty2 (J) → Q (some (.long ((J 33 12).toInt64))) (am_si h J)) (K5 : ¬ (1000000 ≤ k) → ((J 33 11) = 0) → ((J 33 13) = ((-1))) → ¬ ((jn J 33 9) = 0) → am_ty2 (J) → am_wp d 144 73 [some (.ref 33), some (.int (g)), some (.int (x)), some (.int (y)), some (.int (nI (k))), none] [.ref f, .ref 33] (am_si h J) Q) (K6 : ¬ (1000000 ≤ k) → ((J 33 11) = 0) → ¬ ((J 33 13) = ((-1))) → am_ty2 (J) → am_wp d 144 59 [some (.ref 33), some (.int (g)), some (.int (x)), some (.int (y)), some (.int (nI (k))), none] [.ref 33] (am_si h J) Q) : am_wp d 144 30 [some (.ref 33), some (.int (g)), some (.int (x)), some (.int (y)), some (.int (nI (k))), none] [] (am_si h J) Q := by
  refine r_iload k144_30 rfl ?_
  refine r_pushn (v := nI 1000000) k144_32 rfl ?_
  refine r_icmpgeN (by omega) (by omega) k144_34 (fun z34 => ?_) (fun z34 => ?_)
  · refine r_aload k144_82 rfl ?_
    refine j_get (j := 11) (v := (J 33 11)) k144_83 hB rfl rfl ?_
    refine r_ifeq k144_86 (fun z91 => ?_) (fun z91 => ?_)
    · refine r_aload k144_101 rfl ?_
      refine j_get (j := 12) (v := (J 33 12)) k144_102 hB rfl rfl ?_
      refine r_i2l k144_105 ?_
      exact r_lret k144_106 rfl (K1 z34 z91 hT)
    · refine r_pushl k144_89 ?_
      refine r_aload k144_92 rfl ?_
      refine j_get (j := 11) (v := (J 33 11)) k144_93 hB rfl rfl ?_
      refine r_i2l k144_96 ?_
      refine r_ladd k144_97 ?_
      refine r_goto k144_98 ?_
      exact r_lret k144_106 rfl (K2 z34 z91 hT)
  · refine r_aload k144_37 rfl ?_
    refine j_get (j := 11) (v := (J 33 11)) k144_38 hB rfl rfl ?_
    refine r_ifne k144_41 (fun z41 => ?_) (fun z41 => ?_)
    · refine r_aload k144_82 rfl ?_
      refine j_get (j := 11) (v := (J 33 11)) k144_83 hB rfl rfl ?_
      refine r_ifeq k144_86 (fun z91 => ?_) (fun z91 => ?_)
      · exact absurd z91 z41
      · refine r_pushl k144_89 ?_
        refine r_aload k144_92 rfl ?_
        refine j_get (j := 11) (v := (J 33 11)) k144_93 hB rfl rfl ?_
        refine r_i2l k144_96 ?_
        refine r_ladd k144_97 ?_
        refine r_goto k144_98 ?_
        exact r_lret k144_106 rfl (K3 z34 z41 hT)
    · refine r_aload k144_44 rfl ?_
      by_cases z63 : jn J 33 9 = 0
      · refine j_call (ml := 1) k144_45 rfl (show 0 < d.1 by omega) (show 19 + 1 ≤ d.2 by omega) ⟨Nat.le_of_ble_eq_true rfl, Nat.le_of_ble_eq_true rfl, am_obB hB rfl, Nat.le_of_ble_eq_true rfl⟩ rfl (rest := []) rfl (s_inn0 hB hT z63) (fun r h1 hq => ?_)
        obtain ⟨rfl, rfl⟩ := hq
        show am_wp _ _ _ [some (.ref 33), some (.int (g)), some (.int (x)), some (.int (y)), some (.int (nI (k))), none] [.null] _ _
        refine r_astoreN (L' := [some (.ref 33), some (.int (g)), some (.int (x)), some (.int (y)), some (.int (nI (k))), some .null]) k144_48 (Nat.le_of_ble_eq_true rfl) rfl ?_
        refine r_aload k144_50 rfl ?_
        refine j_get (j := 13) (v := (J 33 13)) k144_51 hB rfl rfl ?_
        refine r_pushn (v := (-1)) k144_54 rfl ?_
        refine r_icmpeq k144_55 (fun z49 => ?_) (fun z49 => ?_)
        · refine r_aloadN k144_65 rfl ?_
          refine r_ifnullN k144_67 ?_
          refine r_aload k144_82 rfl ?_
          refine j_get (j := 11) (v := (J 33 11)) k144_83 hB rfl rfl ?_
          refine r_ifeq k144_86 (fun z91 => ?_) (fun z91 => ?_)
          · refine r_aload k144_101 rfl ?_
            refine j_get (j := 12) (v := (J 33 12)) k144_102 hB rfl rfl ?_
            refine r_i2l k144_105 ?_
            exact r_lret k144_106 rfl (K4 z34 z41 z49 z63 hT)
          · exact absurd z41 z91
        · refine r_aload k144_58 rfl ?_
          refine wp_L (L := [some (.ref 33), some (.int (g)), some (.int (x)), some (.int (y)), some (.int (nI (k))), none]) ⟨Or.inr rfl, Or.inr rfl, Or.inr rfl, Or.inr rfl, Or.inr rfl, Or.inl rfl, True.intro⟩ ?_
          exact K6 z34 z41 z49 hT
      · refine j_call (ml := 1) k144_45 rfl (show 0 < d.1 by omega) (show 19 + 1 ≤ d.2 by omega) ⟨Nat.le_of_ble_eq_true rfl, Nat.le_of_ble_eq_true rfl, am_obB hB rfl, Nat.le_of_ble_eq_true rfl⟩ rfl (rest := []) rfl (s_inn1 hB hT f z63 (hpf z63)) (fun r h1 hq => ?_)
        obtain ⟨rfl, rfl⟩ := hq
        show am_wp _ _ _ [some (.ref 33), some (.int (g)), some (.int (x)), some (.int (y)), some (.int (nI (k))), none] [.ref f] _ _
        refine r_astore (L' := [some (.ref 33), some (.int (g)), some (.int (x)), some (.int (y)), some (.int (nI (k))), some (.ref f)]) k144_48 (Nat.le_of_ble_eq_true rfl) rfl ?_
        refine r_aload k144_50 rfl ?_
        refine j_get (j := 13) (v := (J 33 13)) k144_51 hB rfl rfl ?_
        refine r_pushn (v := (-1)) k144_54 rfl ?_
        refine r_icmpeq k144_55 (fun z49 => ?_) (fun z49 => ?_)
        · refine r_aload k144_65 rfl ?_
          refine r_ifnull k144_67 ?_
          refine r_aload k144_70 rfl ?_
          refine r_aload k144_71 rfl ?_
          refine wp_L (L := [some (.ref 33), some (.int (g)), some (.int (x)), some (.int (y)), some (.int (nI (k))), none]) ⟨Or.inr rfl, Or.inr rfl, Or.inr rfl, Or.inr rfl, Or.inr rfl, Or.inl rfl, True.intro⟩ ?_
          exact K5 z34 z41 z49 z63 hT
        · refine r_aload k144_58 rfl ?_
          refine wp_L (L := [some (.ref 33), some (.int (g)), some (.int (x)), some (.int (y)), some (.int (nI (k))), none]) ⟨Or.inr rfl, Or.inr rfl, Or.inr rfl, Or.inr rfl, Or.inr rfl, Or.inl rfl, True.intro⟩ ?_
          exact K6 z34 z41 z49 hT
set_option maxRecDepth 20000 in
theorem l_M_tur0 {d : am_D} {h : am_H} {J : Nat → Nat → Int32} {Q : Option Value → am_H → Prop} (hB : am_B h) (hT : am_ty2 J) (k : Nat) (g : Int32) (x : Int32) (y : Int32) (hk : k ≤ 1000000) (hd : 6 ≤ d.1) (hw : 145 ≤ d.2) (K1 : (1000000 ≤ k) → ((J 33 11) = 0) → am_ty2 (J) → Q (some (.long ((J 33 12).toInt64))) (am_si h J)) (K2 : (1000000 ≤ k) → ¬ ((J 33 11) = 0) → am_ty2 (J) → Q (some (.long ((Int64.ofInt 1099511627776) + ((J 33 11).toInt64)))) (am_si h J)) (K3 : ¬ (1000000 ≤ k) → ¬ ((J 33 11) = 0) → am_ty2 (J) → Q (some (.long ((Int64.ofInt 1099511627776) + ((J 33 11).toInt64)))) (am_si h J)) (K4 : ¬ (1000000 ≤ k) → ((J 33 11) = 0) → ((J 33 13) = ((-1))) → ((jn J 33 9) = 0) → am_ty2 (J) → Q (some (.long ((J 33 12).toInt64))) (am_si h J)) (K5 : ¬ (1000000 ≤ k) → ((J 33 11) = 0) → ((J 33 13) = ((-1))) → ¬ ((jn J 33 9) = 0) → am_ty2 (J) → False) (K6 : ¬ (1000000 ≤ k) → ((J 33 11) = 0) → ¬ ((J 33 13) = ((-1))) → am_ty2 (J) → am_wp d 144 59 [some (.ref 33), some (.int (g)), some (.int (x)), some (.int (y)), some (.int (nI (k))), none] [.ref 33] (am_si h J) Q) : am_wp d 144 30 [some (.ref 33), some (.int (g)), some (.int (x)), some (.int (y)), some (.int (nI (k))), none] [] (am_si h J) Q := by
  refine r_iload k144_30 rfl ?_
  refine r_pushn (v := nI 1000000) k144_32 rfl ?_
  refine r_icmpgeN (by omega) (by omega) k144_34 (fun z34 => ?_) (fun z34 => ?_)
  · refine r_aload k144_82 rfl ?_
    refine j_get (j := 11) (v := (J 33 11)) k144_83 hB rfl rfl ?_
    refine r_ifeq k144_86 (fun z91 => ?_) (fun z91 => ?_)
    · refine r_aload k144_101 rfl ?_
      refine j_get (j := 12) (v := (J 33 12)) k144_102 hB rfl rfl ?_
      refine r_i2l k144_105 ?_
      exact r_lret k144_106 rfl (K1 z34 z91 hT)
    · refine r_pushl k144_89 ?_
      refine r_aload k144_92 rfl ?_
      refine j_get (j := 11) (v := (J 33 11)) k144_93 hB rfl rfl ?_
      refine r_i2l k144_96 ?_
      refine r_ladd k144_97 ?_
      refine r_goto k144_98 ?_
      exact r_lret k144_106 rfl (K2 z34 z91 hT)
  · refine r_aload k144_37 rfl ?_
    refine j_get (j := 11) (v := (J 33 11)) k144_38 hB rfl rfl ?_
    refine r_ifne k144_41 (fun z41 => ?_) (fun z41 => ?_)
    · refine r_aload k144_82 rfl ?_
      refine j_get (j := 11) (v := (J 33 11)) k144_83 hB rfl rfl ?_
      refine r_ifeq k144_86 (fun z91 => ?_) (fun z91 => ?_)
      · exact absurd z91 z41
      · refine r_pushl k144_89 ?_
        refine r_aload k144_92 rfl ?_
        refine j_get (j := 11) (v := (J 33 11)) k144_93 hB rfl rfl ?_
        refine r_i2l k144_96 ?_
        refine r_ladd k144_97 ?_
        refine r_goto k144_98 ?_
        exact r_lret k144_106 rfl (K3 z34 z41 hT)
    · refine r_aload k144_44 rfl ?_
      by_cases z63 : jn J 33 9 = 0
      · refine j_call (ml := 1) k144_45 rfl (show 0 < d.1 by omega) (show 19 + 1 ≤ d.2 by omega) ⟨Nat.le_of_ble_eq_true rfl, Nat.le_of_ble_eq_true rfl, am_obB hB rfl, Nat.le_of_ble_eq_true rfl⟩ rfl (rest := []) rfl (s_inn0 hB hT z63) (fun r h1 hq => ?_)
        obtain ⟨rfl, rfl⟩ := hq
        show am_wp _ _ _ [some (.ref 33), some (.int (g)), some (.int (x)), some (.int (y)), some (.int (nI (k))), none] [.null] _ _
        refine r_astoreN (L' := [some (.ref 33), some (.int (g)), some (.int (x)), some (.int (y)), some (.int (nI (k))), some .null]) k144_48 (Nat.le_of_ble_eq_true rfl) rfl ?_
        refine r_aload k144_50 rfl ?_
        refine j_get (j := 13) (v := (J 33 13)) k144_51 hB rfl rfl ?_
        refine r_pushn (v := (-1)) k144_54 rfl ?_
        refine r_icmpeq k144_55 (fun z49 => ?_) (fun z49 => ?_)
        · refine r_aloadN k144_65 rfl ?_
          refine r_ifnullN k144_67 ?_
          refine r_aload k144_82 rfl ?_
          refine j_get (j := 11) (v := (J 33 11)) k144_83 hB rfl rfl ?_
          refine r_ifeq k144_86 (fun z91 => ?_) (fun z91 => ?_)
          · refine r_aload k144_101 rfl ?_
            refine j_get (j := 12) (v := (J 33 12)) k144_102 hB rfl rfl ?_
            refine r_i2l k144_105 ?_
            exact r_lret k144_106 rfl (K4 z34 z41 z49 z63 hT)
          · exact absurd z41 z91
        · refine r_aload k144_58 rfl ?_
          refine wp_L (L := [some (.ref 33), some (.int (g)), some (.int (x)), some (.int (y)), some (.int (nI (k))), none]) ⟨Or.inr rfl, Or.inr rfl, Or.inr rfl, Or.inr rfl, Or.inr rfl, Or.inl rfl, True.intro⟩ ?_
          exact K6 z34 z41 z49 hT
      · refine j_call (ml := 1) k144_45 rfl (show 0 < d.1 by omega) (show 19 + 1 ≤ d.2 by omega) ⟨Nat.le_of_ble_eq_true rfl, Nat.le_of_ble_eq_true rfl, am_obB hB rfl, Nat.le_of_ble_eq_true rfl⟩ rfl (rest := []) rfl (s_innA hB hT) (fun r h1 hq => ?_)
        obtain ⟨⟨f, rfl⟩ | rfl, rfl⟩ := hq
        · show am_wp _ _ _ [some (.ref 33), some (.int (g)), some (.int (x)), some (.int (y)), some (.int (nI (k))), none] [.ref f] _ _
          refine r_astore (L' := [some (.ref 33), some (.int (g)), some (.int (x)), some (.int (y)), some (.int (nI (k))), some (.ref f)]) k144_48 (Nat.le_of_ble_eq_true rfl) rfl ?_
          refine r_aload k144_50 rfl ?_
          refine j_get (j := 13) (v := (J 33 13)) k144_51 hB rfl rfl ?_
          refine r_pushn (v := (-1)) k144_54 rfl ?_
          refine r_icmpeq k144_55 (fun z49 => ?_) (fun z49 => ?_)
          · exact (K5 z34 z41 z49 z63 hT).elim
          · refine r_aload k144_58 rfl ?_
            refine wp_L (L := [some (.ref 33), some (.int (g)), some (.int (x)), some (.int (y)), some (.int (nI (k))), none]) ⟨Or.inr rfl, Or.inr rfl, Or.inr rfl, Or.inr rfl, Or.inr rfl, Or.inl rfl, True.intro⟩ ?_
            exact K6 z34 z41 z49 hT
        · show am_wp _ _ _ [some (.ref 33), some (.int (g)), some (.int (x)), some (.int (y)), some (.int (nI (k))), none] [.null] _ _
          refine r_astoreN (L' := [some (.ref 33), some (.int (g)), some (.int (x)), some (.int (y)), some (.int (nI (k))), some .null]) k144_48 (Nat.le_of_ble_eq_true rfl) rfl ?_
          refine r_aload k144_50 rfl ?_
          refine j_get (j := 13) (v := (J 33 13)) k144_51 hB rfl rfl ?_
          refine r_pushn (v := (-1)) k144_54 rfl ?_
          refine r_icmpeq k144_55 (fun z49 => ?_) (fun z49 => ?_)
          · exact (K5 z34 z41 z49 z63 hT).elim
          · refine r_aload k144_58 rfl ?_
            refine wp_L (L := [some (.ref 33), some (.int (g)), some (.int (x)), some (.int (y)), some (.int (nI (k))), none]) ⟨Or.inr rfl, Or.inr rfl, Or.inr rfl, Or.inr rfl, Or.inr rfl, Or.inl rfl, True.intro⟩ ?_
            exact K6 z34 z41 z49 hT
set_option maxRecDepth 20000 in
theorem l_M_run0 {d : am_D} {h : am_H} {J : Nat → Nat → Int32} {Q : Option Value → am_H → Prop} (hB : am_B h) (hT : am_ty2 J) (g : Int32) (x : Nat) (y : Int32) (hx : x < 12) (hd : 6 ≤ d.1) (hw : 145 ≤ d.2) (K1 : am_ty2 (M_want (am_u2 (am_u2 (am_u2 (am_u2 J 33 8 (nI 0)) 33 9 (nI 0)) 33 10 (nI 0)) 33 11 (nI 0)) g x y) → am_wp d 144 30 [some (.ref 33), some (.int (g)), some (.int (nI (x))), some (.int (y)), some (.int (nI 0)), none] [] (am_si h (M_want (am_u2 (am_u2 (am_u2 (am_u2 J 33 8 (nI 0)) 33 9 (nI 0)) 33 10 (nI 0)) 33 11 (nI 0)) g x y)) Q) : am_wp d 144 0 [some (.ref 33), some (.int (g)), some (.int (nI (x))), some (.int (y)), none, none] [] (am_si h J) Q := by
  refine r_aload k144_0 rfl ?_
  refine r_pushn (v := nI 0) k144_1 rfl ?_
  refine j_put (j := 8) k144_2 hB rfl rfl ?_
  have hT2 : am_ty2 (am_u2 J 33 8 (nI 0)) := ty_w hT (tw_f (B := 13) (by decide) (by decide) (by decide) (by omega))
  refine r_aload k144_5 rfl ?_
  refine r_pushn (v := nI 0) k144_6 rfl ?_
  refine j_put (j := 9) k144_7 hB rfl rfl ?_
  have hT7 : am_ty2 (am_u2 (am_u2 J 33 8 (nI 0)) 33 9 (nI 0)) := ty_w hT2 (tw_f (B := 193) (by decide) (by decide) (by decide) (by omega))
  refine r_aload k144_10 rfl ?_
  refine r_pushn (v := nI 0) k144_11 rfl ?_
  refine j_put (j := 10) k144_12 hB rfl rfl ?_
  have hT12 : am_ty2 (am_u2 (am_u2 (am_u2 J 33 8 (nI 0)) 33 9 (nI 0)) 33 10 (nI 0)) := ty_w hT7 (tw_f (B := 301) (by decide) (by decide) (by decide) (by omega))
  refine r_aload k144_15 rfl ?_
  refine r_pushn (v := nI 0) k144_16 rfl ?_
  refine j_put (j := 11) k144_17 hB rfl rfl ?_
  have hT17 : am_ty2 (am_u2 (am_u2 (am_u2 (am_u2 J 33 8 (nI 0)) 33 9 (nI 0)) 33 10 (nI 0)) 33 11 (nI 0)) := ty_w hT12 (tw_u (by decide) (by decide) (by decide))
  refine r_aload k144_20 rfl ?_
  refine r_iload k144_21 rfl ?_
  refine r_iload k144_22 rfl ?_
  refine r_iload k144_23 rfl ?_
  refine j_call (ml := 4) k144_24 rfl (show 0 < d.1 by omega) (show 19 + 4 ≤ d.2 by omega) ⟨Nat.le_of_ble_eq_true rfl, Nat.le_of_ble_eq_true rfl, am_obB hB rfl, Nat.le_of_ble_eq_true rfl⟩ rfl (rest := []) rfl (s_M_want hB hT17 g x y (by omega)) (fun r h1 hq => ?_)
  obtain ⟨rfl, rfl, hT24⟩ := hq
  show am_wp _ _ _ [some (.ref 33), some (.int (g)), some (.int (nI (x))), some (.int (y)), none, none] [] _ _
  refine r_pushn (v := nI 0) k144_27 rfl ?_
  refine r_istore (L' := [some (.ref 33), some (.int (g)), some (.int (nI (x))), some (.int (y)), some (.int (nI 0)), none]) k144_28 (Nat.le_of_ble_eq_true rfl) rfl ?_
  exact K1 hT24
set_option maxRecDepth 20000 in
theorem l_M_bw {d : am_D} {h : am_H} {J : Nat → Nat → Int32} {Q : Option Value → am_H → Prop} (hB : am_B h) (hT : am_ty2 J) (g : Nat) (hwt : J 33 13 = nI g) (hg : g < 5) (hd : 5 ≤ d.1) (hw : 123 ≤ d.2) (K1 : ¬ ((jn J 16 g) = 0) → ¬ ((jn J 33 8) = 12) → am_ty2 (am_u2 J 33 13 ((-1))) → am_wp d 147 44 [some (.ref 33), some (.int (nI (g))), none] [] (am_si h (am_u2 J 33 13 ((-1)))) Q) (K2 : ¬ ((jn J 16 g) = 0) → ((jn J 33 8) = 12) → am_ty2 (am_u2 (am_u2 J 33 13 ((-1))) 33 11 ((-11))) → Q none (am_si h (am_u2 (am_u2 J 33 13 ((-1))) 33 11 ((-11))))) (K3 : ((jn J 16 g) = 0) → am_ty2 (am_u2 (am_u2 J 33 13 ((-1))) 33 11 ((-2))) → Q none (am_si h (am_u2 (am_u2 J 33 13 ((-1))) 33 11 ((-2))))) : am_wp d 147 0 [some (.ref 33), none, none] [] (am_si h J) Q := by
  refine r_aload k147_0 rfl ?_
  refine j_get (j := 13) (v := (nI g)) k147_1 hB rfl (hwt) ?_
  refine r_istore (L' := [some (.ref 33), some (.int (nI (g))), none]) k147_4 (Nat.le_of_ble_eq_true rfl) rfl ?_
  refine r_aload k147_5 rfl ?_
  refine r_pushn (v := (-1)) k147_6 rfl ?_
  refine j_put (j := 13) k147_7 hB rfl rfl ?_
  have hT7 : am_ty2 (am_u2 J 33 13 ((-1))) := ty_w hT (tw_u (by decide) (by decide) (by decide))
  refine r_aload k147_10 rfl ?_
  refine j_ref (b := 15) k147_11 hB rfl ?_
  refine r_iload k147_14 rfl ?_
  refine j_call (ml := 2) k147_15 rfl (show 0 < d.1 by omega) (show 19 + 2 ≤ d.2 by omega) ⟨Nat.le_of_ble_eq_true rfl, Nat.le_of_ble_eq_true rfl, am_obB hB rfl, Nat.le_of_ble_eq_true rfl⟩ rfl (rest := []) rfl (s_M_par hB hT7 g (by omega)) (fun r h1 hq => ?_)
  obtain ⟨rfl, rfl⟩ := hq
  show am_wp _ _ _ [some (.ref 33), some (.int (nI (g))), none] [.int (M_par (am_u2 J 33 13 ((-1))) g)] _ _
  rw [show M_par (am_u2 J 33 13 ((-1))) g = nI (jn J 16 g) from congrArg nI (jn_cg (fr_u (by omega)))]
  have b15 := ty_n hT (q := 16) (B := 3) (by decide) (by decide) g
  refine r_ifneN (by omega) k147_18 (fun z18 => ?_) (fun z18 => ?_)
  · refine r_aload k147_28 rfl ?_
    have b29 := ty_f hT (q := 33) (j := 8) (B := 13) (by decide) (by decide)
    refine j_get (j := 8) (v := (nI (jn J 33 8))) k147_29 hB rfl ((u2_ne (by decide)).trans (b29.1)) ?_
    refine r_pushn (v := nI 12) k147_32 rfl ?_
    refine r_icmpneN (by omega) (by omega) k147_34 (fun z34 => ?_) (fun z34 => ?_)
    · exact K1 z18 z34 hT7
    · refine r_aload k147_37 rfl ?_
      refine r_pushn (v := (-11)) k147_38 rfl ?_
      refine j_put (j := 11) k147_40 hB rfl rfl ?_
      have hT40 : am_ty2 (am_u2 (am_u2 J 33 13 ((-1))) 33 11 ((-11))) := ty_w hT7 (tw_u (by decide) (by decide) (by decide))
      exact r_vret k147_43 rfl (K2 z18 z34 hT40)
  · refine r_aload k147_21 rfl ?_
    refine r_pushn (v := (-2)) k147_22 rfl ?_
    refine j_put (j := 11) k147_24 hB rfl rfl ?_
    have hT24 : am_ty2 (am_u2 (am_u2 J 33 13 ((-1))) 33 11 ((-2))) := ty_w hT7 (tw_u (by decide) (by decide) (by decide))
    exact r_vret k147_27 rfl (K3 z18 hT24)
set_option maxRecDepth 20000 in
theorem l_M_b1 {d : am_D} {h : am_H} {J : Nat → Nat → Int32} {Q : Option Value → am_H → Prop} (hB : am_B h) (hT : am_ty2 J) (g : Nat) (w : Nat) (sp : Nat) (hg : g < 5) (hw9 : am_ob h w 8) (hps : am_P h w 0 = some sp) (hpk : am_P h 34 (jn J 33 8) = some w) (h8 : jn J 33 8 < 12) (hd : 5 ≤ d.1) (hw : 123 ≤ d.2) (K1 : am_ty2 (J) → am_wp d 147 100 [some (.ref 33), some (.int (nI (g))), some (.ref w)] [.ref sp, .int (J 33 15), .int (nI (jn J 33 14)), .int (nI (g)), .ref 22, .ref w] (am_si h J) Q) : am_wp d 147 44 [some (.ref 33), some (.int (nI (g))), none] [] (am_si h J) Q := by
  refine r_aload k147_44 rfl ?_
  refine j_ref (b := 34) k147_45 hB rfl ?_
  refine r_aload k147_48 rfl ?_
  have b49 := ty_f hT (q := 33) (j := 8) (B := 13) (by decide) (by decide)
  refine j_get (j := 8) (v := (nI (jn J 33 8))) k147_49 hB rfl (b49.1) ?_
  refine v_aal (n := 12) (j := (jn J 33 8)) (b := w) k147_52 hB rfl rfl (by omega) hpk ?_
  refine r_ifnonnull k147_53 ?_
  refine r_aload k147_72 rfl ?_
  refine j_ref (b := 34) k147_73 hB rfl ?_
  refine r_aload k147_76 rfl ?_
  have b77 := ty_f hT (q := 33) (j := 8) (B := 13) (by decide) (by decide)
  refine j_get (j := 8) (v := (nI (jn J 33 8))) k147_77 hB rfl (b77.1) ?_
  refine v_aal (n := 12) (j := (jn J 33 8)) (b := w) k147_80 hB rfl rfl (by omega) hpk ?_
  refine r_astore (L' := [some (.ref 33), some (.int (nI (g))), some (.ref w)]) k147_81 (Nat.le_of_ble_eq_true rfl) rfl ?_
  refine r_aload k147_82 rfl ?_
  refine r_aload k147_83 rfl ?_
  refine j_ref (b := 22) k147_84 hB rfl ?_
  refine r_iload k147_87 rfl ?_
  refine r_aload k147_88 rfl ?_
  have b89 := ty_f hT (q := 33) (j := 14) (B := 12) (by decide) (by decide)
  refine j_get (j := 14) (v := (nI (jn J 33 14))) k147_89 hB rfl (b89.1) ?_
  refine r_aload k147_92 rfl ?_
  refine j_get (j := 15) (v := (J 33 15)) k147_93 hB rfl rfl ?_
  refine r_aload k147_96 rfl ?_
  refine v_ref (b := sp) k147_97 hw9 rfl hps ?_
  exact K1 hT
set_option maxRecDepth 20000 in
theorem l_M_b2 {d : am_D} {h : am_H} {J : Nat → Nat → Int32} {Q : Option Value → am_H → Prop} (hB : am_B h) (hT : am_ty2 J) (g : Nat) (w : Nat) (e : Nat) (hg : g < 5) (hw9 : am_ob h w 8) (h77 : 74 ≤ w) (he : am_ob h e 9) (h74 : 74 ≤ e) (n6 : ¬ w = e) (hE : ∀ j, 1 ≤ j → j ≤ 4 → J e j = nI (jn J e j) ∧ jn J e j ≤ 16) (h8 : jn J 33 8 < 12) (hd : 5 ≤ d.1) (hw : 123 ≤ d.2) (K1 : ¬ ((jn J e 1) = 0) → (E_has J e) → am_ty2 (am_u2 (am_u2 (am_u2 (am_u2 (am_u2 J 33 8 (nI ((jn J 33 8) + 1))) w 2 (nI (jn J 16 g))) w 3 (nI (jn J 33 14))) w 4 (J 33 15)) w 5 (nI (jn J 33 9))) → am_wp d 147 195 [some (.ref 33), some (.int (nI (g))), some (.ref w)] [.int (E_first J e), .ref w, .ref 33] (am_si (am_wP h w 1 (some e)) (am_u2 (am_u2 (am_u2 (am_u2 (am_u2 J 33 8 (nI ((jn J 33 8) + 1))) w 2 (nI (jn J 16 g))) w 3 (nI (jn J 33 14))) w 4 (J 33 15)) w 5 (nI (jn J 33 9)))) Q) (K2 : ¬ ((jn J e 1) = 0) → ¬ (E_has J e) → am_ty2 (am_u2 J 33 11 ((-9))) → Q none (am_si (am_wP h w 1 (some e)) (am_u2 J 33 11 ((-9))))) (K3 : ((jn J e 1) = 0) → am_ty2 (am_u2 J 33 11 ((-8))) → Q none (am_si (am_wP h w 1 (some e)) (am_u2 J 33 11 ((-8))))) : am_wp d 147 103 [some (.ref 33), some (.int (nI (g))), some (.ref w)] [.ref e, .ref w] (am_si h J) Q := by
  refine v_putR (j := 1) (b := e) k147_103 hw9 rfl ?_
  have hB : am_B (am_wP h w 1 (some e)) := B_wP hB (by omega)
  have hw9 : am_ob (am_wP h w 1 (some e)) w 8 := hw9
  have he : am_ob (am_wP h w 1 (some e)) e 9 := he
  have hpn103 : am_P (am_wP h w 1 (some e)) w 1 = some e := wP_s
  refine r_aload k147_106 rfl ?_
  refine v_ref (b := e) k147_107 hw9 rfl hpn103 ?_
  have b110 := hE 1 (by decide) (by decide)
  refine v_get (j := 1) (v := (nI (jn J e 1))) k147_110 he rfl (b110.1) ?_
  refine r_ifneN (by omega) k147_113 (fun z113 => ?_) (fun z113 => ?_)
  · refine r_aload k147_123 rfl ?_
    refine v_ref (b := e) k147_124 hw9 rfl hpn103 ?_
    have E127 := hE
    refine j_call (ml := 1) k147_127 rfl (show 0 < d.1 by omega) (show 19 + 1 ≤ d.2 by omega) ⟨Nat.le_of_ble_eq_true rfl, Nat.le_of_ble_eq_true rfl, he, Nat.le_of_ble_eq_true rfl⟩ rfl (rest := []) rfl (s_E_has hB hT e (he) (E127 1 (by decide) (by decide)) (E127 2 (by decide) (by decide)) (E127 3 (by decide) (by decide)) (E127 4 (by decide) (by decide))) (fun r h1 hq => ?_)
    obtain ⟨rfl, rfl⟩ := hq
    show am_wp _ _ _ [some (.ref 33), some (.int (nI (g))), some (.ref w)] [.int (am_b (E_has J e))] _ _
    refine r_ifneB k147_130 (fun z130 => ?_) (fun z130 => ?_)
    · refine r_aload k147_140 rfl ?_
      refine r_dup rfl k147_141 ?_
      have b142 := ty_f hT (q := 33) (j := 8) (B := 13) (by decide) (by decide)
      refine j_get (j := 8) (v := (nI (jn J 33 8))) k147_142 hB rfl (b142.1) ?_
      refine r_pushn (v := nI 1) k147_145 rfl ?_
      refine r_iaddN k147_146 ?_
      refine j_put (j := 8) k147_147 hB rfl rfl ?_
      have hT147 : am_ty2 (am_u2 J 33 8 (nI ((jn J 33 8) + 1))) := ty_w hT (tw_f (B := 13) (by decide) (by decide) (by decide) (by omega))
      refine r_aload k147_150 rfl ?_
      refine r_aload k147_151 rfl ?_
      refine j_ref (b := 15) k147_152 hB rfl ?_
      refine r_iload k147_155 rfl ?_
      refine j_call (ml := 2) k147_156 rfl (show 0 < d.1 by omega) (show 19 + 2 ≤ d.2 by omega) ⟨Nat.le_of_ble_eq_true rfl, Nat.le_of_ble_eq_true rfl, am_obB hB rfl, Nat.le_of_ble_eq_true rfl⟩ rfl (rest := [.ref w]) rfl (s_M_par hB hT147 g (by omega)) (fun r h1 hq => ?_)
      obtain ⟨rfl, rfl⟩ := hq
      show am_wp _ _ _ [some (.ref 33), some (.int (nI (g))), some (.ref w)] [.int (M_par (am_u2 J 33 8 (nI ((jn J 33 8) + 1))) g), .ref w] _ _
      rw [show M_par (am_u2 J 33 8 (nI ((jn J 33 8) + 1))) g = nI (jn J 16 g) from congrArg nI (jn_cg (fr_u (by omega)))]
      have b156 := ty_n hT (q := 16) (B := 3) (by decide) (by decide) g
      refine v_put (j := 2) k147_159 hw9 rfl rfl ?_
      have hT159 : am_ty2 (am_u2 (am_u2 J 33 8 (nI ((jn J 33 8) + 1))) w 2 (nI (jn J 16 g))) := ty_w hT147 (tw_v (by omega))
      refine r_aload k147_162 rfl ?_
      refine r_aload k147_163 rfl ?_
      have b164 := ty_f hT (q := 33) (j := 14) (B := 12) (by decide) (by decide)
      refine j_get (j := 14) (v := (nI (jn J 33 14))) k147_164 hB rfl ((congrFun (fr_u (by omega)) _).trans ((u2_ne (by decide)).trans (b164.1))) ?_
      refine v_put (j := 3) k147_167 hw9 rfl rfl ?_
      have hT167 : am_ty2 (am_u2 (am_u2 (am_u2 J 33 8 (nI ((jn J 33 8) + 1))) w 2 (nI (jn J 16 g))) w 3 (nI (jn J 33 14))) := ty_w hT159 (tw_v (by omega))
      refine r_aload k147_170 rfl ?_
      refine r_aload k147_171 rfl ?_
      refine j_get (j := 15) (v := (J 33 15)) k147_172 hB rfl ((congrFun (fr_u (by omega)) _).trans ((congrFun (fr_u (by omega)) _).trans (u2_ne (by decide)))) ?_
      refine v_put (j := 4) k147_175 hw9 rfl rfl ?_
      have hT175 : am_ty2 (am_u2 (am_u2 (am_u2 (am_u2 J 33 8 (nI ((jn J 33 8) + 1))) w 2 (nI (jn J 16 g))) w 3 (nI (jn J 33 14))) w 4 (J 33 15)) := ty_w hT167 (tw_v (by omega))
      refine r_aload k147_178 rfl ?_
      refine r_aload k147_179 rfl ?_
      have b180 := ty_f hT (q := 33) (j := 9) (B := 193) (by decide) (by decide)
      refine j_get (j := 9) (v := (nI (jn J 33 9))) k147_180 hB rfl ((congrFun (fr_u (by omega)) _).trans ((congrFun (fr_u (by omega)) _).trans ((congrFun (fr_u (by omega)) _).trans ((u2_ne (by decide)).trans (b180.1))))) ?_
      refine v_put (j := 5) k147_183 hw9 rfl rfl ?_
      have hT183 : am_ty2 (am_u2 (am_u2 (am_u2 (am_u2 (am_u2 J 33 8 (nI ((jn J 33 8) + 1))) w 2 (nI (jn J 16 g))) w 3 (nI (jn J 33 14))) w 4 (J 33 15)) w 5 (nI (jn J 33 9))) := ty_w hT175 (tw_v (by omega))
      refine r_aload k147_186 rfl ?_
      refine r_aload k147_187 rfl ?_
      refine r_aload k147_188 rfl ?_
      refine v_ref (b := e) k147_189 hw9 rfl hpn103 ?_
      have E192 : ∀ j, 1 ≤ j → j ≤ 4 → (am_u2 (am_u2 (am_u2 (am_u2 (am_u2 J 33 8 (nI ((jn J 33 8) + 1))) w 2 (nI (jn J 16 g))) w 3 (nI (jn J 33 14))) w 4 (J 33 15)) w 5 (nI (jn J 33 9))) e j = nI (jn (am_u2 (am_u2 (am_u2 (am_u2 (am_u2 J 33 8 (nI ((jn J 33 8) + 1))) w 2 (nI (jn J 16 g))) w 3 (nI (jn J 33 14))) w 4 (J 33 15)) w 5 (nI (jn J 33 9))) e j) ∧ jn (am_u2 (am_u2 (am_u2 (am_u2 (am_u2 J 33 8 (nI ((jn J 33 8) + 1))) w 2 (nI (jn J 16 g))) w 3 (nI (jn J 33 14))) w 4 (J 33 15)) w 5 (nI (jn J 33 9))) e j ≤ 16 := fun j h1 h2 => by rw [jn_cg ((fr_u (by omega)).trans ((fr_u (by omega)).trans ((fr_u (by omega)).trans ((fr_u (by omega)).trans (fr_u (by omega)))))), ((fr_u (by omega)).trans ((fr_u (by omega)).trans ((fr_u (by omega)).trans ((fr_u (by omega)).trans (fr_u (by omega))))))]; exact hE j h1 h2
      refine j_call (ml := 1) k147_192 rfl (show 0 < d.1 by omega) (show 19 + 1 ≤ d.2 by omega) ⟨Nat.le_of_ble_eq_true rfl, Nat.le_of_ble_eq_true rfl, he, Nat.le_of_ble_eq_true rfl⟩ rfl (rest := [.ref w, .ref 33]) rfl (s_E_first hB hT183 e (he) (E192 1 (by decide) (by decide)) (E192 2 (by decide) (by decide)) (E192 3 (by decide) (by decide)) (E192 4 (by decide) (by decide))) (fun r h1 hq => ?_)
      obtain ⟨rfl, rfl⟩ := hq
      show am_wp _ _ _ [some (.ref 33), some (.int (nI (g))), some (.ref w)] [.int (E_first (am_u2 (am_u2 (am_u2 (am_u2 (am_u2 J 33 8 (nI ((jn J 33 8) + 1))) w 2 (nI (jn J 16 g))) w 3 (nI (jn J 33 14))) w 4 (J 33 15)) w 5 (nI (jn J 33 9))) e), .ref w, .ref 33] _ _
      rw [show E_first (am_u2 (am_u2 (am_u2 (am_u2 (am_u2 J 33 8 (nI ((jn J 33 8) + 1))) w 2 (nI (jn J 16 g))) w 3 (nI (jn J 33 14))) w 4 (J 33 15)) w 5 (nI (jn J 33 9))) e = E_first J e from E_first_cg ((fr_u (by omega)).trans ((fr_u (by omega)).trans ((fr_u (by omega)).trans ((fr_u (by omega)).trans (fr_u (by omega))))))]
      exact K1 z113 z130 hT183
    · refine r_aload k147_133 rfl ?_
      refine r_pushn (v := (-9)) k147_134 rfl ?_
      refine j_put (j := 11) k147_136 hB rfl rfl ?_
      have hT136 : am_ty2 (am_u2 J 33 11 ((-9))) := ty_w hT (tw_u (by decide) (by decide) (by decide))
      exact r_vret k147_139 rfl (K2 z113 z130 hT136)
  · refine r_aload k147_116 rfl ?_
    refine r_pushn (v := (-8)) k147_117 rfl ?_
    refine j_put (j := 11) k147_119 hB rfl rfl ?_
    have hT119 : am_ty2 (am_u2 J 33 11 ((-8))) := ty_w hT (tw_u (by decide) (by decide) (by decide))
    exact r_vret k147_122 rfl (K3 z113 hT119)
set_option maxRecDepth 20000 in
theorem l_K_e0 {d : am_D} {h : am_H} {J : Nat → Nat → Int32} {Q : Option Value → am_H → Prop} (hB : am_B h) (hT : am_ty2 J) (g : Nat) (x : Nat) (y : Int32) (sp : Nat) (hg : g < 5) (hx : x < 12) (hy : ∀ i, i < 16 → M_isOf J i g → ¬ J 20 i = -1 → y = nI (jx y) ∧ jx y < 12) (hd : 4 ≤ d.1) (hw : 96 ≤ d.2) (K1 : ¬ (K_forI J g x y) → am_ty2 (J) → am_wp d 134 22 [some (.ref 22), some (.int (nI (g))), some (.int (nI (x))), some (.int (y)), some (.ref sp), none, none, none] [] (am_si h J) Q) (K2 : (K_forI J g x y) → am_ty2 (J) → am_wp d 134 10 [some (.ref 22), some (.int (nI (g))), some (.int (nI (x))), some (.int (y)), some (.ref sp), none, none, none] [] (am_si h J) Q) : am_wp d 134 0 [some (.ref 22), some (.int (nI (g))), some (.int (nI (x))), some (.int (y)), some (.ref sp), none, none, none] [] (am_si h J) Q := by
  refine r_aload k134_0 rfl ?_
  refine r_iload k134_1 rfl ?_
  refine r_iload k134_2 rfl ?_
  refine r_iload k134_3 rfl ?_
  refine j_call (ml := 5) k134_4 rfl (show 0 < d.1 by omega) (show 19 + 5 ≤ d.2 by omega) ⟨Nat.le_of_ble_eq_true rfl, Nat.le_of_ble_eq_true rfl, am_obB hB rfl, Nat.le_of_ble_eq_true rfl⟩ rfl (rest := []) rfl (s_K_forI hB hT g x y (by omega) (by omega) (hy) (show 3 ≤ d.1 - 1 by omega) (show 71 ≤ d.2 - 24 by omega)) (fun r h1 hq => ?_)
  obtain ⟨rfl, rfl⟩ := hq
  show am_wp _ _ _ [some (.ref 22), some (.int (nI (g))), some (.int (nI (x))), some (.int (y)), some (.ref sp), none, none, none] [.int (am_b (K_forI J g x y))] _ _
  refine r_ifeqB k134_7 (fun z7 => ?_) (fun z7 => ?_)
  · exact K1 z7 hT
  · exact K2 z7 hT
set_option maxRecDepth 20000 in
theorem l_K_e1 {d : am_D} {h : am_H} {J : Nat → Nat → Int32} {Q : Option Value → am_H → Prop} (hB : am_B h) (hT : am_ty2 J) (g : Nat) (x : Nat) (y : Int32) (e : Nat) (u : Nat) (he : am_ob h e 9) (hp0 : am_P h e 0 = some u) (hr : am_ay h u 1) (hrl : (am_sh h u).2.2 = 16) (h74 : 74 ≤ e) (h75 : 74 ≤ u) (hne : ¬ e = u) (hE : ef_ok J e u) (hg : g < 5) (hx : x < 12) (hy : ∀ i, i < 16 → M_isOf J i g → ¬ J 20 i = -1 → y = nI (jx y) ∧ jx y < 12) (hd : 4 ≤ d.1) (hw : 96 ≤ d.2) (K1 : am_ty2 (K_find J g x y e u) → Q (some (.ref e)) (am_si h (K_find J g x y e u))) : am_wp d 134 10 [some (.ref 22), some (.int (nI (g))), some (.int (nI (x))), some (.int (y)), some (.ref e), none, none, none] [] (am_si h J) Q := by
  refine r_aload k134_10 rfl ?_
  refine r_iload k134_11 rfl ?_
  refine r_iload k134_12 rfl ?_
  refine r_iload k134_13 rfl ?_
  refine r_aload k134_14 rfl ?_
  refine j_call (ml := 6) k134_16 rfl (show 0 < d.1 by omega) (show 19 + 6 ≤ d.2 by omega) ⟨Nat.le_of_ble_eq_true rfl, Nat.le_of_ble_eq_true rfl, am_obB hB rfl, Nat.le_of_ble_eq_true rfl⟩ rfl (rest := []) rfl (s_K_find hB hT g x y e u (he) (hp0) (hr) (hrl) (h74) (h75) (hne) (hE) (by omega) (by omega) (hy) (show 3 ≤ d.1 - 1 by omega) (show 71 ≤ d.2 - 25 by omega)) (fun r h1 hq => ?_)
  obtain ⟨rfl, rfl, hT16⟩ := hq
  show am_wp _ _ _ [some (.ref 22), some (.int (nI (g))), some (.int (nI (x))), some (.int (y)), some (.ref e), none, none, none] [] _ _
  refine r_aload k134_19 rfl ?_
  exact r_aret k134_21 rfl (K1 hT16)
set_option maxRecDepth 20000 in
theorem l_K_e2 {d : am_D} {h : am_H} {J : Nat → Nat → Int32} {Q : Option Value → am_H → Prop} (hB : am_B h) (hT : am_ty2 J) (g : Nat) (x : Nat) (y : Int32) (sp : Nat) (hg : g < 5) (hx : x < 12) (hy2 : jn J 16 g = 2 → y = nI (jx y) ∧ jx y < 12) (hd : 4 ≤ d.1) (hw : 96 ≤ d.2) (K1 : ¬ ((jn J 16 g) = 2) → am_ty2 (J) → am_wp d 134 69 [some (.ref 22), some (.int (nI (g))), some (.int (nI (x))), some (.int (y)), some (.ref sp), some (.int (nI 0)), some (.int (nI ((((g * 12) + (jn J 11 x)) * 12) + 0))), none] [] (am_si h J) Q) (K2 : ((jn J 16 g) = 2) → am_ty2 (J) → am_wp d 134 69 [some (.ref 22), some (.int (nI (g))), some (.int (nI (x))), some (.int (y)), some (.ref sp), some (.int (nI (jn J 11 (jx y)))), some (.int (nI ((((g * 12) + (jn J 11 x)) * 12) + (jn J 11 (jx y))))), none] [] (am_si h J) Q) : am_wp d 134 22 [some (.ref 22), some (.int (nI (g))), some (.int (nI (x))), some (.int (y)), some (.ref sp), none, none, none] [] (am_si h J) Q := by
  refine r_aload k134_22 rfl ?_
  refine j_ref (b := 15) k134_23 hB rfl ?_
  refine r_iload k134_26 rfl ?_
  refine j_call (ml := 2) k134_27 rfl (show 0 < d.1 by omega) (show 19 + 2 ≤ d.2 by omega) ⟨Nat.le_of_ble_eq_true rfl, Nat.le_of_ble_eq_true rfl, am_obB hB rfl, Nat.le_of_ble_eq_true rfl⟩ rfl (rest := []) rfl (s_M_par hB hT g (by omega)) (fun r h1 hq => ?_)
  obtain ⟨rfl, rfl⟩ := hq
  show am_wp _ _ _ [some (.ref 22), some (.int (nI (g))), some (.int (nI (x))), some (.int (y)), some (.ref sp), none, none, none] [.int (M_par J g)] _ _
  rw [show M_par J g = nI (jn J 16 g) from congrArg nI (jn_cg rfl)]
  have b27 := ty_n hT (q := 16) (B := 3) (by decide) (by decide) g
  refine r_pushn (v := nI 2) k134_30 rfl ?_
  refine r_icmpneN (by omega) (by omega) k134_31 (fun z31 => ?_) (fun z31 => ?_)
  · refine r_pushn (v := nI 0) k134_45 rfl ?_
    refine r_istore (L' := [some (.ref 22), some (.int (nI (g))), some (.int (nI (x))), some (.int (y)), some (.ref sp), some (.int (nI 0)), none, none]) k134_46 (Nat.le_of_ble_eq_true rfl) rfl ?_
    refine r_iload k134_48 rfl ?_
    refine r_pushn (v := nI 12) k134_49 rfl ?_
    refine r_imulN k134_51 ?_
    refine r_aload k134_52 rfl ?_
    refine j_ref (b := 10) k134_53 hB rfl ?_
    refine r_iload k134_56 rfl ?_
    refine j_call (ml := 2) k134_57 rfl (show 0 < d.1 by omega) (show 19 + 2 ≤ d.2 by omega) ⟨Nat.le_of_ble_eq_true rfl, Nat.le_of_ble_eq_true rfl, am_obB hB rfl, Nat.le_of_ble_eq_true rfl⟩ rfl (rest := [.int (nI (g * 12))]) rfl (s_I_class hB hT x (by omega)) (fun r h1 hq => ?_)
    obtain ⟨rfl, rfl⟩ := hq
    show am_wp _ _ _ [some (.ref 22), some (.int (nI (g))), some (.int (nI (x))), some (.int (y)), some (.ref sp), some (.int (nI 0)), none, none] [.int (I_class J x), .int (nI (g * 12))] _ _
    rw [show I_class J x = nI (jn J 11 x) from congrArg nI (jn_cg rfl)]
    have b57 := ty_n hT (q := 11) (B := 12) (by decide) (by decide) x
    refine r_iaddN k134_60 ?_
    refine r_pushn (v := nI 12) k134_61 rfl ?_
    refine r_imulN k134_63 ?_
    refine r_iload k134_64 rfl ?_
    refine r_iaddN k134_66 ?_
    refine r_istore (L' := [some (.ref 22), some (.int (nI (g))), some (.int (nI (x))), some (.int (y)), some (.ref sp), some (.int (nI 0)), some (.int (nI ((((g * 12) + (jn J 11 x)) * 12) + 0))), none]) k134_67 (Nat.le_of_ble_eq_true rfl) rfl ?_
    exact K1 z31 hT
  · refine r_aload k134_34 rfl ?_
    refine j_ref (b := 10) k134_35 hB rfl ?_
    refine r_iload k134_38 rfl ?_
    have cy := hy2 z31
    rw [show ([.int (y), .ref 10] : List Value) = [.int (nI (jx y)), .ref 10] by rw [← cy.1]]
    refine j_call (ml := 2) k134_39 rfl (show 0 < d.1 by omega) (show 19 + 2 ≤ d.2 by omega) ⟨Nat.le_of_ble_eq_true rfl, Nat.le_of_ble_eq_true rfl, am_obB hB rfl, Nat.le_of_ble_eq_true rfl⟩ rfl (rest := []) rfl (s_I_class hB hT (jx y) (by omega)) (fun r h1 hq => ?_)
    obtain ⟨rfl, rfl⟩ := hq
    show am_wp _ _ _ [some (.ref 22), some (.int (nI (g))), some (.int (nI (x))), some (.int (y)), some (.ref sp), none, none, none] [.int (I_class J (jx y))] _ _
    rw [show I_class J (jx y) = nI (jn J 11 (jx y)) from congrArg nI (jn_cg rfl)]
    have b39 := ty_n hT (q := 11) (B := 12) (by decide) (by decide) (jx y)
    refine r_goto k134_42 ?_
    refine r_istore (L' := [some (.ref 22), some (.int (nI (g))), some (.int (nI (x))), some (.int (y)), some (.ref sp), some (.int (nI (jn J 11 (jx y)))), none, none]) k134_46 (Nat.le_of_ble_eq_true rfl) rfl ?_
    refine r_iload k134_48 rfl ?_
    refine r_pushn (v := nI 12) k134_49 rfl ?_
    refine r_imulN k134_51 ?_
    refine r_aload k134_52 rfl ?_
    refine j_ref (b := 10) k134_53 hB rfl ?_
    refine r_iload k134_56 rfl ?_
    refine j_call (ml := 2) k134_57 rfl (show 0 < d.1 by omega) (show 19 + 2 ≤ d.2 by omega) ⟨Nat.le_of_ble_eq_true rfl, Nat.le_of_ble_eq_true rfl, am_obB hB rfl, Nat.le_of_ble_eq_true rfl⟩ rfl (rest := [.int (nI (g * 12))]) rfl (s_I_class hB hT x (by omega)) (fun r h1 hq => ?_)
    obtain ⟨rfl, rfl⟩ := hq
    show am_wp _ _ _ [some (.ref 22), some (.int (nI (g))), some (.int (nI (x))), some (.int (y)), some (.ref sp), some (.int (nI (jn J 11 (jx y)))), none, none] [.int (I_class J x), .int (nI (g * 12))] _ _
    rw [show I_class J x = nI (jn J 11 x) from congrArg nI (jn_cg rfl)]
    have b57 := ty_n hT (q := 11) (B := 12) (by decide) (by decide) x
    refine r_iaddN k134_60 ?_
    refine r_pushn (v := nI 12) k134_61 rfl ?_
    refine r_imulN k134_63 ?_
    refine r_iload k134_64 rfl ?_
    refine r_iaddN k134_66 ?_
    refine r_istore (L' := [some (.ref 22), some (.int (nI (g))), some (.int (nI (x))), some (.int (y)), some (.ref sp), some (.int (nI (jn J 11 (jx y)))), some (.int (nI ((((g * 12) + (jn J 11 x)) * 12) + (jn J 11 (jx y))))), none]) k134_67 (Nat.le_of_ble_eq_true rfl) rfl ?_
    exact K2 z31 hT
set_option maxRecDepth 20000 in
theorem l_K_e3 {d : am_D} {h : am_H} {J : Nat → Nat → Int32} {Q : Option Value → am_H → Prop} (hB : am_B h) (hT : am_ty2 J) (g : Nat) (x : Nat) (y : Int32) (sp : Nat) (key : Nat) (e : Nat) (sc : Nat) (hg : g < 5) (hk : key < 720) (hpt : am_P h 23 key = some e) (he : am_ob h e 9) (hd : 4 ≤ d.1) (hw : 96 ≤ d.2) (K1 : ¬ ((J e 5) = (J 24 g)) → am_ty2 (J) → am_wp d 134 121 [some (.ref 22), some (.int (nI (g))), some (.int (nI (x))), some (.int (y)), some (.ref sp), some (.int (nI (sc))), some (.int (nI (key))), some (.ref e)] [] (am_si h J) Q) (K2 : ((J e 5) = (J 24 g)) → am_ty2 (J) → Q (some (.ref e)) (am_si h J)) : am_wp d 134 69 [some (.ref 22), some (.int (nI (g))), some (.int (nI (x))), some (.int (y)), some (.ref sp), some (.int (nI (sc))), some (.int (nI (key))), none] [] (am_si h J) Q := by
  refine r_aload k134_69 rfl ?_
  refine j_ref (b := 23) k134_70 hB rfl ?_
  refine r_iload k134_73 rfl ?_
  refine v_aal (n := 720) (j := key) (b := e) k134_75 hB rfl rfl (by omega) hpt ?_
  refine r_astore (L' := [some (.ref 22), some (.int (nI (g))), some (.int (nI (x))), some (.int (y)), some (.ref sp), some (.int (nI (sc))), some (.int (nI (key))), some (.ref e)]) k134_76 (Nat.le_of_ble_eq_true rfl) rfl ?_
  refine r_aload k134_78 rfl ?_
  refine r_ifnonnull k134_80 ?_
  refine r_aload k134_104 rfl ?_
  refine v_get (j := 5) (v := (J e 5)) k134_106 he rfl rfl ?_
  refine r_aload k134_109 rfl ?_
  refine j_ref (b := 24) k134_110 hB rfl ?_
  refine r_iload k134_113 rfl ?_
  refine j_ald (n := 5) (j := g) (v := (J 24 g)) k134_114 hB rfl rfl (by omega) rfl ?_
  refine r_icmpne k134_115 (fun z115 => ?_) (fun z115 => ?_)
  · exact K1 z115 hT
  · refine r_aload k134_118 rfl ?_
    exact r_aret k134_120 rfl (K2 z115 hT)
set_option maxRecDepth 20000 in
theorem l_K_e4 {d : am_D} {h : am_H} {J : Nat → Nat → Int32} {Q : Option Value → am_H → Prop} (hB : am_B h) (hT : am_ty2 J) (g : Nat) (x : Nat) (y : Int32) (e : Nat) (u : Nat) (he : am_ob h e 9) (hp0 : am_P h e 0 = some u) (hr : am_ay h u 1) (hrl : (am_sh h u).2.2 = 16) (h74 : 74 ≤ e) (h75 : 74 ≤ u) (hne : ¬ e = u) (hE : ef_ok J e u) (hg : g < 5) (hx : x < 12) (hy : ∀ i, i < 16 → M_isOf J i g → ¬ J 20 i = -1 → y = nI (jx y) ∧ jx y < 12) (hd : 4 ≤ d.1) (hw : 96 ≤ d.2) (K1 : am_ty2 (am_u2 (am_u2 (K_find J g x y e u) e 5 (J 24 g)) 25 g ((J 25 g) + (nI 1))) → Q (some (.ref e)) (am_si h (am_u2 (am_u2 (K_find J g x y e u) e 5 (J 24 g)) 25 g ((J 25 g) + (nI 1))))) : am_wp d 134 121 [some (.ref 22), some (.int (nI (g))), some (.int (nI (x))), some (.int (y)), none, none, none, some (.ref e)] [] (am_si h J) Q := by
  refine r_aload k134_121 rfl ?_
  refine r_iload k134_122 rfl ?_
  refine r_iload k134_123 rfl ?_
  refine r_iload k134_124 rfl ?_
  refine r_aload k134_125 rfl ?_
  refine j_call (ml := 6) k134_127 rfl (show 0 < d.1 by omega) (show 19 + 6 ≤ d.2 by omega) ⟨Nat.le_of_ble_eq_true rfl, Nat.le_of_ble_eq_true rfl, am_obB hB rfl, Nat.le_of_ble_eq_true rfl⟩ rfl (rest := []) rfl (s_K_find hB hT g x y e u (he) (hp0) (hr) (hrl) (h74) (h75) (hne) (hE) (by omega) (by omega) (hy) (show 3 ≤ d.1 - 1 by omega) (show 71 ≤ d.2 - 25 by omega)) (fun r h1 hq => ?_)
  obtain ⟨rfl, rfl, hT127⟩ := hq
  show am_wp _ _ _ [some (.ref 22), some (.int (nI (g))), some (.int (nI (x))), some (.int (y)), none, none, none, some (.ref e)] [] _ _
  refine r_aload k134_130 rfl ?_
  refine r_aload k134_132 rfl ?_
  refine j_ref (b := 24) k134_133 hB rfl ?_
  refine r_iload k134_136 rfl ?_
  refine j_ald (n := 5) (j := g) (v := (J 24 g)) k134_137 hB rfl rfl (by omega) (congrFun (fr_K_find 24 (by omega)) _) ?_
  refine v_put (j := 5) k134_138 he rfl rfl ?_
  have hT138 : am_ty2 (am_u2 (K_find J g x y e u) e 5 (J 24 g)) := ty_w hT127 (tw_v (by omega))
  refine r_aload k134_141 rfl ?_
  refine j_ref (b := 25) k134_142 hB rfl ?_
  refine r_iload k134_145 rfl ?_
  refine r_dup2 rfl rfl k134_146 ?_
  refine j_ald (n := 5) (j := g) (v := (J 25 g)) k134_147 hB rfl rfl (by omega) ((congrFun (fr_u (by omega)) _).trans (congrFun (fr_K_find 25 (by omega)) _)) ?_
  refine r_pushn (v := nI 1) k134_148 rfl ?_
  refine r_iadd k134_149 ?_
  refine j_ast (n := 5) (j := g) k134_150 hB rfl rfl (by omega) ?_
  have hT150 : am_ty2 (am_u2 (am_u2 (K_find J g x y e u) e 5 (J 24 g)) 25 g ((J 25 g) + (nI 1))) := ty_w hT138 (tw_a (by decide) (by decide) (by decide))
  refine r_aload k134_151 rfl ?_
  exact r_aret k134_153 rfl (K1 hT150)
