/-! The class: Instances, Methods, Bodies, Notes: small methods. -/
noncomputable def w_isin (s : Int32) (m : Int32) : Prop := (am_ite (((s >>> (m &&& 31)) &&& (nI 1)) = 0) ((False)) ((True)))
set_option maxRecDepth 20000 in
theorem s_w_isin {d : am_D} {h : am_H} (s : Int32) (m : Int32) : am_wp d 29 0 [some (.int (s)), some (.int (m))] [] h (fun r h' => r = some (.int (am_b (w_isin s m))) ∧ h' = h) := by
  refine r_iload k29_0 rfl ?_
  refine r_iload k29_1 rfl ?_
  refine r_ishr k29_2 ?_
  refine r_pushn (v := nI 1) k29_3 rfl ?_
  refine r_iand k29_4 ?_
  refine r_ifeq k29_5 (fun z5 => ?_) (fun z5 => ?_)
  · refine r_pushn (v := nI 0) k29_12 rfl ?_
    have e9 : w_isin s m = ((False)) := by unfold w_isin; rw [am_ite_t z5]
    exact r_zret k29_13 rfl (by decide) ⟨by rw [e9, am_b_f (fun q => q)]; rfl, rfl⟩
  · refine r_pushn (v := nI 1) k29_8 rfl ?_
    refine r_goto k29_9 ?_
    have e9 : w_isin s m = ((True)) := by unfold w_isin; rw [am_ite_f z5]
    exact r_zret k29_13 rfl (by decide) ⟨by rw [e9, am_b_t True.intro]; rfl, rfl⟩
noncomputable def C_setSup (J : Nat → Nat → Int32) (c : Nat) (s : Int32) (t : Int32) (u : Int32) : (Nat → Nat → Int32) := (am_u2 (am_u2 (am_u2 J 3 (c * 3) s) 3 ((c * 3) + 1) t) 3 ((c * 3) + 2) u)
set_option maxRecDepth 20000 in
theorem s_C_setSup {d : am_D} {h : am_H} {J : Nat → Nat → Int32} (hB : am_B h) (hT : am_ty2 J) (c : Nat) (s : Int32) (t : Int32) (u : Int32) (hc : c < 12) (h_s : s = -1 ∨ ∃ n, n < 12 ∧ s = nI n) (h_t : t = -1 ∨ ∃ n, n < 12 ∧ t = nI n) (h_u : u = -1 ∨ ∃ n, n < 12 ∧ u = nI n) : am_wp d 88 0 [some (.ref 2), some (.int (nI (c))), some (.int (s)), some (.int (t)), some (.int (u))] [] (am_si h J) (fun r h' => r = none ∧ h' = am_si h (C_setSup J c s t u) ∧ am_ty2 (C_setSup J c s t u)) := by
  refine r_aload k88_0 rfl ?_
  refine j_ref (b := 3) k88_1 hB rfl ?_
  refine r_iload k88_4 rfl ?_
  refine r_pushn (v := nI 3) k88_5 rfl ?_
  refine r_imulN k88_6 ?_
  refine r_iload k88_7 rfl ?_
  refine j_ast (n := 36) (j := (c * 3)) k88_8 hB rfl rfl (by omega) ?_
  have hT8 : am_ty2 (am_u2 J 3 (c * 3) s) := ty_w hT (tw_m (B := 12) (by decide) (by decide) (by decide) h_s)
  refine r_aload k88_9 rfl ?_
  refine j_ref (b := 3) k88_10 hB rfl ?_
  refine r_iload k88_13 rfl ?_
  refine r_pushn (v := nI 3) k88_14 rfl ?_
  refine r_imulN k88_15 ?_
  refine r_pushn (v := nI 1) k88_16 rfl ?_
  refine r_iaddN k88_17 ?_
  refine r_iload k88_18 rfl ?_
  refine j_ast (n := 36) (j := ((c * 3) + 1)) k88_19 hB rfl rfl (by omega) ?_
  have hT19 : am_ty2 (am_u2 (am_u2 J 3 (c * 3) s) 3 ((c * 3) + 1) t) := ty_w hT8 (tw_m (B := 12) (by decide) (by decide) (by decide) h_t)
  refine r_aload k88_20 rfl ?_
  refine j_ref (b := 3) k88_21 hB rfl ?_
  refine r_iload k88_24 rfl ?_
  refine r_pushn (v := nI 3) k88_25 rfl ?_
  refine r_imulN k88_26 ?_
  refine r_pushn (v := nI 2) k88_27 rfl ?_
  refine r_iaddN k88_28 ?_
  refine r_iload k88_29 rfl ?_
  refine j_ast (n := 36) (j := ((c * 3) + 2)) k88_31 hB rfl rfl (by omega) ?_
  have hT31 : am_ty2 (am_u2 (am_u2 (am_u2 J 3 (c * 3) s) 3 ((c * 3) + 1) t) 3 ((c * 3) + 2) u) := ty_w hT19 (tw_m (B := 12) (by decide) (by decide) (by decide) h_u)
  have e9 : C_setSup J c s t u = (am_u2 (am_u2 (am_u2 J 3 (c * 3) s) 3 ((c * 3) + 1) t) 3 ((c * 3) + 2) u) := rfl
  exact r_vret k88_32 rfl ⟨rfl, by rw [e9], by rw [e9]; exact hT31⟩
theorem fr_C_setSup {J : Nat → Nat → Int32} {c : Nat} {s : Int32} {t : Int32} {u : Int32} (q : Nat) (hq : ¬ q = 3) : (C_setSup J c s t u) q = J q := by
  unfold C_setSup
  exact (fr_u (by omega)).trans ((fr_u (by omega)).trans (fr_u (by omega)))
noncomputable def I_total (J : Nat → Nat → Int32) : Int32 := (((nI (jn J 10 5))))
set_option maxRecDepth 20000 in
theorem s_I_total {d : am_D} {h : am_H} {J : Nat → Nat → Int32} (hB : am_B h) (hT : am_ty2 J) : am_wp d 116 0 [some (.ref 10)] [] (am_si h J) (fun r h' => r = some (.int (I_total J)) ∧ h' = (am_si h J)) := by
  refine r_aload k116_0 rfl ?_
  have b1 := ty_f hT (q := 10) (j := 5) (B := 13) (by decide) (by decide)
  refine j_get (j := 5) (v := (nI (jn J 10 5))) k116_1 hB rfl b1.1 ?_
  have e9 : I_total J = (((nI (jn J 10 5)))) := rfl
  exact r_iret k116_4 rfl ⟨by rw [e9], rfl⟩
noncomputable def I_changes (J : Nat → Nat → Int32) : Int32 := (((J 10 6)))
set_option maxRecDepth 20000 in
theorem s_I_changes {d : am_D} {h : am_H} {J : Nat → Nat → Int32} (hB : am_B h) (hT : am_ty2 J) : am_wp d 117 0 [some (.ref 10)] [] (am_si h J) (fun r h' => r = some (.int (I_changes J)) ∧ h' = (am_si h J)) := by
  refine r_aload k117_0 rfl ?_
  refine j_get (j := 6) (v := (J 10 6)) k117_1 hB rfl rfl ?_
  have e9 : I_changes J = (((J 10 6))) := rfl
  exact r_iret k117_4 rfl ⟨by rw [e9], rfl⟩
noncomputable def I_there (J : Nat → Nat → Int32) (i : Int32) : Prop := ((w_in i (nI 0) ((nI (jn J 10 5)) - (nI 1))))
set_option maxRecDepth 20000 in
theorem s_I_there {d : am_D} {h : am_H} {J : Nat → Nat → Int32} (hB : am_B h) (hT : am_ty2 J) (i : Int32) (hd : 1 ≤ d.1) (hw : 22 ≤ d.2) : am_wp d 118 0 [some (.ref 10), some (.int (i))] [] (am_si h J) (fun r h' => r = some (.int (am_b (I_there J i))) ∧ h' = (am_si h J)) := by
  refine r_iload k118_0 rfl ?_
  refine r_pushn (v := nI 0) k118_1 rfl ?_
  refine r_aload k118_2 rfl ?_
  have b3 := ty_f hT (q := 10) (j := 5) (B := 13) (by decide) (by decide)
  refine j_get (j := 5) (v := (nI (jn J 10 5))) k118_3 hB rfl b3.1 ?_
  refine r_pushn (v := nI 1) k118_6 rfl ?_
  refine r_isub k118_7 ?_
  refine j_call (ml := 3) k118_8 rfl (show 0 < d.1 by omega) (show 19 + 3 ≤ d.2 by omega) ⟨Nat.le_of_ble_eq_true rfl, Nat.le_of_ble_eq_true rfl, True.intro, Nat.le_of_ble_eq_true rfl⟩ rfl (rest := []) rfl (s_w_in i (nI 0) ((nI (jn J 10 5)) - (nI 1))) (fun r h1 hq => ?_)
  obtain ⟨rfl, rfl⟩ := hq
  show am_wp _ _ _ [some (.ref 10), some (.int (i))] [.int (am_b (w_in i (nI 0) ((nI (jn J 10 5)) - (nI 1))))] _ _
  have e9 : I_there J i = ((w_in i (nI 0) ((nI (jn J 10 5)) - (nI 1)))) := rfl
  exact r_zret k118_11 rfl am_b_1 ⟨by rw [e9], rfl⟩
theorem w_in_lt {x : Int32} {n : Nat} (hn : n < 2 ^ 30) (h : w_in x (nI 0) (nI n - nI 1)) : x = nI (jx x) ∧ jx x < n := by
  rw [w_in_iff, pk_sub_toInt hn (by decide), nI_toInt (by decide)] at h
  have h1 : ¬ x < 0 := fun z => by
    rw [Int32.lt_iff_toInt_lt] at z
    have : (0 : Int32).toInt = 0 := rfl
    omega
  obtain ⟨j, hj, rfl⟩ := nI_of h1
  rw [nI_toInt hj] at h
  rw [jx_nI hj]
  exact ⟨rfl, by omega⟩
theorem I_there_r {J : Nat → Nat → Int32} (hT : am_ty2 J) {i : Int32} (h : I_there J i) : i = nI (jx i) ∧ jx i < jn J 10 5 ∧ jx i < 12 := by
  have b := ty_f hT (q := 10) (j := 5) (B := 13) (by decide) (by decide)
  have g := w_in_lt (by omega) h
  exact ⟨g.1, g.2, by omega⟩
noncomputable def I_class (J : Nat → Nat → Int32) (i : Nat) : Int32 := (((nI (jn J 11 i))))
set_option maxRecDepth 20000 in
theorem s_I_class {d : am_D} {h : am_H} {J : Nat → Nat → Int32} (hB : am_B h) (hT : am_ty2 J) (i : Nat) (hi : i < 12) : am_wp d 119 0 [some (.ref 10), some (.int (nI (i)))] [] (am_si h J) (fun r h' => r = some (.int (I_class J i)) ∧ h' = (am_si h J)) := by
  refine r_aload k119_0 rfl ?_
  refine j_ref (b := 11) k119_1 hB rfl ?_
  refine r_iload k119_4 rfl ?_
  have b5 := ty_n hT (q := 11) (B := 12) (by decide) (by decide) i
  refine j_ald (n := 12) (j := i) (v := (nI (jn J 11 i))) k119_5 hB rfl rfl (by omega) b5.1 ?_
  have e9 : I_class J i = (((nI (jn J 11 i)))) := rfl
  exact r_iret k119_6 rfl ⟨by rw [e9], rfl⟩
noncomputable def I_layout (J : Nat → Nat → Int32) (i : Nat) : Int32 := (((J 12 i)))
set_option maxRecDepth 20000 in
theorem s_I_layout {d : am_D} {h : am_H} {J : Nat → Nat → Int32} (hB : am_B h) (hT : am_ty2 J) (i : Nat) (hi : i < 12) : am_wp d 120 0 [some (.ref 10), some (.int (nI (i)))] [] (am_si h J) (fun r h' => r = some (.int (I_layout J i)) ∧ h' = (am_si h J)) := by
  refine r_aload k120_0 rfl ?_
  refine j_ref (b := 12) k120_1 hB rfl ?_
  refine r_iload k120_4 rfl ?_
  refine j_ald (n := 12) (j := i) (v := (J 12 i)) k120_5 hB rfl rfl (by omega) rfl ?_
  have e9 : I_layout J i = (((J 12 i))) := rfl
  exact r_iret k120_6 rfl ⟨by rw [e9], rfl⟩
noncomputable def I_bound (J : Nat → Nat → Int32) (i : Nat) : Int32 := (((J 13 i)))
set_option maxRecDepth 20000 in
theorem s_I_bound {d : am_D} {h : am_H} {J : Nat → Nat → Int32} (hB : am_B h) (hT : am_ty2 J) (i : Nat) (hi : i < 12) : am_wp d 121 0 [some (.ref 10), some (.int (nI (i)))] [] (am_si h J) (fun r h' => r = some (.int (I_bound J i)) ∧ h' = (am_si h J)) := by
  refine r_aload k121_0 rfl ?_
  refine j_ref (b := 13) k121_1 hB rfl ?_
  refine r_iload k121_4 rfl ?_
  refine j_ald (n := 12) (j := i) (v := (J 13 i)) k121_5 hB rfl rfl (by omega) rfl ?_
  have e9 : I_bound J i = (((J 13 i))) := rfl
  exact r_iret k121_6 rfl ⟨by rw [e9], rfl⟩
noncomputable def I_setVal (J : Nat → Nat → Int32) (i : Nat) (nm : Nat) (v : Int32) : (Nat → Nat → Int32) := (am_u2 (am_u2 J 14 ((i * 6) + nm) v) 13 i ((J 13 i) ||| ((nI 1) <<< ((nI nm) &&& 31))))
set_option maxRecDepth 20000 in
theorem s_I_setVal {d : am_D} {h : am_H} {J : Nat → Nat → Int32} (hB : am_B h) (hT : am_ty2 J) (i : Nat) (nm : Nat) (v : Int32) (hi : i < 12) (hn : nm < 6) : am_wp d 125 0 [some (.ref 10), some (.int (nI (i))), some (.int (nI (nm))), some (.int (v))] [] (am_si h J) (fun r h' => r = none ∧ h' = am_si h (I_setVal J i nm v) ∧ am_ty2 (I_setVal J i nm v)) := by
  refine r_aload k125_0 rfl ?_
  refine j_ref (b := 14) k125_1 hB rfl ?_
  refine r_iload k125_4 rfl ?_
  refine r_pushn (v := nI 6) k125_5 rfl ?_
  refine r_imulN k125_7 ?_
  refine r_iload k125_8 rfl ?_
  refine r_iaddN k125_9 ?_
  refine r_iload k125_10 rfl ?_
  refine j_ast (n := 72) (j := ((i * 6) + nm)) k125_11 hB rfl rfl (by omega) ?_
  have hT11 : am_ty2 (am_u2 J 14 ((i * 6) + nm) v) := ty_w hT (tw_a (by decide) (by decide) (by decide))
  refine r_aload k125_12 rfl ?_
  refine j_ref (b := 13) k125_13 hB rfl ?_
  refine r_iload k125_16 rfl ?_
  refine r_dup2 rfl rfl k125_17 ?_
  refine j_ald (n := 12) (j := i) (v := (J 13 i)) k125_18 hB rfl rfl (by omega) rfl ?_
  refine r_pushn (v := nI 1) k125_19 rfl ?_
  refine r_iload k125_20 rfl ?_
  refine r_ishl k125_21 ?_
  refine r_ior k125_22 ?_
  refine j_ast (n := 12) (j := i) k125_23 hB rfl rfl (by omega) ?_
  have hT23 : am_ty2 (am_u2 (am_u2 J 14 ((i * 6) + nm) v) 13 i ((J 13 i) ||| ((nI 1) <<< ((nI nm) &&& 31)))) := ty_w hT11 (tw_a (by decide) (by decide) (by decide))
  have e9 : I_setVal J i nm v = (am_u2 (am_u2 J 14 ((i * 6) + nm) v) 13 i ((J 13 i) ||| ((nI 1) <<< ((nI nm) &&& 31)))) := rfl
  exact r_vret k125_24 rfl ⟨rfl, by rw [e9], by rw [e9]; exact hT23⟩
theorem fr_I_setVal {J : Nat → Nat → Int32} {i : Nat} {nm : Nat} {v : Int32} (q : Nat) (hq : ¬ q = 13 ∧ ¬ q = 14) : (I_setVal J i nm v) q = J q := by
  unfold I_setVal
  exact (fr_u (by omega)).trans (fr_u (by omega))
noncomputable def M_total (J : Nat → Nat → Int32) : Int32 := (((J 15 6)))
set_option maxRecDepth 20000 in
theorem s_M_total {d : am_D} {h : am_H} {J : Nat → Nat → Int32} (hB : am_B h) (hT : am_ty2 J) : am_wp d 158 0 [some (.ref 15)] [] (am_si h J) (fun r h' => r = some (.int (M_total J)) ∧ h' = (am_si h J)) := by
  refine r_aload k158_0 rfl ?_
  refine j_get (j := 6) (v := (J 15 6)) k158_1 hB rfl rfl ?_
  have e9 : M_total J = (((J 15 6))) := rfl
  exact r_iret k158_4 rfl ⟨by rw [e9], rfl⟩
noncomputable def M_par (J : Nat → Nat → Int32) (g : Nat) : Int32 := (((nI (jn J 16 g))))
set_option maxRecDepth 20000 in
theorem s_M_par {d : am_D} {h : am_H} {J : Nat → Nat → Int32} (hB : am_B h) (hT : am_ty2 J) (g : Nat) (hg : g < 5) : am_wp d 159 0 [some (.ref 15), some (.int (nI (g)))] [] (am_si h J) (fun r h' => r = some (.int (M_par J g)) ∧ h' = (am_si h J)) := by
  refine r_aload k159_0 rfl ?_
  refine j_ref (b := 16) k159_1 hB rfl ?_
  refine r_iload k159_4 rfl ?_
  have b5 := ty_n hT (q := 16) (B := 3) (by decide) (by decide) g
  refine j_ald (n := 5) (j := g) (v := (nI (jn J 16 g))) k159_5 hB rfl rfl (by omega) b5.1 ?_
  have e9 : M_par J g = (((nI (jn J 16 g)))) := rfl
  exact r_iret k159_6 rfl ⟨by rw [e9], rfl⟩
noncomputable def M_there (J : Nat → Nat → Int32) (m : Int32) : Prop := (am_ite (w_in m (nI 0) (nI 15)) (am_ite ((J 17 (jx m)) = ((-1))) ((False)) ((True))) ((False)))
set_option maxRecDepth 20000 in
theorem s_M_there {d : am_D} {h : am_H} {J : Nat → Nat → Int32} (hB : am_B h) (hT : am_ty2 J) (m : Int32) (hd : 1 ≤ d.1) (hw : 22 ≤ d.2) : am_wp d 160 0 [some (.ref 15), some (.int (m))] [] (am_si h J) (fun r h' => r = some (.int (am_b (M_there J m))) ∧ h' = (am_si h J)) := by
  refine r_iload k160_0 rfl ?_
  refine r_pushn (v := nI 0) k160_1 rfl ?_
  refine r_pushn (v := nI 15) k160_2 rfl ?_
  refine j_call (ml := 3) k160_4 rfl (show 0 < d.1 by omega) (show 19 + 3 ≤ d.2 by omega) ⟨Nat.le_of_ble_eq_true rfl, Nat.le_of_ble_eq_true rfl, True.intro, Nat.le_of_ble_eq_true rfl⟩ rfl (rest := []) rfl (s_w_in m (nI 0) (nI 15)) (fun r h1 hq => ?_)
  obtain ⟨rfl, rfl⟩ := hq
  show am_wp _ _ _ [some (.ref 15), some (.int (m))] [.int (am_b (w_in m (nI 0) (nI 15)))] _ _
  refine r_ifeqB k160_7 (fun z7 => ?_) (fun z7 => ?_)
  · refine r_pushn (v := nI 0) k160_24 rfl ?_
    have e9 : M_there J m = ((False)) := by unfold M_there; rw [am_ite_f z7]
    exact r_zret k160_25 rfl (by decide) ⟨by rw [e9, am_b_f (fun q => q)]; rfl, rfl⟩
  · have e_m := jx_eq (by decide) z7
    rw [show ([some (.ref 15), some (.int (m))] : am_L) = [some (.ref 15), some (.int (nI (jx m)))] by rw [← e_m.1]]
    refine r_aload k160_10 rfl ?_
    refine j_ref (b := 17) k160_11 hB rfl ?_
    refine r_iload k160_14 rfl ?_
    refine j_ald (n := 16) (j := (jx m)) (v := (J 17 (jx m))) k160_15 hB rfl rfl (by omega) rfl ?_
    refine r_pushn (v := (-1)) k160_16 rfl ?_
    refine r_icmpeq k160_17 (fun z17 => ?_) (fun z17 => ?_)
    · refine r_pushn (v := nI 0) k160_24 rfl ?_
      have e9 : M_there J m = ((False)) := by unfold M_there; rw [am_ite_t z7, am_ite_t z17]
      exact r_zret k160_25 rfl (by decide) ⟨by rw [e9, am_b_f (fun q => q)]; rfl, rfl⟩
    · have c17 := ty_m hT (q := 17) (B := 5) (by decide) (by decide) (jx m) z17
      refine r_pushn (v := nI 1) k160_20 rfl ?_
      refine r_goto k160_21 ?_
      have e9 : M_there J m = ((True)) := by unfold M_there; rw [am_ite_t z7, am_ite_f z17]
      exact r_zret k160_25 rfl (by decide) ⟨by rw [e9, am_b_t True.intro]; rfl, rfl⟩
noncomputable def M_isOf (J : Nat → Nat → Int32) (m : Nat) (g : Nat) : Prop := (am_ite ((J 17 m) = (nI g)) ((True)) ((False)))
set_option maxRecDepth 20000 in
theorem s_M_isOf {d : am_D} {h : am_H} {J : Nat → Nat → Int32} (hB : am_B h) (hT : am_ty2 J) (m : Nat) (g : Nat) (hm : m < 16) (hg : g < 5) : am_wp d 161 0 [some (.ref 15), some (.int (nI (m))), some (.int (nI (g)))] [] (am_si h J) (fun r h' => r = some (.int (am_b (M_isOf J m g))) ∧ h' = (am_si h J)) := by
  refine r_aload k161_0 rfl ?_
  refine j_ref (b := 17) k161_1 hB rfl ?_
  refine r_iload k161_4 rfl ?_
  refine j_ald (n := 16) (j := m) (v := (J 17 m)) k161_5 hB rfl rfl (by omega) rfl ?_
  refine r_iload k161_6 rfl ?_
  refine r_icmpne k161_7 (fun z7 => ?_) (fun z7 => ?_)
  · refine r_pushn (v := nI 0) k161_14 rfl ?_
    have e9 : M_isOf J m g = ((False)) := by unfold M_isOf; rw [am_ite_f z7]
    exact r_zret k161_15 rfl (by decide) ⟨by rw [e9, am_b_f (fun q => q)]; rfl, rfl⟩
  · refine r_pushn (v := nI 1) k161_10 rfl ?_
    refine r_goto k161_11 ?_
    have e9 : M_isOf J m g = ((True)) := by unfold M_isOf; rw [am_ite_t z7]
    exact r_zret k161_15 rfl (by decide) ⟨by rw [e9, am_b_t True.intro]; rfl, rfl⟩
noncomputable def M_kind (J : Nat → Nat → Int32) (m : Nat) : Int32 := (((nI (jn J 18 m))))
set_option maxRecDepth 20000 in
theorem s_M_kind {d : am_D} {h : am_H} {J : Nat → Nat → Int32} (hB : am_B h) (hT : am_ty2 J) (m : Nat) (hm : m < 16) : am_wp d 162 0 [some (.ref 15), some (.int (nI (m)))] [] (am_si h J) (fun r h' => r = some (.int (M_kind J m)) ∧ h' = (am_si h J)) := by
  refine r_aload k162_0 rfl ?_
  refine j_ref (b := 18) k162_1 hB rfl ?_
  refine r_iload k162_4 rfl ?_
  have b5 := ty_n hT (q := 18) (B := 4) (by decide) (by decide) m
  refine j_ald (n := 16) (j := m) (v := (nI (jn J 18 m))) k162_5 hB rfl rfl (by omega) b5.1 ?_
  have e9 : M_kind J m = (((nI (jn J 18 m)))) := rfl
  exact r_iret k162_6 rfl ⟨by rw [e9], rfl⟩
noncomputable def M_first (J : Nat → Nat → Int32) (m : Nat) : Int32 := (((nI (jn J 19 m))))
set_option maxRecDepth 20000 in
theorem s_M_first {d : am_D} {h : am_H} {J : Nat → Nat → Int32} (hB : am_B h) (hT : am_ty2 J) (m : Nat) (hm : m < 16) : am_wp d 163 0 [some (.ref 15), some (.int (nI (m)))] [] (am_si h J) (fun r h' => r = some (.int (M_first J m)) ∧ h' = (am_si h J)) := by
  refine r_aload k163_0 rfl ?_
  refine j_ref (b := 19) k163_1 hB rfl ?_
  refine r_iload k163_4 rfl ?_
  have b5 := ty_n hT (q := 19) (B := 28) (by decide) (by decide) m
  refine j_ald (n := 16) (j := m) (v := (nI (jn J 19 m))) k163_5 hB rfl rfl (by omega) b5.1 ?_
  have e9 : M_first J m = (((nI (jn J 19 m)))) := rfl
  exact r_iret k163_6 rfl ⟨by rw [e9], rfl⟩
noncomputable def M_body (J : Nat → Nat → Int32) (m : Nat) : Int32 := (((nI (jn J 21 m))))
set_option maxRecDepth 20000 in
theorem s_M_body {d : am_D} {h : am_H} {J : Nat → Nat → Int32} (hB : am_B h) (hT : am_ty2 J) (m : Nat) (hm : m < 16) : am_wp d 166 0 [some (.ref 15), some (.int (nI (m)))] [] (am_si h J) (fun r h' => r = some (.int (M_body J m)) ∧ h' = (am_si h J)) := by
  refine r_aload k166_0 rfl ?_
  refine j_ref (b := 21) k166_1 hB rfl ?_
  refine r_iload k166_4 rfl ?_
  have b5 := ty_n hT (q := 21) (B := 8) (by decide) (by decide) m
  refine j_ald (n := 16) (j := m) (v := (nI (jn J 21 m))) k166_5 hB rfl rfl (by omega) b5.1 ?_
  have e9 : M_body J m = (((nI (jn J 21 m)))) := rfl
  exact r_iret k166_6 rfl ⟨by rw [e9], rfl⟩
noncomputable def M_second (J : Nat → Nat → Int32) (m : Nat) : Int32 := (((J 20 m)))
set_option maxRecDepth 20000 in
theorem s_M_second {d : am_D} {h : am_H} {J : Nat → Nat → Int32} (hB : am_B h) (hT : am_ty2 J) (m : Nat) (hm : m < 16) : am_wp d 164 0 [some (.ref 15), some (.int (nI (m)))] [] (am_si h J) (fun r h' => r = some (.int (M_second J m)) ∧ h' = (am_si h J)) := by
  refine r_aload k164_0 rfl ?_
  refine j_ref (b := 20) k164_1 hB rfl ?_
  refine r_iload k164_4 rfl ?_
  refine j_ald (n := 16) (j := m) (v := (J 20 m)) k164_5 hB rfl rfl (by omega) rfl ?_
  have e9 : M_second J m = (((J 20 m))) := rfl
  exact r_iret k164_6 rfl ⟨by rw [e9], rfl⟩
noncomputable def M_names (J : Nat → Nat → Int32) (m : Nat) : Prop := (am_ite (16 ≤ (jn J 19 m)) ((True)) (am_ite ((J 20 m) < (nI 16)) ((False)) ((True))))
set_option maxRecDepth 20000 in
theorem s_M_names {d : am_D} {h : am_H} {J : Nat → Nat → Int32} (hB : am_B h) (hT : am_ty2 J) (m : Nat) (hm : m < 16) : am_wp d 165 0 [some (.ref 15), some (.int (nI (m)))] [] (am_si h J) (fun r h' => r = some (.int (am_b (M_names J m))) ∧ h' = (am_si h J)) := by
  refine r_aload k165_0 rfl ?_
  refine j_ref (b := 19) k165_1 hB rfl ?_
  refine r_iload k165_4 rfl ?_
  have b5 := ty_n hT (q := 19) (B := 28) (by decide) (by decide) m
  refine j_ald (n := 16) (j := m) (v := (nI (jn J 19 m))) k165_5 hB rfl rfl (by omega) b5.1 ?_
  refine r_pushn (v := nI 16) k165_6 rfl ?_
  refine r_icmpgeN (by omega) (by omega) k165_8 (fun z8 => ?_) (fun z8 => ?_)
  · refine r_pushn (v := nI 1) k165_22 rfl ?_
    refine r_goto k165_23 ?_
    have e9 : M_names J m = ((True)) := by unfold M_names; rw [am_ite_t z8]
    exact r_zret k165_27 rfl (by decide) ⟨by rw [e9, am_b_t True.intro]; rfl, rfl⟩
  · refine r_aload k165_11 rfl ?_
    refine j_ref (b := 20) k165_12 hB rfl ?_
    refine r_iload k165_15 rfl ?_
    refine j_ald (n := 16) (j := m) (v := (J 20 m)) k165_16 hB rfl rfl (by omega) rfl ?_
    refine r_pushn (v := nI 16) k165_17 rfl ?_
    refine r_icmplt k165_19 (fun z19 => ?_) (fun z19 => ?_)
    · refine r_pushn (v := nI 0) k165_26 rfl ?_
      have e9 : M_names J m = ((False)) := by unfold M_names; rw [am_ite_f z8, am_ite_t z19]
      exact r_zret k165_27 rfl (by decide) ⟨by rw [e9, am_b_f (fun q => q)]; rfl, rfl⟩
    · refine r_pushn (v := nI 1) k165_22 rfl ?_
      refine r_goto k165_23 ?_
      have e9 : M_names J m = ((True)) := by unfold M_names; rw [am_ite_f z8, am_ite_f z19]
      exact r_zret k165_27 rfl (by decide) ⟨by rw [e9, am_b_t True.intro]; rfl, rfl⟩
noncomputable def B_empty (J : Nat → Nat → Int32) (b : Nat) : Int32 × (Nat → Nat → Int32) := (((nI (jn J 28 b)), am_u2 J 28 b (nI 0)))
set_option maxRecDepth 20000 in
theorem s_B_empty {d : am_D} {h : am_H} {J : Nat → Nat → Int32} (hB : am_B h) (hT : am_ty2 J) (b : Nat) (hb : b < 8) : am_wp d 78 0 [some (.ref 27), some (.int (nI (b))), none] [] (am_si h J) (fun r h' => r = some (.int (B_empty J b).1) ∧ h' = am_si h (B_empty J b).2 ∧ am_ty2 (B_empty J b).2) := by
  refine r_aload k78_0 rfl ?_
  refine j_ref (b := 28) k78_1 hB rfl ?_
  refine r_iload k78_4 rfl ?_
  have b5 := ty_n hT (q := 28) (B := 9) (by decide) (by decide) b
  refine j_ald (n := 8) (j := b) (v := (nI (jn J 28 b))) k78_5 hB rfl rfl (by omega) b5.1 ?_
  refine r_istore (L' := [some (.ref 27), some (.int (nI (b))), some (.int (nI (jn J 28 b)))]) k78_6 (Nat.le_of_ble_eq_true rfl) rfl ?_
  refine r_aload k78_7 rfl ?_
  refine j_ref (b := 28) k78_8 hB rfl ?_
  refine r_iload k78_11 rfl ?_
  refine r_pushn (v := nI 0) k78_12 rfl ?_
  refine j_ast (n := 8) (j := b) k78_13 hB rfl rfl (by omega) ?_
  have hT13 : am_ty2 (am_u2 J 28 b (nI 0)) := ty_w hT (tw_n (B := 9) (by decide) (by decide) (by decide) (by omega))
  refine r_iload k78_14 rfl ?_
  have e9 : B_empty J b = (((nI (jn J 28 b)), am_u2 J 28 b (nI 0))) := rfl
  exact r_iret k78_15 rfl ⟨by rw [e9], by rw [e9], by rw [e9]; exact hT13⟩
theorem fr_B_empty {J : Nat → Nat → Int32} {b : Nat} (q : Nat) (hq : ¬ q = 28) : (B_empty J b).2 q = J q := by
  unfold B_empty
  exact fr_u (by omega)
noncomputable def B_size (J : Nat → Nat → Int32) (b : Nat) : Int32 := (((nI (jn J 28 b))))
set_option maxRecDepth 20000 in
theorem s_B_size {d : am_D} {h : am_H} {J : Nat → Nat → Int32} (hB : am_B h) (hT : am_ty2 J) (b : Nat) (hb : b < 8) : am_wp d 79 0 [some (.ref 27), some (.int (nI (b)))] [] (am_si h J) (fun r h' => r = some (.int (B_size J b)) ∧ h' = (am_si h J)) := by
  refine r_aload k79_0 rfl ?_
  refine j_ref (b := 28) k79_1 hB rfl ?_
  refine r_iload k79_4 rfl ?_
  have b5 := ty_n hT (q := 28) (B := 9) (by decide) (by decide) b
  refine j_ald (n := 8) (j := b) (v := (nI (jn J 28 b))) k79_5 hB rfl rfl (by omega) b5.1 ?_
  have e9 : B_size J b = (((nI (jn J 28 b)))) := rfl
  exact r_iret k79_6 rfl ⟨by rw [e9], rfl⟩
noncomputable def B_op (J : Nat → Nat → Int32) (b : Nat) (k : Nat) : Int32 := (((nI (jn J 29 ((b * 8) + k)))))
set_option maxRecDepth 20000 in
theorem s_B_op {d : am_D} {h : am_H} {J : Nat → Nat → Int32} (hB : am_B h) (hT : am_ty2 J) (b : Nat) (k : Nat) (hb : b < 8) (hk : k < 8) : am_wp d 80 0 [some (.ref 27), some (.int (nI (b))), some (.int (nI (k)))] [] (am_si h J) (fun r h' => r = some (.int (B_op J b k)) ∧ h' = (am_si h J)) := by
  refine r_aload k80_0 rfl ?_
  refine j_ref (b := 29) k80_1 hB rfl ?_
  refine r_iload k80_4 rfl ?_
  refine r_pushn (v := nI 8) k80_5 rfl ?_
  refine r_imulN k80_7 ?_
  refine r_iload k80_8 rfl ?_
  refine r_iaddN k80_9 ?_
  have b10 := ty_n hT (q := 29) (B := 10) (by decide) (by decide) ((b * 8) + k)
  refine j_ald (n := 64) (j := ((b * 8) + k)) (v := (nI (jn J 29 ((b * 8) + k)))) k80_10 hB rfl rfl (by omega) b10.1 ?_
  have e9 : B_op J b k = (((nI (jn J 29 ((b * 8) + k))))) := rfl
  exact r_iret k80_11 rfl ⟨by rw [e9], rfl⟩
noncomputable def B_opd (J : Nat → Nat → Int32) (b : Nat) (k : Nat) : Int32 := (((J 30 ((b * 8) + k))))
set_option maxRecDepth 20000 in
theorem s_B_opd {d : am_D} {h : am_H} {J : Nat → Nat → Int32} (hB : am_B h) (hT : am_ty2 J) (b : Nat) (k : Nat) (hb : b < 8) (hk : k < 8) : am_wp d 81 0 [some (.ref 27), some (.int (nI (b))), some (.int (nI (k)))] [] (am_si h J) (fun r h' => r = some (.int (B_opd J b k)) ∧ h' = (am_si h J)) := by
  refine r_aload k81_0 rfl ?_
  refine j_ref (b := 30) k81_1 hB rfl ?_
  refine r_iload k81_4 rfl ?_
  refine r_pushn (v := nI 8) k81_5 rfl ?_
  refine r_imulN k81_7 ?_
  refine r_iload k81_8 rfl ?_
  refine r_iaddN k81_9 ?_
  refine j_ald (n := 64) (j := ((b * 8) + k)) (v := (J 30 ((b * 8) + k))) k81_10 hB rfl rfl (by omega) rfl ?_
  have e9 : B_opd J b k = (((J 30 ((b * 8) + k)))) := rfl
  exact r_iret k81_11 rfl ⟨by rw [e9], rfl⟩
noncomputable def T_total (J : Nat → Nat → Int32) : Int32 := (((J 31 3)))
set_option maxRecDepth 20000 in
theorem s_T_total {d : am_D} {h : am_H} {J : Nat → Nat → Int32} (hB : am_B h) (hT : am_ty2 J) : am_wp d 173 0 [some (.ref 31)] [] (am_si h J) (fun r h' => r = some (.int (T_total J)) ∧ h' = (am_si h J)) := by
  refine r_aload k173_0 rfl ?_
  refine j_get (j := 3) (v := (J 31 3)) k173_1 hB rfl rfl ?_
  have e9 : T_total J = (((J 31 3))) := rfl
  exact r_iret k173_4 rfl ⟨by rw [e9], rfl⟩
