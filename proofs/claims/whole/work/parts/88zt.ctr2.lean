/-! The constructors, run. -/
set_option maxRecDepth 20000 in
theorem c_82_68 {d : am_D} {L : Nat} {xs : Nat → Int32} {Q : Option Value → am_H → Prop} (kx : am_wp d 82 90 [some (.ref 2), none] [] (hb L 10 376 (fil (Z1 xs) 3 36) 7) Q) : ∀ m k, k + m = 36 → am_wp d 82 68 [some (.ref 2), some (.int (nI k))] [] (hb L 10 376 (fil (Z1 xs) 3 k) 7) Q := by
  intro m
  induction m with
  | zero =>
    intro k hk
    refine r_iload k82_68 rfl ?_
    refine r_aload k82_69 rfl ?_
    refine c_getP (b := 3) k82_70 rfl (by decide) rfl rfl ?_
    refine r_alen k82_73 (by decide) (show 3 < 10 by decide) (by rw [b_sh rfl]; decide) ?_
    rw [b_ln (n' := 36) rfl, show Int32.ofNat 36 = nI 36 from rfl]
    refine r_icmpgeN (by omega) (by decide) k82_74 (fun _ => ?_) (fun z => absurd (by omega) z)
    rw [show k = 36 by omega]
    exact wp_L (L := [some (.ref 2), none]) ⟨Or.inr rfl, Or.inl rfl, True.intro⟩ kx
  | succ m ih =>
    intro k hk
    refine r_iload k82_68 rfl ?_
    refine r_aload k82_69 rfl ?_
    refine c_getP (b := 3) k82_70 rfl (by decide) rfl rfl ?_
    refine r_alen k82_73 (by decide) (show 3 < 10 by decide) (by rw [b_sh rfl]; decide) ?_
    rw [b_ln (n' := 36) rfl, show Int32.ofNat 36 = nI 36 from rfl]
    refine r_icmpgeN (by omega) (by decide) k82_74 (fun z => by omega) (fun _ => ?_)
    refine r_aload k82_77 rfl ?_
    refine c_getP (b := 3) k82_78 rfl (by decide) rfl rfl ?_
    refine r_iload k82_81 rfl ?_
    refine r_pushn (v := (-1)) k82_82 rfl ?_
    refine c_ist (n' := 36) (j := k) k82_83 rfl rfl (by omega) (by decide) ?_
    rw [fil_s]
    refine r_iinc (v := nI (k + 1)) (L' := [some (.ref 2), some (.int (nI (k + 1)))]) k82_84 rfl (Nat.le_of_ble_eq_true rfl) (nI_1 _) rfl ?_
    refine r_goto k82_87 ?_
    exact ih (k + 1) (by omega)
set_option maxRecDepth 20000 in
theorem c_82 {d : am_D} {L : Nat} {xs : Nat → Int32} (hd : 1 ≤ d.1) (hw : 60 ≤ d.2) : am_wp d 82 0 [some (.ref 2), none] [] (hb L 3 16 (Z0 xs) 0) (fun r h' => r = none ∧ h' = (hb L 10 376 (Z3 xs) 7)) := by
  refine r_aload k82_0 rfl ?_
  refine r_oinit k82_1 (by omega) (by omega) (Nat.le_of_ble_eq_true rfl) ?_
  refine r_aload k82_4 rfl ?_
  refine r_pushn (v := (nI 36)) k82_5 rfl ?_
  refine c_newI (k := 36) (n1 := 4) (s1 := 52) k82_7 rfl (by decide) (by decide) rfl rfl rfl rfl rfl ?_
  refine c_putR (m1 := 1) k82_9 rfl (by decide) rfl rfl rfl rfl ?_
  refine r_aload k82_12 rfl ?_
  refine r_pushn (v := (nI 144)) k82_13 rfl ?_
  refine c_newI (k := 144) (n1 := 5) (s1 := 196) k82_16 rfl (by decide) (by decide) rfl rfl rfl rfl rfl ?_
  refine c_putR (m1 := 2) k82_18 rfl (by decide) rfl rfl rfl rfl ?_
  refine r_aload k82_21 rfl ?_
  refine r_pushn (v := (nI 12)) k82_22 rfl ?_
  refine c_newI (k := 12) (n1 := 6) (s1 := 208) k82_24 rfl (by decide) (by decide) rfl rfl rfl rfl rfl ?_
  refine c_putR (m1 := 3) k82_26 rfl (by decide) rfl rfl rfl rfl ?_
  refine r_aload k82_29 rfl ?_
  refine r_pushn (v := (nI 72)) k82_30 rfl ?_
  refine c_newI (k := 72) (n1 := 7) (s1 := 280) k82_32 rfl (by decide) (by decide) rfl rfl rfl rfl rfl ?_
  refine c_putR (m1 := 4) k82_34 rfl (by decide) rfl rfl rfl rfl ?_
  refine r_aload k82_37 rfl ?_
  refine r_pushn (v := (nI 72)) k82_38 rfl ?_
  refine c_newI (k := 72) (n1 := 8) (s1 := 352) k82_40 rfl (by decide) (by decide) rfl rfl rfl rfl rfl ?_
  refine c_putR (m1 := 5) k82_42 rfl (by decide) rfl rfl rfl rfl ?_
  refine r_aload k82_45 rfl ?_
  refine r_pushn (v := (nI 1)) k82_46 rfl ?_
  refine c_putI k82_47 rfl (by decide) rfl rfl rfl rfl ?_
  show am_wp _ _ _ _ _ (hb L 8 352 (Z1 xs) 5) _
  refine r_aload k82_50 rfl ?_
  refine r_pushn (v := (nI 12)) k82_51 rfl ?_
  refine c_newI (k := 12) (n1 := 9) (s1 := 364) k82_53 rfl (by decide) (by decide) rfl rfl rfl rfl rfl ?_
  refine c_putR (m1 := 6) k82_55 rfl (by decide) rfl rfl rfl rfl ?_
  refine r_aload k82_58 rfl ?_
  refine r_pushn (v := (nI 12)) k82_59 rfl ?_
  refine c_newI (k := 12) (n1 := 10) (s1 := 376) k82_61 rfl (by decide) (by decide) rfl rfl rfl rfl rfl ?_
  refine c_putR (m1 := 7) k82_63 rfl (by decide) rfl rfl rfl rfl ?_
  refine r_pushn (v := (nI 0)) k82_66 rfl ?_
  refine r_istore (L' := [some (.ref 2), some (.int (nI 0))]) k82_67 (Nat.le_of_ble_eq_true rfl) rfl ?_
  rw [show (Z1 xs) = fil (Z1 xs) 3 0 from (fil_0 rfl).symm]
  refine c_82_68 ?_ 36 0 rfl
  show am_wp _ _ _ _ _ (hb L 10 376 (Z2 xs) 7) _
  refine r_aload k82_90 rfl ?_
  refine c_getP (b := 5) k82_91 rfl (by decide) rfl rfl ?_
  refine r_pushn (v := (nI 0)) k82_94 rfl ?_
  refine r_pushn (v := (nI 1)) k82_95 rfl ?_
  refine c_ist (n' := 12) (j := 0) k82_96 rfl rfl (by decide) (by decide) ?_
  show am_wp _ _ _ _ _ (hb L 10 376 (Z3 xs) 7) _
  exact r_vret k82_97 rfl ⟨rfl, rfl⟩
set_option maxRecDepth 20000 in
theorem c_115 {d : am_D} {L : Nat} {xs : Nat → Int32} (hd : 1 ≤ d.1) (hw : 60 ≤ d.2) : am_wp d 115 0 [some (.ref 10), some (.ref 2)] [] (hb L 11 383 (Z3 xs) 8) (fun r h' => r = none ∧ h' = (hb L 15 491 (Z3 xs) 13)) := by
  refine r_aload k115_0 rfl ?_
  refine r_oinit k115_1 (by omega) (by omega) (Nat.le_of_ble_eq_true rfl) ?_
  refine r_aload k115_4 rfl ?_
  refine r_pushn (v := (nI 12)) k115_5 rfl ?_
  refine c_newI (k := 12) (n1 := 12) (s1 := 395) k115_7 rfl (by decide) (by decide) rfl rfl rfl rfl rfl ?_
  refine c_putR (m1 := 9) k115_9 rfl (by decide) rfl rfl rfl rfl ?_
  refine r_aload k115_12 rfl ?_
  refine r_pushn (v := (nI 12)) k115_13 rfl ?_
  refine c_newI (k := 12) (n1 := 13) (s1 := 407) k115_15 rfl (by decide) (by decide) rfl rfl rfl rfl rfl ?_
  refine c_putR (m1 := 10) k115_17 rfl (by decide) rfl rfl rfl rfl ?_
  refine r_aload k115_20 rfl ?_
  refine r_pushn (v := (nI 12)) k115_21 rfl ?_
  refine c_newI (k := 12) (n1 := 14) (s1 := 419) k115_23 rfl (by decide) (by decide) rfl rfl rfl rfl rfl ?_
  refine c_putR (m1 := 11) k115_25 rfl (by decide) rfl rfl rfl rfl ?_
  refine r_aload k115_28 rfl ?_
  refine r_pushn (v := (nI 72)) k115_29 rfl ?_
  refine c_newI (k := 72) (n1 := 15) (s1 := 491) k115_31 rfl (by decide) (by decide) rfl rfl rfl rfl rfl ?_
  refine c_putR (m1 := 12) k115_33 rfl (by decide) rfl rfl rfl rfl ?_
  refine r_aload k115_36 rfl ?_
  refine r_pushn (v := (nI 0)) k115_37 rfl ?_
  refine c_put0 k115_38 rfl (by decide) rfl rfl rfl rfl rfl ?_
  refine r_aload k115_41 rfl ?_
  refine r_pushn (v := (nI 0)) k115_42 rfl ?_
  refine c_put0 k115_43 rfl (by decide) rfl rfl rfl rfl rfl ?_
  refine r_aload k115_46 rfl ?_
  refine r_aload k115_47 rfl ?_
  refine c_putR (m1 := 13) k115_48 rfl (by decide) rfl rfl rfl rfl ?_
  exact r_vret k115_51 rfl ⟨rfl, rfl⟩
set_option maxRecDepth 20000 in
theorem c_157_58 {d : am_D} {L : Nat} {xs : Nat → Int32} {Q : Option Value → am_H → Prop} (kx : am_wp d 157 77 [some (.ref 15), none] [] (hb L 22 583 (fil (Z3 xs) 17 16) 20) Q) : ∀ m k, k + m = 16 → am_wp d 157 58 [some (.ref 15), some (.int (nI k))] [] (hb L 22 583 (fil (Z3 xs) 17 k) 20) Q := by
  intro m
  induction m with
  | zero =>
    intro k hk
    refine r_iload k157_58 rfl ?_
    refine r_pushn (v := (nI 16)) k157_59 rfl ?_
    refine r_icmpgeN (by omega) (by decide) k157_61 (fun _ => ?_) (fun z => absurd (by omega) z)
    rw [show k = 16 by omega]
    exact wp_L (L := [some (.ref 15), none]) ⟨Or.inr rfl, Or.inl rfl, True.intro⟩ kx
  | succ m ih =>
    intro k hk
    refine r_iload k157_58 rfl ?_
    refine r_pushn (v := (nI 16)) k157_59 rfl ?_
    refine r_icmpgeN (by omega) (by decide) k157_61 (fun z => by omega) (fun _ => ?_)
    refine r_aload k157_64 rfl ?_
    refine c_getP (b := 17) k157_65 rfl (by decide) rfl rfl ?_
    refine r_iload k157_68 rfl ?_
    refine r_pushn (v := (-1)) k157_69 rfl ?_
    refine c_ist (n' := 16) (j := k) k157_70 rfl rfl (by omega) (by decide) ?_
    rw [fil_s]
    refine r_iinc (v := nI (k + 1)) (L' := [some (.ref 15), some (.int (nI (k + 1)))]) k157_71 rfl (Nat.le_of_ble_eq_true rfl) (nI_1 _) rfl ?_
    refine r_goto k157_74 ?_
    exact ih (k + 1) (by omega)
set_option maxRecDepth 20000 in
theorem c_157 {d : am_D} {L : Nat} {xs : Nat → Int32} (hd : 1 ≤ d.1) (hw : 60 ≤ d.2) : am_wp d 157 0 [some (.ref 15), none] [] (hb L 16 498 (Z3 xs) 14) (fun r h' => r = none ∧ h' = (hb L 22 583 (Z4 xs) 20)) := by
  refine r_aload k157_0 rfl ?_
  refine r_oinit k157_1 (by omega) (by omega) (Nat.le_of_ble_eq_true rfl) ?_
  refine r_aload k157_4 rfl ?_
  refine r_pushn (v := (nI 5)) k157_5 rfl ?_
  refine c_newI (k := 5) (n1 := 17) (s1 := 503) k157_6 rfl (by decide) (by decide) rfl rfl rfl rfl rfl ?_
  refine c_putR (m1 := 15) k157_8 rfl (by decide) rfl rfl rfl rfl ?_
  refine r_aload k157_11 rfl ?_
  refine r_pushn (v := (nI 16)) k157_12 rfl ?_
  refine c_newI (k := 16) (n1 := 18) (s1 := 519) k157_14 rfl (by decide) (by decide) rfl rfl rfl rfl rfl ?_
  refine c_putR (m1 := 16) k157_16 rfl (by decide) rfl rfl rfl rfl ?_
  refine r_aload k157_19 rfl ?_
  refine r_pushn (v := (nI 16)) k157_20 rfl ?_
  refine c_newI (k := 16) (n1 := 19) (s1 := 535) k157_22 rfl (by decide) (by decide) rfl rfl rfl rfl rfl ?_
  refine c_putR (m1 := 17) k157_24 rfl (by decide) rfl rfl rfl rfl ?_
  refine r_aload k157_27 rfl ?_
  refine r_pushn (v := (nI 16)) k157_28 rfl ?_
  refine c_newI (k := 16) (n1 := 20) (s1 := 551) k157_30 rfl (by decide) (by decide) rfl rfl rfl rfl rfl ?_
  refine c_putR (m1 := 18) k157_32 rfl (by decide) rfl rfl rfl rfl ?_
  refine r_aload k157_35 rfl ?_
  refine r_pushn (v := (nI 16)) k157_36 rfl ?_
  refine c_newI (k := 16) (n1 := 21) (s1 := 567) k157_38 rfl (by decide) (by decide) rfl rfl rfl rfl rfl ?_
  refine c_putR (m1 := 19) k157_40 rfl (by decide) rfl rfl rfl rfl ?_
  refine r_aload k157_43 rfl ?_
  refine r_pushn (v := (nI 16)) k157_44 rfl ?_
  refine c_newI (k := 16) (n1 := 22) (s1 := 583) k157_46 rfl (by decide) (by decide) rfl rfl rfl rfl rfl ?_
  refine c_putR (m1 := 20) k157_48 rfl (by decide) rfl rfl rfl rfl ?_
  refine r_aload k157_51 rfl ?_
  refine r_pushn (v := (nI 0)) k157_52 rfl ?_
  refine c_put0 k157_53 rfl (by decide) rfl rfl rfl rfl rfl ?_
  refine r_pushn (v := (nI 0)) k157_56 rfl ?_
  refine r_istore (L' := [some (.ref 15), some (.int (nI 0))]) k157_57 (Nat.le_of_ble_eq_true rfl) rfl ?_
  rw [show (Z3 xs) = fil (Z3 xs) 17 0 from (fil_0 rfl).symm]
  refine c_157_58 ?_ 16 0 rfl
  show am_wp _ _ _ _ _ (hb L 22 583 (Z4 xs) 20) _
  exact r_vret k157_77 rfl ⟨rfl, rfl⟩
set_option maxRecDepth 20000 in
theorem c_129 {d : am_D} {L : Nat} {xs : Nat → Int32} (hd : 1 ≤ d.1) (hw : 60 ≤ d.2) : am_wp d 129 0 [some (.ref 22), some (.ref 2), some (.ref 10), some (.ref 15)] [] (hb L 23 591 (Z4 xs) 21) (fun r h' => r = none ∧ h' = (hb L 27 1337 (Z4 xs) 28)) := by
  refine r_aload k129_0 rfl ?_
  refine r_oinit k129_1 (by omega) (by omega) (Nat.le_of_ble_eq_true rfl) ?_
  refine r_aload k129_4 rfl ?_
  refine r_pushn (v := (nI 720)) k129_5 rfl ?_
  refine c_newQ (k := 720) (n1 := 24) (s1 := 1311) k129_8 rfl (by decide) (by decide) rfl rfl rfl rfl rfl ?_
  refine c_putR (m1 := 22) k129_11 rfl (by decide) rfl rfl rfl rfl ?_
  refine r_aload k129_14 rfl ?_
  refine r_pushn (v := (nI 5)) k129_15 rfl ?_
  refine c_newI (k := 5) (n1 := 25) (s1 := 1316) k129_16 rfl (by decide) (by decide) rfl rfl rfl rfl rfl ?_
  refine c_putR (m1 := 23) k129_18 rfl (by decide) rfl rfl rfl rfl ?_
  refine r_aload k129_21 rfl ?_
  refine r_pushn (v := (nI 5)) k129_22 rfl ?_
  refine c_newI (k := 5) (n1 := 26) (s1 := 1321) k129_23 rfl (by decide) (by decide) rfl rfl rfl rfl rfl ?_
  refine c_putR (m1 := 24) k129_25 rfl (by decide) rfl rfl rfl rfl ?_
  refine r_aload k129_28 rfl ?_
  refine r_pushn (v := (nI 16)) k129_29 rfl ?_
  refine c_newI (k := 16) (n1 := 27) (s1 := 1337) k129_31 rfl (by decide) (by decide) rfl rfl rfl rfl rfl ?_
  refine c_putR (m1 := 25) k129_33 rfl (by decide) rfl rfl rfl rfl ?_
  refine r_aload k129_36 rfl ?_
  refine r_pushn (v := (nI 0)) k129_37 rfl ?_
  refine c_put0 k129_38 rfl (by decide) rfl rfl rfl rfl rfl ?_
  refine r_aload k129_41 rfl ?_
  refine r_aload k129_42 rfl ?_
  refine c_putR (m1 := 26) k129_43 rfl (by decide) rfl rfl rfl rfl ?_
  refine r_aload k129_46 rfl ?_
  refine r_aload k129_47 rfl ?_
  refine c_putR (m1 := 27) k129_48 rfl (by decide) rfl rfl rfl rfl ?_
  refine r_aload k129_51 rfl ?_
  refine r_aload k129_52 rfl ?_
  refine c_putR (m1 := 28) k129_53 rfl (by decide) rfl rfl rfl rfl ?_
  exact r_vret k129_56 rfl ⟨rfl, rfl⟩
set_option maxRecDepth 20000 in
theorem c_76 {d : am_D} {L : Nat} {xs : Nat → Int32} (hd : 1 ≤ d.1) (hw : 60 ≤ d.2) : am_wp d 76 0 [some (.ref 27)] [] (hb L 28 1340 (Z4 xs) 29) (fun r h' => r = none ∧ h' = (hb L 31 1476 (Z4 xs) 32)) := by
  refine r_aload k76_0 rfl ?_
  refine r_oinit k76_1 (by omega) (by omega) (Nat.le_of_ble_eq_true rfl) ?_
  refine r_aload k76_4 rfl ?_
  refine r_pushn (v := (nI 8)) k76_5 rfl ?_
  refine c_newI (k := 8) (n1 := 29) (s1 := 1348) k76_7 rfl (by decide) (by decide) rfl rfl rfl rfl rfl ?_
  refine c_putR (m1 := 30) k76_9 rfl (by decide) rfl rfl rfl rfl ?_
  refine r_aload k76_12 rfl ?_
  refine r_pushn (v := (nI 64)) k76_13 rfl ?_
  refine c_newI (k := 64) (n1 := 30) (s1 := 1412) k76_15 rfl (by decide) (by decide) rfl rfl rfl rfl rfl ?_
  refine c_putR (m1 := 31) k76_17 rfl (by decide) rfl rfl rfl rfl ?_
  refine r_aload k76_20 rfl ?_
  refine r_pushn (v := (nI 64)) k76_21 rfl ?_
  refine c_newI (k := 64) (n1 := 31) (s1 := 1476) k76_23 rfl (by decide) (by decide) rfl rfl rfl rfl rfl ?_
  refine c_putR (m1 := 32) k76_25 rfl (by decide) rfl rfl rfl rfl ?_
  exact r_vret k76_28 rfl ⟨rfl, rfl⟩
set_option maxRecDepth 20000 in
theorem c_172 {d : am_D} {L : Nat} {xs : Nat → Int32} (hd : 1 ≤ d.1) (hw : 60 ≤ d.2) : am_wp d 172 0 [some (.ref 31)] [] (hb L 32 1480 (Z4 xs) 33) (fun r h' => r = none ∧ h' = (hb L 33 1500 (Z4 xs) 34)) := by
  refine r_aload k172_0 rfl ?_
  refine r_oinit k172_1 (by omega) (by omega) (Nat.le_of_ble_eq_true rfl) ?_
  refine r_aload k172_4 rfl ?_
  refine r_pushn (v := (nI 20)) k172_5 rfl ?_
  refine c_newI (k := 20) (n1 := 33) (s1 := 1500) k172_7 rfl (by decide) (by decide) rfl rfl rfl rfl rfl ?_
  refine c_putR (m1 := 34) k172_9 rfl (by decide) rfl rfl rfl rfl ?_
  refine r_aload k172_12 rfl ?_
  refine r_pushn (v := (nI 0)) k172_13 rfl ?_
  refine c_put0 k172_14 rfl (by decide) rfl rfl rfl rfl rfl ?_
  refine r_aload k172_17 rfl ?_
  refine r_pushn (v := (nI 0)) k172_18 rfl ?_
  refine c_put0 k172_19 rfl (by decide) rfl rfl rfl rfl rfl ?_
  refine r_aload k172_22 rfl ?_
  refine r_pushn (v := (nI 0)) k172_23 rfl ?_
  refine c_put0 k172_24 rfl (by decide) rfl rfl rfl rfl rfl ?_
  exact r_vret k172_27 rfl ⟨rfl, rfl⟩
set_option maxRecDepth 20000 in
theorem c_141 {d : am_D} {L : Nat} {xs : Nat → Int32} (hd : 1 ≤ d.1) (hw : 60 ≤ d.2) : am_wp d 141 0 [some (.ref 33), some (.ref 2), some (.ref 10), some (.ref 15), some (.ref 22), some (.ref 27), some (.ref 31)] [] (hb L 34 1518 (Z4 xs) 35) (fun r h' => r = none ∧ h' = (hb L 36 1722 (Z5 xs) 43)) := by
  refine r_aload k141_0 rfl ?_
  refine r_oinit k141_1 (by omega) (by omega) (Nat.le_of_ble_eq_true rfl) ?_
  refine r_aload k141_4 rfl ?_
  refine r_pushn (v := (nI 12)) k141_5 rfl ?_
  refine c_newQ (k := 12) (n1 := 35) (s1 := 1530) k141_7 rfl (by decide) (by decide) rfl rfl rfl rfl rfl ?_
  refine c_putR (m1 := 36) k141_10 rfl (by decide) rfl rfl rfl rfl ?_
  refine r_aload k141_13 rfl ?_
  refine r_pushn (v := (nI 192)) k141_14 rfl ?_
  refine c_newQ (k := 192) (n1 := 36) (s1 := 1722) k141_17 rfl (by decide) (by decide) rfl rfl rfl rfl rfl ?_
  refine c_putR (m1 := 37) k141_20 rfl (by decide) rfl rfl rfl rfl ?_
  refine r_aload k141_23 rfl ?_
  refine r_pushn (v := (nI 0)) k141_24 rfl ?_
  refine c_put0 k141_25 rfl (by decide) rfl rfl rfl rfl rfl ?_
  refine r_aload k141_28 rfl ?_
  refine r_pushn (v := (nI 0)) k141_29 rfl ?_
  refine c_put0 k141_30 rfl (by decide) rfl rfl rfl rfl rfl ?_
  refine r_aload k141_33 rfl ?_
  refine r_pushn (v := (nI 0)) k141_34 rfl ?_
  refine c_put0 k141_35 rfl (by decide) rfl rfl rfl rfl rfl ?_
  refine r_aload k141_38 rfl ?_
  refine r_pushn (v := (nI 0)) k141_39 rfl ?_
  refine c_put0 k141_40 rfl (by decide) rfl rfl rfl rfl rfl ?_
  refine r_aload k141_43 rfl ?_
  refine r_pushn (v := (nI 0)) k141_44 rfl ?_
  refine c_put0 k141_45 rfl (by decide) rfl rfl rfl rfl rfl ?_
  refine r_aload k141_48 rfl ?_
  refine r_pushn (v := (-1)) k141_49 rfl ?_
  refine c_putI k141_50 rfl (by decide) rfl rfl rfl rfl ?_
  show am_wp _ _ _ _ _ (hb L 36 1722 (Z5 xs) 37) _
  refine r_aload k141_53 rfl ?_
  refine r_pushn (v := (nI 0)) k141_54 rfl ?_
  refine c_put0 k141_55 rfl (by decide) rfl rfl rfl rfl rfl ?_
  refine r_aload k141_58 rfl ?_
  refine r_pushn (v := (nI 0)) k141_59 rfl ?_
  refine c_put0 k141_60 rfl (by decide) rfl rfl rfl rfl rfl ?_
  refine r_aload k141_63 rfl ?_
  refine r_pushn (v := (nI 0)) k141_64 rfl ?_
  refine c_put0 k141_65 rfl (by decide) rfl rfl rfl rfl rfl ?_
  refine r_aload k141_68 rfl ?_
  refine r_pushn (v := (nI 0)) k141_69 rfl ?_
  refine c_put0 k141_70 rfl (by decide) rfl rfl rfl rfl rfl ?_
  refine r_aload k141_73 rfl ?_
  refine r_aload k141_74 rfl ?_
  refine c_putR (m1 := 38) k141_75 rfl (by decide) rfl rfl rfl rfl ?_
  refine r_aload k141_78 rfl ?_
  refine r_aload k141_79 rfl ?_
  refine c_putR (m1 := 39) k141_80 rfl (by decide) rfl rfl rfl rfl ?_
  refine r_aload k141_83 rfl ?_
  refine r_aload k141_84 rfl ?_
  refine c_putR (m1 := 40) k141_85 rfl (by decide) rfl rfl rfl rfl ?_
  refine r_aload k141_88 rfl ?_
  refine r_aload k141_89 rfl ?_
  refine c_putR (m1 := 41) k141_91 rfl (by decide) rfl rfl rfl rfl ?_
  refine r_aload k141_94 rfl ?_
  refine r_aload k141_95 rfl ?_
  refine c_putR (m1 := 42) k141_97 rfl (by decide) rfl rfl rfl rfl ?_
  refine r_aload k141_100 rfl ?_
  refine r_aload k141_101 rfl ?_
  refine c_putR (m1 := 43) k141_103 rfl (by decide) rfl rfl rfl rfl ?_
  exact r_vret k141_106 rfl ⟨rfl, rfl⟩
set_option maxRecDepth 20000 in
theorem c_1 {d : am_D} {L : Nat} {xs : Nat → Int32} (hd : 3 ≤ d.1) (hw : 120 ≤ d.2) : am_wp d 1 0 [some (.ref 1)] [] (hb L 2 8 (Z0 xs) 0) (fun r h' => r = none ∧ h' = (hb L 36 1722 (Z5 xs) 44)) := by
  refine r_aload k1_0 rfl ?_
  refine r_oinit k1_1 (by omega) (by omega) (Nat.le_of_ble_eq_true rfl) ?_
  refine r_aload k1_4 rfl ?_
  refine c_new (n1 := 3) (s1 := 16) k1_5 (by decide) rfl rfl rfl rfl rfl ?_
  refine r_dup rfl k1_8 ?_
  refine j_call (ml := 2) k1_9 rfl (by omega) (by omega) ⟨Nat.le_of_ble_eq_true rfl, Nat.le_of_ble_eq_true rfl, b_ob rfl, Nat.le_of_ble_eq_true rfl⟩ rfl (rest := [.ref 2, .ref 1]) rfl (c_82 (by show _ ≤ d.1 - 1; omega) (by show _ ≤ d.2 - (19 + 2); omega)) (fun r h1 hq => ?_)
  obtain ⟨rfl, rfl⟩ := hq
  show am_wp _ _ _ [some (.ref 1)] [.ref 2, .ref 1] _ _
  refine c_putR (m1 := 8) k1_12 rfl (by decide) rfl rfl rfl rfl ?_
  refine r_aload k1_15 rfl ?_
  refine c_new (n1 := 11) (s1 := 383) k1_16 (by decide) rfl rfl rfl rfl rfl ?_
  refine r_dup rfl k1_19 ?_
  refine r_aload k1_20 rfl ?_
  refine c_getP (b := 2) k1_21 rfl (by decide) rfl rfl ?_
  refine j_call (ml := 2) k1_24 rfl (by omega) (by omega) ⟨Nat.le_of_ble_eq_true rfl, Nat.le_of_ble_eq_true rfl, b_ob rfl, Nat.le_of_ble_eq_true rfl⟩ rfl (rest := [.ref 10, .ref 1]) rfl (c_115 (by show _ ≤ d.1 - 1; omega) (by show _ ≤ d.2 - (19 + 2); omega)) (fun r h1 hq => ?_)
  obtain ⟨rfl, rfl⟩ := hq
  show am_wp _ _ _ [some (.ref 1)] [.ref 10, .ref 1] _ _
  refine c_putR (m1 := 14) k1_27 rfl (by decide) rfl rfl rfl rfl ?_
  refine r_aload k1_30 rfl ?_
  refine c_new (n1 := 16) (s1 := 498) k1_31 (by decide) rfl rfl rfl rfl rfl ?_
  refine r_dup rfl k1_34 ?_
  refine j_call (ml := 2) k1_35 rfl (by omega) (by omega) ⟨Nat.le_of_ble_eq_true rfl, Nat.le_of_ble_eq_true rfl, b_ob rfl, Nat.le_of_ble_eq_true rfl⟩ rfl (rest := [.ref 15, .ref 1]) rfl (c_157 (by show _ ≤ d.1 - 1; omega) (by show _ ≤ d.2 - (19 + 2); omega)) (fun r h1 hq => ?_)
  obtain ⟨rfl, rfl⟩ := hq
  show am_wp _ _ _ [some (.ref 1)] [.ref 15, .ref 1] _ _
  refine c_putR (m1 := 21) k1_38 rfl (by decide) rfl rfl rfl rfl ?_
  refine r_aload k1_41 rfl ?_
  refine c_new (n1 := 23) (s1 := 591) k1_42 (by decide) rfl rfl rfl rfl rfl ?_
  refine r_dup rfl k1_45 ?_
  refine r_aload k1_46 rfl ?_
  refine c_getP (b := 2) k1_47 rfl (by decide) rfl rfl ?_
  refine r_aload k1_50 rfl ?_
  refine c_getP (b := 10) k1_51 rfl (by decide) rfl rfl ?_
  refine r_aload k1_54 rfl ?_
  refine c_getP (b := 15) k1_55 rfl (by decide) rfl rfl ?_
  refine j_call (ml := 4) k1_58 rfl (by omega) (by omega) ⟨Nat.le_of_ble_eq_true rfl, Nat.le_of_ble_eq_true rfl, b_ob rfl, Nat.le_of_ble_eq_true rfl⟩ rfl (rest := [.ref 22, .ref 1]) rfl (c_129 (by show _ ≤ d.1 - 1; omega) (by show _ ≤ d.2 - (19 + 4); omega)) (fun r h1 hq => ?_)
  obtain ⟨rfl, rfl⟩ := hq
  show am_wp _ _ _ [some (.ref 1)] [.ref 22, .ref 1] _ _
  refine c_putR (m1 := 29) k1_61 rfl (by decide) rfl rfl rfl rfl ?_
  refine r_aload k1_64 rfl ?_
  refine c_new (n1 := 28) (s1 := 1340) k1_65 (by decide) rfl rfl rfl rfl rfl ?_
  refine r_dup rfl k1_68 ?_
  refine j_call (ml := 1) k1_69 rfl (by omega) (by omega) ⟨Nat.le_of_ble_eq_true rfl, Nat.le_of_ble_eq_true rfl, b_ob rfl, Nat.le_of_ble_eq_true rfl⟩ rfl (rest := [.ref 27, .ref 1]) rfl (c_76 (by show _ ≤ d.1 - 1; omega) (by show _ ≤ d.2 - (19 + 1); omega)) (fun r h1 hq => ?_)
  obtain ⟨rfl, rfl⟩ := hq
  show am_wp _ _ _ [some (.ref 1)] [.ref 27, .ref 1] _ _
  refine c_putR (m1 := 33) k1_72 rfl (by decide) rfl rfl rfl rfl ?_
  refine r_aload k1_75 rfl ?_
  refine c_new (n1 := 32) (s1 := 1480) k1_76 (by decide) rfl rfl rfl rfl rfl ?_
  refine r_dup rfl k1_79 ?_
  refine j_call (ml := 1) k1_80 rfl (by omega) (by omega) ⟨Nat.le_of_ble_eq_true rfl, Nat.le_of_ble_eq_true rfl, b_ob rfl, Nat.le_of_ble_eq_true rfl⟩ rfl (rest := [.ref 31, .ref 1]) rfl (c_172 (by show _ ≤ d.1 - 1; omega) (by show _ ≤ d.2 - (19 + 1); omega)) (fun r h1 hq => ?_)
  obtain ⟨rfl, rfl⟩ := hq
  show am_wp _ _ _ [some (.ref 1)] [.ref 31, .ref 1] _ _
  refine c_putR (m1 := 35) k1_83 rfl (by decide) rfl rfl rfl rfl ?_
  refine r_aload k1_86 rfl ?_
  refine c_new (n1 := 34) (s1 := 1518) k1_87 (by decide) rfl rfl rfl rfl rfl ?_
  refine r_dup rfl k1_90 ?_
  refine r_aload k1_91 rfl ?_
  refine c_getP (b := 2) k1_92 rfl (by decide) rfl rfl ?_
  refine r_aload k1_95 rfl ?_
  refine c_getP (b := 10) k1_96 rfl (by decide) rfl rfl ?_
  refine r_aload k1_99 rfl ?_
  refine c_getP (b := 15) k1_100 rfl (by decide) rfl rfl ?_
  refine r_aload k1_103 rfl ?_
  refine c_getP (b := 22) k1_104 rfl (by decide) rfl rfl ?_
  refine r_aload k1_107 rfl ?_
  refine c_getP (b := 27) k1_108 rfl (by decide) rfl rfl ?_
  refine r_aload k1_111 rfl ?_
  refine c_getP (b := 31) k1_112 rfl (by decide) rfl rfl ?_
  refine j_call (ml := 7) k1_115 rfl (by omega) (by omega) ⟨Nat.le_of_ble_eq_true rfl, Nat.le_of_ble_eq_true rfl, b_ob rfl, Nat.le_of_ble_eq_true rfl⟩ rfl (rest := [.ref 33, .ref 1]) rfl (c_141 (by show _ ≤ d.1 - 1; omega) (by show _ ≤ d.2 - (19 + 7); omega)) (fun r h1 hq => ?_)
  obtain ⟨rfl, rfl⟩ := hq
  show am_wp _ _ _ [some (.ref 1)] [.ref 33, .ref 1] _ _
  refine c_putR (m1 := 44) k1_118 rfl (by decide) rfl rfl rfl rfl ?_
  refine r_aload k1_121 rfl ?_
  refine r_pushn (v := (nI 0)) k1_122 rfl ?_
  refine c_put0 k1_123 rfl (by decide) rfl rfl rfl rfl rfl ?_
  exact r_vret k1_126 rfl ⟨rfl, rfl⟩
set_option maxRecDepth 20000 in
theorem c_30_326 {d : am_D} {L : Nat} {xs : Nat → Int32} {Q : Option Value → am_H → Prop} (kx : am_wp d 30 345 [some (.ref 36), none] [] (hb L 74 6723 (fil (Z7 xs) 50 16) 81) Q) : ∀ m k, k + m = 16 → am_wp d 30 326 [some (.ref 36), some (.int (nI k))] [] (hb L 74 6723 (fil (Z7 xs) 50 k) 81) Q := by
  intro m
  induction m with
  | zero =>
    intro k hk
    refine r_iload k30_326 rfl ?_
    refine r_pushn (v := (nI 16)) k30_327 rfl ?_
    refine r_icmpgeN (by omega) (by decide) k30_329 (fun _ => ?_) (fun z => absurd (by omega) z)
    rw [show k = 16 by omega]
    exact wp_L (L := [some (.ref 36), none]) ⟨Or.inr rfl, Or.inl rfl, True.intro⟩ kx
  | succ m ih =>
    intro k hk
    refine r_iload k30_326 rfl ?_
    refine r_pushn (v := (nI 16)) k30_327 rfl ?_
    refine r_icmpgeN (by omega) (by decide) k30_329 (fun z => by omega) (fun _ => ?_)
    refine r_aload k30_332 rfl ?_
    refine c_getP (b := 50) k30_333 rfl (by decide) rfl rfl ?_
    refine r_iload k30_336 rfl ?_
    refine r_pushn (v := (-1)) k30_337 rfl ?_
    refine c_ist (n' := 16) (j := k) k30_338 rfl rfl (by omega) (by decide) ?_
    rw [fil_s]
    refine r_iinc (v := nI (k + 1)) (L' := [some (.ref 36), some (.int (nI (k + 1)))]) k30_339 rfl (Nat.le_of_ble_eq_true rfl) (nI_1 _) rfl ?_
    refine r_goto k30_342 ?_
    exact ih (k + 1) (by omega)
set_option maxRecDepth 20000 in
theorem c_30_347 {d : am_D} {L : Nat} {xs : Nat → Int32} {Q : Option Value → am_H → Prop} (kx : am_wp d 30 366 [some (.ref 36), none] [] (hb L 74 6723 (fil (Z8 xs) 38 36) 81) Q) : ∀ m k, k + m = 36 → am_wp d 30 347 [some (.ref 36), some (.int (nI k))] [] (hb L 74 6723 (fil (Z8 xs) 38 k) 81) Q := by
  intro m
  induction m with
  | zero =>
    intro k hk
    refine r_iload k30_347 rfl ?_
    refine r_pushn (v := (nI 36)) k30_348 rfl ?_
    refine r_icmpgeN (by omega) (by decide) k30_350 (fun _ => ?_) (fun z => absurd (by omega) z)
    rw [show k = 36 by omega]
    exact wp_L (L := [some (.ref 36), none]) ⟨Or.inr rfl, Or.inl rfl, True.intro⟩ kx
  | succ m ih =>
    intro k hk
    refine r_iload k30_347 rfl ?_
    refine r_pushn (v := (nI 36)) k30_348 rfl ?_
    refine r_icmpgeN (by omega) (by decide) k30_350 (fun z => by omega) (fun _ => ?_)
    refine r_aload k30_353 rfl ?_
    refine c_getP (b := 38) k30_354 rfl (by decide) rfl rfl ?_
    refine r_iload k30_357 rfl ?_
    refine r_pushn (v := (-1)) k30_358 rfl ?_
    refine c_ist (n' := 36) (j := k) k30_359 rfl rfl (by omega) (by decide) ?_
    rw [fil_s]
    refine r_iinc (v := nI (k + 1)) (L' := [some (.ref 36), some (.int (nI (k + 1)))]) k30_360 rfl (Nat.le_of_ble_eq_true rfl) (nI_1 _) rfl ?_
    refine r_goto k30_363 ?_
    exact ih (k + 1) (by omega)
set_option maxRecDepth 20000 in
theorem c_30 {d : am_D} {L : Nat} {xs : Nat → Int32} (hd : 1 ≤ d.1) (hw : 60 ≤ d.2) : am_wp d 30 0 [some (.ref 36), none] [] (hb L 37 1765 (Z5 xs) 44) (fun r h' => r = none ∧ h' = (hb L 74 6723 (Z9 xs) 81)) := by
  refine r_aload k30_0 rfl ?_
  refine r_oinit k30_1 (by omega) (by omega) (Nat.le_of_ble_eq_true rfl) ?_
  refine r_aload k30_4 rfl ?_
  refine r_pushn (v := (nI 12)) k30_5 rfl ?_
  refine c_newZ (k := 12) (n1 := 38) (s1 := 1777) k30_7 rfl (by decide) (by decide) rfl rfl rfl rfl rfl ?_
  refine c_putR (m1 := 45) k30_9 rfl (by decide) rfl rfl rfl rfl ?_
  refine r_aload k30_12 rfl ?_
  refine r_pushn (v := (nI 36)) k30_13 rfl ?_
  refine c_newI (k := 36) (n1 := 39) (s1 := 1813) k30_15 rfl (by decide) (by decide) rfl rfl rfl rfl rfl ?_
  refine c_putR (m1 := 46) k30_17 rfl (by decide) rfl rfl rfl rfl ?_
  refine r_aload k30_20 rfl ?_
  refine r_pushn (v := (nI 144)) k30_21 rfl ?_
  refine c_newI (k := 144) (n1 := 40) (s1 := 1957) k30_24 rfl (by decide) (by decide) rfl rfl rfl rfl rfl ?_
  refine c_putR (m1 := 47) k30_26 rfl (by decide) rfl rfl rfl rfl ?_
  refine r_aload k30_29 rfl ?_
  refine r_pushn (v := (nI 12)) k30_30 rfl ?_
  refine c_newI (k := 12) (n1 := 41) (s1 := 1969) k30_32 rfl (by decide) (by decide) rfl rfl rfl rfl rfl ?_
  refine c_putR (m1 := 48) k30_34 rfl (by decide) rfl rfl rfl rfl ?_
  refine r_aload k30_37 rfl ?_
  refine r_pushn (v := (nI 36)) k30_38 rfl ?_
  refine c_newI (k := 36) (n1 := 42) (s1 := 2005) k30_40 rfl (by decide) (by decide) rfl rfl rfl rfl rfl ?_
  refine c_putR (m1 := 49) k30_42 rfl (by decide) rfl rfl rfl rfl ?_
  refine r_aload k30_45 rfl ?_
  refine r_pushn (v := (nI 12)) k30_46 rfl ?_
  refine c_newI (k := 12) (n1 := 43) (s1 := 2017) k30_48 rfl (by decide) (by decide) rfl rfl rfl rfl rfl ?_
  refine c_putR (m1 := 50) k30_50 rfl (by decide) rfl rfl rfl rfl ?_
  refine r_aload k30_53 rfl ?_
  refine r_pushn (v := (nI 72)) k30_54 rfl ?_
  refine c_newI (k := 72) (n1 := 44) (s1 := 2089) k30_56 rfl (by decide) (by decide) rfl rfl rfl rfl rfl ?_
  refine c_putR (m1 := 51) k30_58 rfl (by decide) rfl rfl rfl rfl ?_
  refine r_aload k30_61 rfl ?_
  refine r_pushn (v := (nI 72)) k30_62 rfl ?_
  refine c_newI (k := 72) (n1 := 45) (s1 := 2161) k30_64 rfl (by decide) (by decide) rfl rfl rfl rfl rfl ?_
  refine c_putR (m1 := 52) k30_66 rfl (by decide) rfl rfl rfl rfl ?_
  refine r_aload k30_69 rfl ?_
  refine r_pushn (v := (nI 12)) k30_70 rfl ?_
  refine c_newI (k := 12) (n1 := 46) (s1 := 2173) k30_72 rfl (by decide) (by decide) rfl rfl rfl rfl rfl ?_
  refine c_putR (m1 := 53) k30_74 rfl (by decide) rfl rfl rfl rfl ?_
  refine r_aload k30_77 rfl ?_
  refine r_pushn (v := (nI 12)) k30_78 rfl ?_
  refine c_newI (k := 12) (n1 := 47) (s1 := 2185) k30_80 rfl (by decide) (by decide) rfl rfl rfl rfl rfl ?_
  refine c_putR (m1 := 54) k30_82 rfl (by decide) rfl rfl rfl rfl ?_
  refine r_aload k30_85 rfl ?_
  refine r_pushn (v := (nI 12)) k30_86 rfl ?_
  refine c_newI (k := 12) (n1 := 48) (s1 := 2197) k30_88 rfl (by decide) (by decide) rfl rfl rfl rfl rfl ?_
  refine c_putR (m1 := 55) k30_90 rfl (by decide) rfl rfl rfl rfl ?_
  refine r_aload k30_93 rfl ?_
  refine r_pushn (v := (nI 72)) k30_94 rfl ?_
  refine c_newI (k := 72) (n1 := 49) (s1 := 2269) k30_96 rfl (by decide) (by decide) rfl rfl rfl rfl rfl ?_
  refine c_putR (m1 := 56) k30_98 rfl (by decide) rfl rfl rfl rfl ?_
  refine r_aload k30_101 rfl ?_
  refine r_pushn (v := (nI 5)) k30_102 rfl ?_
  refine c_newI (k := 5) (n1 := 50) (s1 := 2274) k30_103 rfl (by decide) (by decide) rfl rfl rfl rfl rfl ?_
  refine c_putR (m1 := 57) k30_105 rfl (by decide) rfl rfl rfl rfl ?_
  refine r_aload k30_108 rfl ?_
  refine r_pushn (v := (nI 16)) k30_109 rfl ?_
  refine c_newI (k := 16) (n1 := 51) (s1 := 2290) k30_111 rfl (by decide) (by decide) rfl rfl rfl rfl rfl ?_
  refine c_putR (m1 := 58) k30_113 rfl (by decide) rfl rfl rfl rfl ?_
  refine r_aload k30_116 rfl ?_
  refine r_pushn (v := (nI 16)) k30_117 rfl ?_
  refine c_newI (k := 16) (n1 := 52) (s1 := 2306) k30_119 rfl (by decide) (by decide) rfl rfl rfl rfl rfl ?_
  refine c_putR (m1 := 59) k30_121 rfl (by decide) rfl rfl rfl rfl ?_
  refine r_aload k30_124 rfl ?_
  refine r_pushn (v := (nI 16)) k30_125 rfl ?_
  refine c_newI (k := 16) (n1 := 53) (s1 := 2322) k30_127 rfl (by decide) (by decide) rfl rfl rfl rfl rfl ?_
  refine c_putR (m1 := 60) k30_129 rfl (by decide) rfl rfl rfl rfl ?_
  refine r_aload k30_132 rfl ?_
  refine r_pushn (v := (nI 16)) k30_133 rfl ?_
  refine c_newI (k := 16) (n1 := 54) (s1 := 2338) k30_135 rfl (by decide) (by decide) rfl rfl rfl rfl rfl ?_
  refine c_putR (m1 := 61) k30_137 rfl (by decide) rfl rfl rfl rfl ?_
  refine r_aload k30_140 rfl ?_
  refine r_pushn (v := (nI 16)) k30_141 rfl ?_
  refine c_newI (k := 16) (n1 := 55) (s1 := 2354) k30_143 rfl (by decide) (by decide) rfl rfl rfl rfl rfl ?_
  refine c_putR (m1 := 62) k30_145 rfl (by decide) rfl rfl rfl rfl ?_
  refine r_aload k30_148 rfl ?_
  refine r_pushn (v := (nI 64)) k30_149 rfl ?_
  refine c_newI (k := 64) (n1 := 56) (s1 := 2418) k30_151 rfl (by decide) (by decide) rfl rfl rfl rfl rfl ?_
  refine c_putR (m1 := 63) k30_153 rfl (by decide) rfl rfl rfl rfl ?_
  refine r_aload k30_156 rfl ?_
  refine r_pushn (v := (nI 64)) k30_157 rfl ?_
  refine c_newI (k := 64) (n1 := 57) (s1 := 2482) k30_159 rfl (by decide) (by decide) rfl rfl rfl rfl rfl ?_
  refine c_putR (m1 := 64) k30_161 rfl (by decide) rfl rfl rfl rfl ?_
  refine r_aload k30_164 rfl ?_
  refine r_pushn (v := (nI 8)) k30_165 rfl ?_
  refine c_newI (k := 8) (n1 := 58) (s1 := 2490) k30_167 rfl (by decide) (by decide) rfl rfl rfl rfl rfl ?_
  refine c_putR (m1 := 65) k30_169 rfl (by decide) rfl rfl rfl rfl ?_
  refine r_aload k30_172 rfl ?_
  refine r_pushn (v := (nI 720)) k30_173 rfl ?_
  refine c_newZ (k := 720) (n1 := 59) (s1 := 3210) k30_176 rfl (by decide) (by decide) rfl rfl rfl rfl rfl ?_
  refine c_putR (m1 := 66) k30_178 rfl (by decide) rfl rfl rfl rfl ?_
  refine r_aload k30_181 rfl ?_
  refine r_pushn (v := (nI 832)) k30_182 rfl ?_
  refine c_newI (k := 832) (n1 := 60) (s1 := 4042) k30_185 rfl (by decide) (by decide) rfl rfl rfl rfl rfl ?_
  refine c_putR (m1 := 67) k30_187 rfl (by decide) rfl rfl rfl rfl ?_
  refine r_aload k30_190 rfl ?_
  refine r_pushn (v := (nI 52)) k30_191 rfl ?_
  refine c_newI (k := 52) (n1 := 61) (s1 := 4094) k30_193 rfl (by decide) (by decide) rfl rfl rfl rfl rfl ?_
  refine c_putR (m1 := 68) k30_195 rfl (by decide) rfl rfl rfl rfl ?_
  refine r_aload k30_198 rfl ?_
  refine r_pushn (v := (nI 13)) k30_199 rfl ?_
  refine c_newI (k := 13) (n1 := 62) (s1 := 4107) k30_201 rfl (by decide) (by decide) rfl rfl rfl rfl rfl ?_
  refine c_putR (m1 := 69) k30_203 rfl (by decide) rfl rfl rfl rfl ?_
  refine r_aload k30_206 rfl ?_
  refine r_pushn (v := (nI 13)) k30_207 rfl ?_
  refine c_newI (k := 13) (n1 := 63) (s1 := 4120) k30_209 rfl (by decide) (by decide) rfl rfl rfl rfl rfl ?_
  refine c_putR (m1 := 70) k30_211 rfl (by decide) rfl rfl rfl rfl ?_
  refine r_aload k30_214 rfl ?_
  refine r_pushn (v := (nI 13)) k30_215 rfl ?_
  refine c_newI (k := 13) (n1 := 64) (s1 := 4133) k30_217 rfl (by decide) (by decide) rfl rfl rfl rfl rfl ?_
  refine c_putR (m1 := 71) k30_219 rfl (by decide) rfl rfl rfl rfl ?_
  refine r_aload k30_222 rfl ?_
  refine r_pushn (v := (nI 320)) k30_223 rfl ?_
  refine c_newI (k := 320) (n1 := 65) (s1 := 4453) k30_226 rfl (by decide) (by decide) rfl rfl rfl rfl rfl ?_
  refine c_putR (m1 := 72) k30_228 rfl (by decide) rfl rfl rfl rfl ?_
  refine r_aload k30_231 rfl ?_
  refine r_pushn (v := (nI 320)) k30_232 rfl ?_
  refine c_newI (k := 320) (n1 := 66) (s1 := 4773) k30_235 rfl (by decide) (by decide) rfl rfl rfl rfl rfl ?_
  refine c_putR (m1 := 73) k30_237 rfl (by decide) rfl rfl rfl rfl ?_
  refine r_aload k30_240 rfl ?_
  refine r_pushn (v := (nI 320)) k30_241 rfl ?_
  refine c_newI (k := 320) (n1 := 67) (s1 := 5093) k30_244 rfl (by decide) (by decide) rfl rfl rfl rfl rfl ?_
  refine c_putR (m1 := 74) k30_246 rfl (by decide) rfl rfl rfl rfl ?_
  refine r_aload k30_249 rfl ?_
  refine r_pushn (v := (nI 320)) k30_250 rfl ?_
  refine c_newI (k := 320) (n1 := 68) (s1 := 5413) k30_253 rfl (by decide) (by decide) rfl rfl rfl rfl rfl ?_
  refine c_putR (m1 := 75) k30_255 rfl (by decide) rfl rfl rfl rfl ?_
  refine r_aload k30_258 rfl ?_
  refine r_pushn (v := (nI 320)) k30_259 rfl ?_
  refine c_newI (k := 320) (n1 := 69) (s1 := 5733) k30_262 rfl (by decide) (by decide) rfl rfl rfl rfl rfl ?_
  refine c_putR (m1 := 76) k30_264 rfl (by decide) rfl rfl rfl rfl ?_
  refine r_aload k30_267 rfl ?_
  refine r_pushn (v := (nI 320)) k30_268 rfl ?_
  refine c_newI (k := 320) (n1 := 70) (s1 := 6053) k30_271 rfl (by decide) (by decide) rfl rfl rfl rfl rfl ?_
  refine c_putR (m1 := 77) k30_273 rfl (by decide) rfl rfl rfl rfl ?_
  refine r_aload k30_276 rfl ?_
  refine r_pushn (v := (nI 320)) k30_277 rfl ?_
  refine c_newI (k := 320) (n1 := 71) (s1 := 6373) k30_280 rfl (by decide) (by decide) rfl rfl rfl rfl rfl ?_
  refine c_putR (m1 := 78) k30_282 rfl (by decide) rfl rfl rfl rfl ?_
  refine r_aload k30_285 rfl ?_
  refine r_pushn (v := (nI 320)) k30_286 rfl ?_
  refine c_newI (k := 320) (n1 := 72) (s1 := 6693) k30_289 rfl (by decide) (by decide) rfl rfl rfl rfl rfl ?_
  refine c_putR (m1 := 79) k30_291 rfl (by decide) rfl rfl rfl rfl ?_
  refine r_aload k30_294 rfl ?_
  refine r_pushn (v := (nI 20)) k30_295 rfl ?_
  refine c_newI (k := 20) (n1 := 73) (s1 := 6713) k30_297 rfl (by decide) (by decide) rfl rfl rfl rfl rfl ?_
  refine c_putR (m1 := 80) k30_299 rfl (by decide) rfl rfl rfl rfl ?_
  refine r_aload k30_302 rfl ?_
  refine r_pushn (v := (nI 10)) k30_303 rfl ?_
  refine c_newI (k := 10) (n1 := 74) (s1 := 6723) k30_305 rfl (by decide) (by decide) rfl rfl rfl rfl rfl ?_
  refine c_putR (m1 := 81) k30_307 rfl (by decide) rfl rfl rfl rfl ?_
  refine r_aload k30_310 rfl ?_
  refine c_getP (b := 37) k30_311 rfl (by decide) rfl rfl ?_
  refine r_pushn (v := (nI 0)) k30_314 rfl ?_
  refine r_pushn (v := (nI 1)) k30_315 rfl ?_
  refine c_zst (n' := 12) (j := 0) k30_316 rfl rfl (by decide) (by decide) ?_
  show am_wp _ _ _ _ _ (hb L 74 6723 (Z6 xs) 81) _
  refine r_aload k30_317 rfl ?_
  refine c_getP (b := 40) k30_318 rfl (by decide) rfl rfl ?_
  refine r_pushn (v := (nI 0)) k30_321 rfl ?_
  refine r_pushn (v := (nI 1)) k30_322 rfl ?_
  refine c_ist (n' := 12) (j := 0) k30_323 rfl rfl (by decide) (by decide) ?_
  show am_wp _ _ _ _ _ (hb L 74 6723 (Z7 xs) 81) _
  refine r_pushn (v := (nI 0)) k30_324 rfl ?_
  refine r_istore (L' := [some (.ref 36), some (.int (nI 0))]) k30_325 (Nat.le_of_ble_eq_true rfl) rfl ?_
  rw [show (Z7 xs) = fil (Z7 xs) 50 0 from (fil_0 rfl).symm]
  refine c_30_326 ?_ 16 0 rfl
  show am_wp _ _ _ _ _ (hb L 74 6723 (Z8 xs) 81) _
  refine r_pushn (v := (nI 0)) k30_345 rfl ?_
  refine r_istore (L' := [some (.ref 36), some (.int (nI 0))]) k30_346 (Nat.le_of_ble_eq_true rfl) rfl ?_
  rw [show (Z8 xs) = fil (Z8 xs) 38 0 from (fil_0 rfl).symm]
  refine c_30_347 ?_ 36 0 rfl
  show am_wp _ _ _ _ _ (hb L 74 6723 (Z9 xs) 81) _
  exact r_vret k30_366 rfl ⟨rfl, rfl⟩
