/-! New cells, without their numbers. -/
def xt (h : am_H) (J : Nat → Nat → Int32) (h2 : am_H) (J2 : Nat → Nat → Int32) : Prop := am_n h ≤ am_n h2 ∧ (∀ q, q < am_n h → am_sh h2 q = am_sh h q) ∧ ∀ q, q < am_n h → J2 q = J q
theorem zr_u {J : Nat → Nat → Int32} {q i : Nat} (h : ∀ j, J q j = 0) : ∀ j, am_u2 J q i (nI 0) q j = 0 := fun j => by
  by_cases e : j = i
  · rw [e, am_u2_s]; rfl
  · rw [u2_ne e]; exact h j
theorem zr_r {J : Nat → Nat → Int32} {q : Nat} : ∀ j, am_row J q (fun _ => 0) q j = 0 := fun j => if_pos rfl
theorem zr_o {J K : Nat → Nat → Int32} {q : Nat} (e : K q = J q) (h : ∀ j, J q j = 0) : ∀ j, K q j = 0 := fun j => by rw [e]; exact h j
/-- an effective is made, and stands in the table -/
theorem a_eff {d : am_D} {h : am_H} {J : Nat → Nat → Int32} {Q : Option Value → am_H → Prop} (hB : am_B h) (hT : am_ty2 J) {key : Nat} (hk : key < 720) {l1 l2 l3 l4 l5 l7 : Option Value} (hd : 2 ≤ d.1) (hw : 60 ≤ d.2)
    (K : ∀ h2 J2, am_B h2 → am_ty2 J2 → xt h J h2 J2 → am_n h2 = am_n h + 2 → am_sl h2 = am_sl h + 22 → (∀ q j, q < am_n h → ¬ (q = 23 ∧ j = key) → am_P h2 q j = am_P h q j) → am_P h2 23 key = some (am_n h) → am_P h2 (am_n h) 0 = some (am_n h + 1) → am_ob h2 (am_n h) 9 → am_ay h2 (am_n h + 1) 1 → (am_sh h2 (am_n h + 1)).2.2 = 16 → (∀ j, J2 (am_n h) j = 0) → (∀ j, J2 (am_n h + 1) j = 0) → am_wp d 134 121 [some (.ref 22), l1, l2, l3, l4, l5, some (.int (nI key)), some (.ref (am_n h))] [] (am_si h2 J2) Q) : am_wp d 134 83 [some (.ref 22), l1, l2, l3, l4, l5, some (.int (nI key)), l7] [] (am_si h J) Q := by
  have h74 := hB.1
  refine v_new k134_83 ?_
  refine r_dup rfl k134_86 ?_
  have hB1 : am_B (am_new h (0, 9, 0) (am_nf 9)) := B_new hB
  have he1 : am_ob (am_new h (0, 9, 0) (am_nf 9)) (am_n h) 9 := ob_nw (by omega)
  refine j_call (ml := 1) k134_87 rfl (show 0 < d.1 by omega) (show 19 + 1 ≤ d.2 by omega) ⟨Nat.le_of_ble_eq_true rfl, Nat.le_of_ble_eq_true rfl, he1, Nat.le_of_ble_eq_true rfl⟩ rfl (rest := [.ref (am_n h)]) rfl (l_E_i (Q := fun r h' => r = none ∧ h' = _ ∧ am_ty2 _) hB1 (ty_row hT h74) (am_n h) he1 h74 (show 1 ≤ d.1 - 1 by omega) (show 26 ≤ d.2 - (19 + 1) by omega) (fun hT9 => ⟨rfl, rfl, hT9⟩)) (fun r h1 hq => ?_)
  obtain ⟨rfl, rfl, hT9⟩ := hq
  show am_wp _ _ _ _ [.ref (am_n h)] _ _
  refine r_astore (L' := [some (.ref 22), l1, l2, l3, l4, l5, some (.int (nI key)), some (.ref (am_n h))]) k134_90 (Nat.le_of_ble_eq_true rfl) rfl ?_
  refine r_aload k134_92 rfl ?_
  have hB2 : am_B (am_wP (am_new (am_new h (0, 9, 0) (am_nf 9)) (1, 0, 16) 16) (am_n h) 0 (some (am_n (am_new h (0, 9, 0) (am_nf 9))))) := B_wP (B_new hB1) (Or.inl h74)
  have he2 : am_ob (am_wP (am_new (am_new h (0, 9, 0) (am_nf 9)) (1, 0, 16) 16) (am_n h) 0 (some (am_n (am_new h (0, 9, 0) (am_nf 9))))) (am_n h) 9 := ob_new (w := 16) he1
  refine j_ref (b := 23) k134_93 hB2 rfl ?_
  refine r_iload k134_96 rfl ?_
  refine r_aload k134_98 rfl ?_
  refine v_aas (n := 720) (j := key) k134_100 hB2 rfl (by rw [hB2.2.1 23 (by decide) (by decide)]; exact he2) rfl hk ?_
  refine r_goto k134_101 ?_
  have hB3 := B_wP (j := key) (v := some (am_n h)) hB2 (Or.inr (Or.inl rfl))
  refine K _ _ hB3 hT9 ⟨by show am_n h ≤ am_n h + 2; omega, fun q hq => ?_, fun q hq => ?_⟩ rfl rfl (fun q j hq hj => ?_) wP_s ?_ he2 ⟨by omega, by show am_n h + 1 < am_n h + 2; omega, ?_⟩ ?_ ?_ ?_
  · show am_sh (am_new (am_new h (0, 9, 0) (am_nf 9)) (1, 0, 16) 16) q = _
    rw [nw_o (by show ¬ q = am_n h + 1; omega), nw_o (by omega)]
  · rw [fr_u (by omega), fr_u (by omega), fr_u (by omega), fr_u (by omega), fr_u (by omega), fr_r (by show ¬ q = am_n h + 1; omega), fr_r (by omega)]
  · by_cases e : q = 23
    · rw [e, wP_j (fun z => hj ⟨e, z⟩), wP_o (by omega), nw_P (by show ¬ 23 = am_n h + 1; omega), nw_P (by omega)]
    · rw [wP_o e, wP_o (by omega), nw_P (by show ¬ q = am_n h + 1; omega), nw_P (by omega)]
  · rw [wP_o (by omega), wP_s]; rfl
  · show (am_sh (am_new (am_new h (0, 9, 0) (am_nf 9)) (1, 0, 16) 16) (am_n (am_new h (0, 9, 0) (am_nf 9)))).1 = 1
    rw [nw_s]
  · show (am_sh (am_new (am_new h (0, 9, 0) (am_nf 9)) (1, 0, 16) 16) (am_n (am_new h (0, 9, 0) (am_nf 9)))).2.2 = 16
    rw [nw_s]
  · exact zr_u (zr_u (zr_u (zr_u (zr_u (zr_o (fr_r (by show ¬ am_n h = am_n h + 1; omega)) zr_r)))))
  · exact zr_o ((fr_u (by omega)).trans ((fr_u (by omega)).trans ((fr_u (by omega)).trans ((fr_u (by omega)).trans (fr_u (by omega)))))) (show ∀ j, am_row (am_row J (am_n h) (fun _ => 0)) (am_n h + 1) (fun _ => 0) (am_n h + 1) j = 0 from zr_r)
/-- a frame is made -/
theorem a_frame {d : am_D} {h : am_H} {J : Nat → Nat → Int32} {Q : Option Value → am_H → Prop} (hB : am_B h) (hT : am_ty2 J) {w : Nat} {l2 l3 l4 l5 : Option Value} (hw9 : am_ob h w 8) (ho : jn J 33 9 < 192) (hn : am_P h 35 (jn J 33 9) = none) (hd : 2 ≤ d.1) (hw : 60 ≤ d.2)
    (K : ∀ h2 J2, am_B h2 → am_ty2 J2 → xt h J h2 J2 → am_n h2 = am_n h + 1 → am_sl h2 = am_sl h + 10 → (∀ q j, q < am_n h → ¬ (q = 35 ∧ j = jn J 33 9) → am_P h2 q j = am_P h q j) → am_P h2 35 (jn J 33 9) = some (am_n h) → am_P h2 (am_n h) 0 = some w → am_ob h2 (am_n h) 10 → (∀ j, J2 (am_n h) j = 0) → am_wp d 148 46 [some (.ref 33), some (.ref w), l2, l3, l4, l5] [] (am_si h2 J2) Q) : am_wp d 148 17 [some (.ref 33), some (.ref w), l2, l3, l4, l5] [] (am_si h J) Q := by
  have h74 := hB.1
  have b := ty_f hT (q := 33) (j := 9) (B := 193) (by decide) (by decide)
  refine r_aload k148_17 rfl ?_
  refine j_ref (b := 35) k148_18 hB rfl ?_
  refine r_aload k148_21 rfl ?_
  refine j_get (j := 9) (v := nI (jn J 33 9)) k148_22 hB rfl b.1 ?_
  refine v_aalN (n := 192) (j := jn J 33 9) k148_25 hB rfl rfl ho hn ?_
  refine r_ifnonnullN k148_26 ?_
  refine r_aload k148_29 rfl ?_
  refine j_ref (b := 35) k148_30 hB rfl ?_
  refine r_aload k148_33 rfl ?_
  refine j_get (j := 9) (v := nI (jn J 33 9)) k148_34 hB rfl b.1 ?_
  refine v_new k148_37 ?_
  refine r_dup rfl k148_40 ?_
  refine r_aload k148_41 rfl ?_
  have hB1 : am_B (am_new h (0, 10, 0) (am_nf 10)) := B_new hB
  have he1 : am_ob (am_new h (0, 10, 0) (am_nf 10)) (am_n h) 10 := ob_nw (by omega)
  refine j_call (ml := 2) k148_42 rfl (show 0 < d.1 by omega) (show 19 + 2 ≤ d.2 by omega) ⟨Nat.le_of_ble_eq_true rfl, Nat.le_of_ble_eq_true rfl, he1, Nat.le_of_ble_eq_true rfl⟩ rfl (rest := [.ref (am_n h), .int (nI (jn J 33 9)), .ref 35]) rfl (l_F_i (Q := fun r h' => r = none ∧ h' = _ ∧ am_ty2 _) hB1 (ty_row hT h74) (am_n h) w he1 h74 (ob_new hw9) (show 1 ≤ d.1 - 1 by omega) (show 26 ≤ d.2 - (19 + 2) by omega) (fun hT9 => ⟨rfl, rfl, hT9⟩)) (fun r h1 hq => ?_)
  obtain ⟨rfl, rfl, hT9⟩ := hq
  show am_wp _ _ _ _ [.ref (am_n h), .int (nI (jn J 33 9)), .ref 35] _ _
  have hB2 : am_B (am_wP (am_new h (0, 10, 0) (am_nf 10)) (am_n h) 0 (some w)) := B_wP hB1 (Or.inl h74)
  have he2 : am_ob (am_wP (am_new h (0, 10, 0) (am_nf 10)) (am_n h) 0 (some w)) (am_n h) 10 := he1
  refine v_aas (n := 192) (j := jn J 33 9) k148_45 hB2 rfl (by rw [hB2.2.1 35 (by decide) (by decide)]; exact he2) rfl ho ?_
  have hB3 := B_wP (j := jn J 33 9) (v := some (am_n h)) hB2 (Or.inr (Or.inr (Or.inr rfl)))
  refine K _ _ hB3 hT9 ⟨by show am_n h ≤ am_n h + 1; omega, fun q hq => ?_, fun q hq => ?_⟩ rfl rfl (fun q j hq hj => ?_) wP_s ?_ he2 ?_
  · show am_sh (am_new h (0, 10, 0) (am_nf 10)) q = _
    rw [nw_o (by omega)]
  · rw [fr_u (by omega), fr_u (by omega), fr_u (by omega), fr_u (by omega), fr_u (by omega), fr_u (by omega), fr_u (by omega), fr_u (by omega), fr_u (by omega), fr_r (by omega)]
  · by_cases e : q = 35
    · rw [e, wP_j (fun z => hj ⟨e, z⟩), wP_o (by omega), nw_P (by omega)]
    · rw [wP_o e, wP_o (by omega), nw_P (by omega)]
  · rw [wP_o (by omega), wP_s]
  · exact zr_u (zr_u (zr_u (zr_u (zr_u (zr_u (zr_u (zr_u (zr_u zr_r))))))))
theorem s_W_i {d : am_D} {h : am_H} {J : Nat → Nat → Int32} (hB : am_B h) (hT : am_ty2 J) (w : Nat) (hw9 : am_ob h w 8) (h77 : 74 ≤ w) (hd : 2 ≤ d.1) (hw : 46 ≤ d.2) : am_wp d 176 0 [some (.ref w)] [] (am_si h J) (fun r h' => r = none ∧ h' = am_si (am_wP (am_wP (am_wP (am_new (am_new h (0, 9, 0) (am_nf 9)) (1, 0, 16) 16) (am_n h) 0 (some (am_n h + 1))) w 0 (some (am_n h))) w 1 (some (am_n h))) (am_u2 (am_u2 (am_u2 (am_u2 (am_u2 (am_u2 (am_u2 (am_u2 (am_u2 (am_row (am_row J (am_n h) (fun _ => 0)) (am_n h + 1) (fun _ => 0)) (am_n h) 1 (nI 0)) (am_n h) 2 (nI 0)) (am_n h) 3 (nI 0)) (am_n h) 4 (nI 0)) (am_n h) 5 (nI 0)) w 2 (nI 1)) w 3 (nI 0)) w 4 (nI 0)) w 5 (nI 0)) ∧ am_ty2 (am_u2 (am_u2 (am_u2 (am_u2 (am_u2 (am_u2 (am_u2 (am_u2 (am_u2 (am_row (am_row J (am_n h) (fun _ => 0)) (am_n h + 1) (fun _ => 0)) (am_n h) 1 (nI 0)) (am_n h) 2 (nI 0)) (am_n h) 3 (nI 0)) (am_n h) 4 (nI 0)) (am_n h) 5 (nI 0)) w 2 (nI 1)) w 3 (nI 0)) w 4 (nI 0)) w 5 (nI 0))) := by
  have h74 := hB.1
  refine l_W_i0 hB hT w hw9 h77 hd hw (fun hT1 => ?_)
  have hB1 : am_B (am_new h (0, 9, 0) (am_nf 9)) := B_new hB
  have he1 : am_ob (am_new h (0, 9, 0) (am_nf 9)) (am_n h) 9 := ob_nw (by omega)
  refine j_call (ml := 1) k176_9 rfl (show 0 < d.1 by omega) (show 19 + 1 ≤ d.2 by omega) ⟨Nat.le_of_ble_eq_true rfl, Nat.le_of_ble_eq_true rfl, he1, Nat.le_of_ble_eq_true rfl⟩ rfl (rest := [.ref (am_n h), .ref w]) rfl (l_E_i (Q := fun r h' => r = none ∧ h' = _ ∧ am_ty2 _) hB1 hT1 (am_n h) he1 h74 (show 1 ≤ d.1 - 1 by omega) (show 26 ≤ d.2 - (19 + 1) by omega) (fun hT9 => ⟨rfl, rfl, hT9⟩)) (fun r h1 hq => ?_)
  obtain ⟨rfl, rfl, hT9⟩ := hq
  show am_wp _ _ _ _ [.ref (am_n h), .ref w] _ _
  have hB2 : am_B (am_wP (am_new (am_new h (0, 9, 0) (am_nf 9)) (1, 0, 16) 16) (am_n h) 0 (some (am_n (am_new h (0, 9, 0) (am_nf 9))))) := B_wP (B_new hB1) (Or.inl h74)
  have he2 : am_ob (am_wP (am_new (am_new h (0, 9, 0) (am_nf 9)) (1, 0, 16) 16) (am_n h) 0 (some (am_n (am_new h (0, 9, 0) (am_nf 9))))) (am_n h) 9 := ob_new (w := 16) he1
  have hw2 : am_ob (am_wP (am_new (am_new h (0, 9, 0) (am_nf 9)) (1, 0, 16) 16) (am_n h) 0 (some (am_n (am_new h (0, 9, 0) (am_nf 9))))) w 8 := ob_new (w := 16) (ob_new (w := am_nf 9) hw9)
  exact l_W_i1 hB2 hT9 w (am_n h) hw2 h77 he2 hd hw (fun hT8 => ⟨rfl, rfl, hT8⟩)
/-- a work is made, with its spare -/
theorem a_work {d : am_D} {h : am_H} {J : Nat → Nat → Int32} {Q : Option Value → am_H → Prop} (hB : am_B h) (hT : am_ty2 J) {l1 l2 : Option Value} (h8 : jn J 33 8 < 12) (hn : am_P h 34 (jn J 33 8) = none) (hd : 3 ≤ d.1) (hw : 80 ≤ d.2)
    (K : ∀ h2 J2, am_B h2 → am_ty2 J2 → xt h J h2 J2 → am_n h2 = am_n h + 3 → am_sl h2 = am_sl h + 28 → (∀ q j, q < am_n h → ¬ (q = 34 ∧ j = jn J 33 8) → am_P h2 q j = am_P h q j) → am_P h2 34 (jn J 33 8) = some (am_n h) → am_P h2 (am_n h) 0 = some (am_n h + 1) → am_P h2 (am_n h) 1 = some (am_n h + 1) → am_P h2 (am_n h + 1) 0 = some (am_n h + 2) → am_ob h2 (am_n h) 8 → am_ob h2 (am_n h + 1) 9 → am_ay h2 (am_n h + 2) 1 → (am_sh h2 (am_n h + 2)).2.2 = 16 → (∀ j, J2 (am_n h + 1) j = 0) → (∀ j, J2 (am_n h + 2) j = 0) → am_wp d 147 72 [some (.ref 33), l1, l2] [] (am_si h2 J2) Q) : am_wp d 147 44 [some (.ref 33), l1, l2] [] (am_si h J) Q := by
  have h74 := hB.1
  have b := ty_f hT (q := 33) (j := 8) (B := 13) (by decide) (by decide)
  refine r_aload k147_44 rfl ?_
  refine j_ref (b := 34) k147_45 hB rfl ?_
  refine r_aload k147_48 rfl ?_
  refine j_get (j := 8) (v := nI (jn J 33 8)) k147_49 hB rfl b.1 ?_
  refine v_aalN (n := 12) (j := jn J 33 8) k147_52 hB rfl rfl h8 hn ?_
  refine r_ifnonnullN k147_53 ?_
  refine r_aload k147_56 rfl ?_
  refine j_ref (b := 34) k147_57 hB rfl ?_
  refine r_aload k147_60 rfl ?_
  refine j_get (j := 8) (v := nI (jn J 33 8)) k147_61 hB rfl b.1 ?_
  refine v_new k147_64 ?_
  refine r_dup rfl k147_67 ?_
  have hB1 : am_B (am_new h (0, 8, 0) (am_nf 8)) := B_new hB
  have he1 : am_ob (am_new h (0, 8, 0) (am_nf 8)) (am_n h) 8 := ob_nw (by omega)
  refine j_call (ml := 1) k147_68 rfl (show 0 < d.1 by omega) (show 19 + 1 ≤ d.2 by omega) ⟨Nat.le_of_ble_eq_true rfl, Nat.le_of_ble_eq_true rfl, he1, Nat.le_of_ble_eq_true rfl⟩ rfl (rest := [.ref (am_n h), .int (nI (jn J 33 8)), .ref 34]) rfl (s_W_i hB1 (ty_row hT h74) (am_n h) he1 h74 (show 2 ≤ d.1 - 1 by omega) (show 46 ≤ d.2 - (19 + 1) by omega)) (fun r h1 hq => ?_)
  obtain ⟨rfl, rfl, hT9⟩ := hq
  show am_wp _ _ _ _ [.ref (am_n h), .int (nI (jn J 33 8)), .ref 34] _ _
  have e1 : am_n (am_new h (0, 8, 0) (am_nf 8)) = am_n h + 1 := rfl
  rw [e1] at hT9 ⊢
  have hB2 : am_B (am_wP (am_wP (am_wP (am_new (am_new (am_new h (0, 8, 0) (am_nf 8)) (0, 9, 0) (am_nf 9)) (1, 0, 16) 16) (am_n h + 1) 0 (some (am_n h + 1 + 1))) (am_n h) 0 (some (am_n h + 1))) (am_n h) 1 (some (am_n h + 1))) := B_wP (B_wP (B_wP (B_new (B_new hB1)) (Or.inl (by omega))) (Or.inl h74)) (Or.inl h74)
  have he2 : am_ob (am_wP (am_wP (am_wP (am_new (am_new (am_new h (0, 8, 0) (am_nf 8)) (0, 9, 0) (am_nf 9)) (1, 0, 16) 16) (am_n h + 1) 0 (some (am_n h + 1 + 1))) (am_n h) 0 (some (am_n h + 1))) (am_n h) 1 (some (am_n h + 1))) (am_n h) 8 := ob_new (w := 16) (ob_new (w := am_nf 9) he1)
  have hs2 : am_ob (am_wP (am_wP (am_wP (am_new (am_new (am_new h (0, 8, 0) (am_nf 8)) (0, 9, 0) (am_nf 9)) (1, 0, 16) 16) (am_n h + 1) 0 (some (am_n h + 1 + 1))) (am_n h) 0 (some (am_n h + 1))) (am_n h) 1 (some (am_n h + 1))) (am_n h + 1) 9 := ob_new (w := 16) (ob_nw (h := am_new h (0, 8, 0) (am_nf 8)) (by show 0 < am_n h + 1; omega))
  refine v_aas (n := 12) (j := jn J 33 8) k147_71 hB2 rfl (by rw [hB2.2.1 34 (by decide) (by decide)]; exact he2) rfl h8 ?_
  have hB3 := B_wP (j := jn J 33 8) (v := some (am_n h)) hB2 (Or.inr (Or.inr (Or.inl rfl)))
  refine K _ _ hB3 hT9 ⟨by show am_n h ≤ am_n h + 3; omega, fun q hq => ?_, fun q hq => ?_⟩ rfl rfl (fun q j hq hj => ?_) wP_s ?_ ?_ ?_ he2 hs2 ⟨by omega, by show am_n h + 2 < am_n h + 3; omega, ?_⟩ ?_ ?_ ?_
  · show am_sh (am_new (am_new (am_new h (0, 8, 0) (am_nf 8)) (0, 9, 0) (am_nf 9)) (1, 0, 16) 16) q = _
    rw [nw_o (by show ¬ q = am_n h + 2; omega), nw_o (by show ¬ q = am_n h + 1; omega), nw_o (by omega)]
  · rw [fr_u (by omega), fr_u (by omega), fr_u (by omega), fr_u (by omega), fr_u (by omega), fr_u (by omega), fr_u (by omega), fr_u (by omega), fr_u (by omega), fr_r (by omega), fr_r (by omega), fr_r (by omega)]
  · have g : am_P (am_wP (am_wP (am_wP (am_new (am_new (am_new h (0, 8, 0) (am_nf 8)) (0, 9, 0) (am_nf 9)) (1, 0, 16) 16) (am_n h + 1) 0 (some (am_n h + 1 + 1))) (am_n h) 0 (some (am_n h + 1))) (am_n h) 1 (some (am_n h + 1))) q j = am_P h q j := by
      rw [wP_o (by omega), wP_o (by omega), wP_o (by omega), nw_P (by show ¬ q = am_n h + 2; omega), nw_P (by show ¬ q = am_n h + 1; omega), nw_P (by omega)]
    by_cases e : q = 34
    · rw [← g, e, wP_j (fun z => hj ⟨e, z⟩)]
    · rw [wP_o e, g]
  · rw [wP_o (by omega), wP_j (by decide), wP_s]
  · rw [wP_o (by omega), wP_s]
  · rw [wP_o (by omega), wP_o (by omega), wP_o (by omega), wP_s]
  · show (am_sh (am_new (am_new (am_new h (0, 8, 0) (am_nf 8)) (0, 9, 0) (am_nf 9)) (1, 0, 16) 16) (am_n (am_new (am_new h (0, 8, 0) (am_nf 8)) (0, 9, 0) (am_nf 9)))).1 = 1
    rw [nw_s]
  · show (am_sh (am_new (am_new (am_new h (0, 8, 0) (am_nf 8)) (0, 9, 0) (am_nf 9)) (1, 0, 16) 16) (am_n (am_new (am_new h (0, 8, 0) (am_nf 8)) (0, 9, 0) (am_nf 9)))).2.2 = 16
    rw [nw_s]
  · exact zr_o ((fr_u (by omega)).trans ((fr_u (by omega)).trans ((fr_u (by omega)).trans (fr_u (by omega))))) (zr_u (zr_u (zr_u (zr_u (zr_u (zr_o (fr_r (by omega)) zr_r))))))
  · exact zr_o ((fr_u (by omega)).trans ((fr_u (by omega)).trans ((fr_u (by omega)).trans ((fr_u (by omega)).trans ((fr_u (by omega)).trans ((fr_u (by omega)).trans ((fr_u (by omega)).trans ((fr_u (by omega)).trans (fr_u (by omega)))))))))) (show ∀ j, am_row (am_row (am_row J (am_n h) (fun _ => 0)) (am_n h + 1) (fun _ => 0)) (am_n h + 1 + 1) (fun _ => 0) (am_n h + 1 + 1) j = 0 from zr_r)
