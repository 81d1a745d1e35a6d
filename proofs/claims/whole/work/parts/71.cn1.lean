/-! New cells. -/
section NEW
variable {d : am_D} {mi pc nx : Nat} {L : am_L} {st : List Value} {h : am_H} {J : Nat → Nat → Int32} {Q : Option Value → am_H → Prop}
theorem v_new {c : Nat} (hat : am_at mi pc = some (.new c, nx)) (k : am_wp d mi nx L (.ref (am_n h) :: st) (am_si (am_new h (0, c, 0) (am_nf c)) (am_row J (am_n h) (fun _ => 0))) Q) : am_wp d mi pc L st (am_si h J) Q := r_new hat k
theorem v_newI {v : Int32} {n : Nat} (hat : am_at mi pc = some (.newarray .int, nx)) (hv : v = nI n) (hn : n * 4 ≤ 536870912) (k : am_wp d mi nx L (.ref (am_n h) :: st) (am_si (am_new h (1, 0, n) n) (am_row J (am_n h) (fun _ => 0))) Q) : am_wp d mi pc L (.int v :: st) (am_si h J) Q := r_newI hat hv hn k
theorem nw_o {q : Nat} {z : am_S} {w : Nat} (hq : ¬ q = am_n h) : am_sh (am_new h z w) q = am_sh h q := if_neg hq
theorem nw_s {z : am_S} {w : Nat} : am_sh (am_new h z w) (am_n h) = z := if_pos rfl
theorem nw_P {q j : Nat} {z : am_S} {w : Nat} (hq : ¬ q = am_n h) : am_P (am_new h z w) q j = am_P h q j := if_neg hq
theorem nw_Ps {j : Nat} {z : am_S} {w : Nat} : am_P (am_new h z w) (am_n h) j = none := if_pos rfl
theorem ob_new {q c : Nat} {z : am_S} {w : Nat} (ho : am_ob h q c) : am_ob (am_new h z w) q c := by
  have e : am_sh (am_new h z w) q = am_sh h q := nw_o (by have := ho.2.1; omega)
  refine ⟨ho.1, Nat.lt_succ_of_lt ho.2.1, ?_, ?_⟩
  · rw [e]; exact ho.2.2.1
  · rw [e]; exact ho.2.2.2
theorem ob_nw {c : Nat} {w : Nat} (ho : 0 < am_n h) : am_ob (am_new h (0, c, 0) w) (am_n h) c := ⟨ho, Nat.lt_succ_self _, by rw [nw_s], by rw [nw_s]⟩
theorem B_new {z : am_S} {w : Nat} (hB : am_B h) : am_B (am_new h z w) := by
  refine ⟨Nat.le_succ_of_le hB.1, fun q a b => ?_, fun t ht => ?_⟩
  · rw [nw_o (by have := hB.1; omega)]; exact hB.2.1 q a b
  · have g := bp_74 t ht
    exact (nw_P (by have := hB.1; omega)).trans (hB.2.2 t ht)
theorem ty_row {n : Nat} (hT : am_ty2 J) (hn : 74 ≤ n) : am_ty2 (am_row J n (fun _ => 0)) := by
  refine ⟨fun t ht j => ?_, fun t ht j => ?_, fun t ht => ?_⟩
  · have g := List.all_eq_true.mp (show am_tn.all (fun t => decide (t.1 < 74)) = true by decide) t ht
    simp at g
    rw [fr_r (by omega)]; exact hT.1 t ht j
  · have g := List.all_eq_true.mp (show am_tm.all (fun t => decide (t.1 < 74)) = true by decide) t ht
    simp at g
    rw [fr_r (by omega)]; exact hT.2.1 t ht j
  · have g := List.all_eq_true.mp (show am_tf.all (fun t => decide (t.1 < 74)) = true by decide) t ht
    simp at g
    rw [fr_r (by omega)]; exact hT.2.2 t ht
theorem v_aas {q n j v : Nat} {i : Int32} (hat : am_at mi pc = some (.aastore, nx)) (hB : am_B h) (hc : am_ckA q 2 n = true) (hv : am_ob h v (am_sh h q).2.1) (hi : i = nI j) (hj : j < n) (k : am_wp d mi nx L st (am_si (am_wP h q j (some v)) J) Q) : am_wp d mi pc L (.ref v :: .int i :: .ref q :: st) (am_si h J) Q := by
  have g := am_ckA_s (J := J) hB hc
  exact r_ast hat g.1 hv g.2.1 hi hj g.2.2 k
end NEW
set_option maxRecDepth 20000 in
theorem l_E_i {d : am_D} {h : am_H} {J : Nat → Nat → Int32} {Q : Option Value → am_H → Prop} (hB : am_B h) (hT : am_ty2 J) (e : Nat) (he : am_ob h e 9) (h74 : 74 ≤ e) (hd : 1 ≤ d.1) (hw : 26 ≤ d.2) (K1 : am_ty2 (am_u2 (am_u2 (am_u2 (am_u2 (am_u2 (am_row J (am_n h) (fun _ => 0)) e 1 (nI 0)) e 2 (nI 0)) e 3 (nI 0)) e 4 (nI 0)) e 5 (nI 0)) → Q none (am_si (am_wP (am_new h (1, 0, 16) 16) e 0 (some (am_n h))) (am_u2 (am_u2 (am_u2 (am_u2 (am_u2 (am_row J (am_n h) (fun _ => 0)) e 1 (nI 0)) e 2 (nI 0)) e 3 (nI 0)) e 4 (nI 0)) e 5 (nI 0)))) : am_wp d 106 0 [some (.ref e)] [] (am_si h J) Q := by
  refine r_aload k106_0 rfl ?_
  refine r_oinit k106_1 (show 0 < d.1 by omega) (show 26 ≤ d.2 by omega) (Nat.le_of_ble_eq_true rfl) ?_
  refine r_aload k106_4 rfl ?_
  refine r_pushn (v := nI 16) k106_5 rfl ?_
  refine v_newI (n := 16) k106_7 rfl (by decide) ?_
  have hT7 : am_ty2 (am_row J (am_n h) (fun _ => 0)) := ty_row hT (hB.1)
  have l7_9 := he.2.1
  have he : am_ob (am_new h (1, 0, 16) 16) e 9 := ob_new he
  have n7 := hB.1
  have hB : am_B (am_new h (1, 0, 16) 16) := B_new hB
  refine v_putR (j := 0) (b := (am_n h)) k106_9 he rfl ?_
  have hB : am_B (am_wP (am_new h (1, 0, 16) 16) e 0 (some (am_n h))) := B_wP hB (by omega)
  have he : am_ob (am_wP (am_new h (1, 0, 16) 16) e 0 (some (am_n h))) e 9 := he
  have hpn9 : am_P (am_wP (am_new h (1, 0, 16) 16) e 0 (some (am_n h))) e 0 = some (am_n h) := wP_s
  refine r_aload k106_12 rfl ?_
  refine r_pushn (v := nI 0) k106_13 rfl ?_
  refine v_put (j := 1) k106_14 he rfl rfl ?_
  have hT14 : am_ty2 (am_u2 (am_row J (am_n h) (fun _ => 0)) e 1 (nI 0)) := ty_w hT7 (tw_v (by omega))
  refine r_aload k106_17 rfl ?_
  refine r_pushn (v := nI 0) k106_18 rfl ?_
  refine v_put (j := 2) k106_19 he rfl rfl ?_
  have hT19 : am_ty2 (am_u2 (am_u2 (am_row J (am_n h) (fun _ => 0)) e 1 (nI 0)) e 2 (nI 0)) := ty_w hT14 (tw_v (by omega))
  refine r_aload k106_22 rfl ?_
  refine r_pushn (v := nI 0) k106_23 rfl ?_
  refine v_put (j := 3) k106_24 he rfl rfl ?_
  have hT24 : am_ty2 (am_u2 (am_u2 (am_u2 (am_row J (am_n h) (fun _ => 0)) e 1 (nI 0)) e 2 (nI 0)) e 3 (nI 0)) := ty_w hT19 (tw_v (by omega))
  refine r_aload k106_27 rfl ?_
  refine r_pushn (v := nI 0) k106_28 rfl ?_
  refine v_put (j := 4) k106_29 he rfl rfl ?_
  have hT29 : am_ty2 (am_u2 (am_u2 (am_u2 (am_u2 (am_row J (am_n h) (fun _ => 0)) e 1 (nI 0)) e 2 (nI 0)) e 3 (nI 0)) e 4 (nI 0)) := ty_w hT24 (tw_v (by omega))
  refine r_aload k106_32 rfl ?_
  refine r_pushn (v := nI 0) k106_33 rfl ?_
  refine v_put (j := 5) k106_34 he rfl rfl ?_
  have hT34 : am_ty2 (am_u2 (am_u2 (am_u2 (am_u2 (am_u2 (am_row J (am_n h) (fun _ => 0)) e 1 (nI 0)) e 2 (nI 0)) e 3 (nI 0)) e 4 (nI 0)) e 5 (nI 0)) := ty_w hT29 (tw_v (by omega))
  exact r_vret k106_37 rfl (K1 hT34)
set_option maxRecDepth 20000 in
theorem l_F_i {d : am_D} {h : am_H} {J : Nat → Nat → Int32} {Q : Option Value → am_H → Prop} (hB : am_B h) (hT : am_ty2 J) (f : Nat) (w : Nat) (hf : am_ob h f 10) (h76 : 74 ≤ f) (hw9 : am_ob h w 8) (hd : 1 ≤ d.1) (hw : 26 ≤ d.2) (K1 : am_ty2 (am_u2 (am_u2 (am_u2 (am_u2 (am_u2 (am_u2 (am_u2 (am_u2 (am_u2 J f 1 (nI 0)) f 2 (nI 0)) f 3 (nI 0)) f 4 (nI 0)) f 5 (nI 0)) f 6 (nI 0)) f 7 (nI 0)) f 8 (nI 0)) f 9 (nI 0)) → Q none (am_si (am_wP h f 0 (some w)) (am_u2 (am_u2 (am_u2 (am_u2 (am_u2 (am_u2 (am_u2 (am_u2 (am_u2 J f 1 (nI 0)) f 2 (nI 0)) f 3 (nI 0)) f 4 (nI 0)) f 5 (nI 0)) f 6 (nI 0)) f 7 (nI 0)) f 8 (nI 0)) f 9 (nI 0)))) : am_wp d 112 0 [some (.ref f), some (.ref w)] [] (am_si h J) Q := by
  refine r_aload k112_0 rfl ?_
  refine r_oinit k112_1 (show 0 < d.1 by omega) (show 26 ≤ d.2 by omega) (Nat.le_of_ble_eq_true rfl) ?_
  refine r_aload k112_4 rfl ?_
  refine r_pushn (v := nI 0) k112_5 rfl ?_
  refine v_put (j := 1) k112_6 hf rfl rfl ?_
  have hT6 : am_ty2 (am_u2 J f 1 (nI 0)) := ty_w hT (tw_v (by omega))
  refine r_aload k112_9 rfl ?_
  refine r_pushn (v := nI 0) k112_10 rfl ?_
  refine v_put (j := 2) k112_11 hf rfl rfl ?_
  have hT11 : am_ty2 (am_u2 (am_u2 J f 1 (nI 0)) f 2 (nI 0)) := ty_w hT6 (tw_v (by omega))
  refine r_aload k112_14 rfl ?_
  refine r_pushn (v := nI 0) k112_15 rfl ?_
  refine v_put (j := 3) k112_16 hf rfl rfl ?_
  have hT16 : am_ty2 (am_u2 (am_u2 (am_u2 J f 1 (nI 0)) f 2 (nI 0)) f 3 (nI 0)) := ty_w hT11 (tw_v (by omega))
  refine r_aload k112_19 rfl ?_
  refine r_pushn (v := nI 0) k112_20 rfl ?_
  refine v_put (j := 4) k112_21 hf rfl rfl ?_
  have hT21 : am_ty2 (am_u2 (am_u2 (am_u2 (am_u2 J f 1 (nI 0)) f 2 (nI 0)) f 3 (nI 0)) f 4 (nI 0)) := ty_w hT16 (tw_v (by omega))
  refine r_aload k112_24 rfl ?_
  refine r_pushn (v := nI 0) k112_25 rfl ?_
  refine v_putZ (j := 5) k112_26 hf rfl rfl (by decide) (by decide) ?_
  have hT26 : am_ty2 (am_u2 (am_u2 (am_u2 (am_u2 (am_u2 J f 1 (nI 0)) f 2 (nI 0)) f 3 (nI 0)) f 4 (nI 0)) f 5 (nI 0)) := ty_w hT21 (tw_v (by omega))
  refine r_aload k112_29 rfl ?_
  refine r_pushn (v := nI 0) k112_30 rfl ?_
  refine v_putZ (j := 6) k112_31 hf rfl rfl (by decide) (by decide) ?_
  have hT31 : am_ty2 (am_u2 (am_u2 (am_u2 (am_u2 (am_u2 (am_u2 J f 1 (nI 0)) f 2 (nI 0)) f 3 (nI 0)) f 4 (nI 0)) f 5 (nI 0)) f 6 (nI 0)) := ty_w hT26 (tw_v (by omega))
  refine r_aload k112_34 rfl ?_
  refine r_pushn (v := nI 0) k112_35 rfl ?_
  refine v_put (j := 7) k112_36 hf rfl rfl ?_
  have hT36 : am_ty2 (am_u2 (am_u2 (am_u2 (am_u2 (am_u2 (am_u2 (am_u2 J f 1 (nI 0)) f 2 (nI 0)) f 3 (nI 0)) f 4 (nI 0)) f 5 (nI 0)) f 6 (nI 0)) f 7 (nI 0)) := ty_w hT31 (tw_v (by omega))
  refine r_aload k112_39 rfl ?_
  refine r_pushn (v := nI 0) k112_40 rfl ?_
  refine v_put (j := 8) k112_41 hf rfl rfl ?_
  have hT41 : am_ty2 (am_u2 (am_u2 (am_u2 (am_u2 (am_u2 (am_u2 (am_u2 (am_u2 J f 1 (nI 0)) f 2 (nI 0)) f 3 (nI 0)) f 4 (nI 0)) f 5 (nI 0)) f 6 (nI 0)) f 7 (nI 0)) f 8 (nI 0)) := ty_w hT36 (tw_v (by omega))
  refine r_aload k112_44 rfl ?_
  refine r_pushn (v := nI 0) k112_45 rfl ?_
  refine v_putZ (j := 9) k112_46 hf rfl rfl (by decide) (by decide) ?_
  have hT46 : am_ty2 (am_u2 (am_u2 (am_u2 (am_u2 (am_u2 (am_u2 (am_u2 (am_u2 (am_u2 J f 1 (nI 0)) f 2 (nI 0)) f 3 (nI 0)) f 4 (nI 0)) f 5 (nI 0)) f 6 (nI 0)) f 7 (nI 0)) f 8 (nI 0)) f 9 (nI 0)) := ty_w hT41 (tw_v (by omega))
  refine r_aload k112_49 rfl ?_
  refine r_aload k112_50 rfl ?_
  refine v_putR (j := 0) (b := w) k112_51 hf rfl ?_
  have hB : am_B (am_wP h f 0 (some w)) := B_wP hB (by omega)
  have hf : am_ob (am_wP h f 0 (some w)) f 10 := hf
  have hw9 : am_ob (am_wP h f 0 (some w)) w 8 := hw9
  have hpn51 : am_P (am_wP h f 0 (some w)) f 0 = some w := wP_s
  exact r_vret k112_54 rfl (K1 hT46)
set_option maxRecDepth 20000 in
theorem l_W_i0 {d : am_D} {h : am_H} {J : Nat → Nat → Int32} {Q : Option Value → am_H → Prop} (hB : am_B h) (hT : am_ty2 J) (w : Nat) (hw9 : am_ob h w 8) (h77 : 74 ≤ w) (hd : 2 ≤ d.1) (hw : 46 ≤ d.2) (K1 : am_ty2 (am_row J (am_n h) (fun _ => 0)) → am_wp d 176 9 [some (.ref w)] [.ref ((am_n h)), .ref ((am_n h)), .ref w] (am_si (am_new h (0, 9, 0) (am_nf 9)) (am_row J (am_n h) (fun _ => 0))) Q) : am_wp d 176 0 [some (.ref w)] [] (am_si h J) Q := by
  refine r_aload k176_0 rfl ?_
  refine r_oinit k176_1 (show 0 < d.1 by omega) (show 26 ≤ d.2 by omega) (Nat.le_of_ble_eq_true rfl) ?_
  refine r_aload k176_4 rfl ?_
  refine v_new k176_5 ?_
  have hT5 : am_ty2 (am_row J (am_n h) (fun _ => 0)) := ty_row hT (hB.1)
  have l5_8 := hw9.2.1
  have hw9 : am_ob (am_new h (0, 9, 0) (am_nf 9)) w 8 := ob_new hw9
  have n5 := hB.1
  have hB : am_B (am_new h (0, 9, 0) (am_nf 9)) := B_new hB
  have q5 : am_ob (am_new h (0, 9, 0) (am_nf 9)) (am_n h) 9 := ob_nw (by omega)
  refine r_dup rfl k176_8 ?_
  exact K1 hT5
set_option maxRecDepth 20000 in
theorem l_W_i1 {d : am_D} {h : am_H} {J : Nat → Nat → Int32} {Q : Option Value → am_H → Prop} (hB : am_B h) (hT : am_ty2 J) (w : Nat) (e : Nat) (hw9 : am_ob h w 8) (h77 : 74 ≤ w) (he : am_ob h e 9) (hd : 2 ≤ d.1) (hw : 46 ≤ d.2) (K1 : am_ty2 (am_u2 (am_u2 (am_u2 (am_u2 J w 2 (nI 1)) w 3 (nI 0)) w 4 (nI 0)) w 5 (nI 0)) → Q none (am_si (am_wP (am_wP h w 0 (some e)) w 1 (some e)) (am_u2 (am_u2 (am_u2 (am_u2 J w 2 (nI 1)) w 3 (nI 0)) w 4 (nI 0)) w 5 (nI 0)))) : am_wp d 176 12 [some (.ref w)] [.ref e, .ref w] (am_si h J) Q := by
  refine v_putR (j := 0) (b := e) k176_12 hw9 rfl ?_
  have hB : am_B (am_wP h w 0 (some e)) := B_wP hB (by omega)
  have hw9 : am_ob (am_wP h w 0 (some e)) w 8 := hw9
  have he : am_ob (am_wP h w 0 (some e)) e 9 := he
  have hpn12 : am_P (am_wP h w 0 (some e)) w 0 = some e := wP_s
  refine r_aload k176_15 rfl ?_
  refine r_aload k176_16 rfl ?_
  refine v_ref (b := e) k176_17 hw9 rfl hpn12 ?_
  refine v_putR (j := 1) (b := e) k176_20 hw9 rfl ?_
  have hB : am_B (am_wP (am_wP h w 0 (some e)) w 1 (some e)) := B_wP hB (by omega)
  have hw9 : am_ob (am_wP (am_wP h w 0 (some e)) w 1 (some e)) w 8 := hw9
  have he : am_ob (am_wP (am_wP h w 0 (some e)) w 1 (some e)) e 9 := he
  have hpn12 : am_P (am_wP (am_wP h w 0 (some e)) w 1 (some e)) w 0 = some e := (wP_j (by decide)).trans hpn12
  have hpn20 : am_P (am_wP (am_wP h w 0 (some e)) w 1 (some e)) w 1 = some e := wP_s
  refine r_aload k176_23 rfl ?_
  refine r_pushn (v := nI 1) k176_24 rfl ?_
  refine v_put (j := 2) k176_25 hw9 rfl rfl ?_
  have hT25 : am_ty2 (am_u2 J w 2 (nI 1)) := ty_w hT (tw_v (by omega))
  refine r_aload k176_28 rfl ?_
  refine r_pushn (v := nI 0) k176_29 rfl ?_
  refine v_put (j := 3) k176_30 hw9 rfl rfl ?_
  have hT30 : am_ty2 (am_u2 (am_u2 J w 2 (nI 1)) w 3 (nI 0)) := ty_w hT25 (tw_v (by omega))
  refine r_aload k176_33 rfl ?_
  refine r_pushn (v := nI 0) k176_34 rfl ?_
  refine v_put (j := 4) k176_35 hw9 rfl rfl ?_
  have hT35 : am_ty2 (am_u2 (am_u2 (am_u2 J w 2 (nI 1)) w 3 (nI 0)) w 4 (nI 0)) := ty_w hT30 (tw_v (by omega))
  refine r_aload k176_38 rfl ?_
  refine r_pushn (v := nI 0) k176_39 rfl ?_
  refine v_put (j := 5) k176_40 hw9 rfl rfl ?_
  have hT40 : am_ty2 (am_u2 (am_u2 (am_u2 (am_u2 J w 2 (nI 1)) w 3 (nI 0)) w 4 (nI 0)) w 5 (nI 0)) := ty_w hT35 (tw_v (by omega))
  exact r_vret k176_43 rfl (K1 hT40)
