/-! The class: the machine. -/
theorem v_putR {d : am_D} {mi pc nx : Nat} {L : am_L} {st : List Value} {h : am_H} {J : Nat → Nat → Int32} {Q : Option Value → am_H → Prop} {cf q c j b : Nat} (hat : am_at mi pc = some (.putfield cf, nx)) (ho : am_ob h q c) (hc : am_ckW c cf j = true) (k : am_wp d mi nx L st (am_si (am_wP h q j (some b)) J) Q) : am_wp d mi pc L (.ref b :: .ref q :: st) (am_si h J) Q := by
  unfold am_ckW at hc
  simp only [Bool.and_eq_true, decide_eq_true_eq] at hc
  obtain ⟨⟨rfl, rfl, h4⟩, h5⟩ := hc
  exact r_putR hat ho h4 h5 k
theorem wP_o {h : am_H} {q j a b : Nat} {v : Option Nat} (hn : ¬ a = q) : am_P (am_wP h q j v) a b = am_P h a b := if_neg hn
theorem wP_j {h : am_H} {q j b : Nat} {v : Option Nat} (hn : ¬ b = j) : am_P (am_wP h q j v) q b = am_P h q b := (if_pos rfl).trans (if_neg hn)
theorem wP_s {h : am_H} {q j : Nat} {v : Option Nat} : am_P (am_wP h q j v) q j = v := (if_pos rfl).trans (if_pos rfl)
theorem bp_74 : ∀ t ∈ am_bp, t.1 < 74 ∧ t.1 ≠ 23 ∧ t.1 ≠ 34 ∧ t.1 ≠ 35 := by decide
theorem B_wP {h : am_H} {q j : Nat} {v : Option Nat} (hB : am_B h) (hq : 74 ≤ q ∨ q = 23 ∨ q = 34 ∨ q = 35) : am_B (am_wP h q j v) := by
  refine ⟨hB.1, hB.2.1, fun t ht => ?_⟩
  have g := bp_74 t ht
  exact (wP_o (by omega)).trans (hB.2.2 t ht)
noncomputable def M_want (J : Nat → Nat → Int32) (g : Int32) (x : Nat) (y : Int32) : (Nat → Nat → Int32) := (am_u2 (am_u2 (am_u2 J 33 13 g) 33 14 (nI x)) 33 15 y)
set_option maxRecDepth 20000 in
theorem s_M_want {d : am_D} {h : am_H} {J : Nat → Nat → Int32} (hB : am_B h) (hT : am_ty2 J) (g : Int32) (x : Nat) (y : Int32) (hx : x < 12) : am_wp d 146 0 [some (.ref 33), some (.int (g)), some (.int (nI (x))), some (.int (y))] [] (am_si h J) (fun r h' => r = none ∧ h' = am_si h (M_want J g x y) ∧ am_ty2 (M_want J g x y)) := by
  refine r_aload k146_0 rfl ?_
  refine r_iload k146_1 rfl ?_
  refine j_put (j := 13) k146_2 hB rfl rfl ?_
  have hT2 : am_ty2 (am_u2 J 33 13 g) := ty_w hT (tw_u (by decide) (by decide) (by decide))
  refine r_aload k146_5 rfl ?_
  refine r_iload k146_6 rfl ?_
  refine j_put (j := 14) k146_7 hB rfl rfl ?_
  have hT7 : am_ty2 (am_u2 (am_u2 J 33 13 g) 33 14 (nI x)) := ty_w hT2 (tw_f (B := 12) (by decide) (by decide) (by decide) (by omega))
  refine r_aload k146_10 rfl ?_
  refine r_iload k146_11 rfl ?_
  refine j_put (j := 15) k146_12 hB rfl rfl ?_
  have hT12 : am_ty2 (am_u2 (am_u2 (am_u2 J 33 13 g) 33 14 (nI x)) 33 15 y) := ty_w hT7 (tw_u (by decide) (by decide) (by decide))
  have e9 : M_want J g x y = (am_u2 (am_u2 (am_u2 J 33 13 g) 33 14 (nI x)) 33 15 y) := rfl
  exact r_vret k146_15 rfl ⟨rfl, by rw [e9], by rw [e9]; exact hT12⟩
theorem fr_M_want {J : Nat → Nat → Int32} {g : Int32} {x : Nat} {y : Int32} (q : Nat) (hq : ¬ q = 33) : (M_want J g x y) q = J q := by
  unfold M_want
  exact (fr_u (by omega)).trans ((fr_u (by omega)).trans (fr_u (by omega)))
noncomputable def M_ioe (J : Nat → Nat → Int32) (v : Int64) : Int32 × (Nat → Nat → Int32) := (am_ite (w_err v) (((nI 0), am_u2 J 33 11 ((v - (Int64.ofInt 1099511627776)).toInt32))) (((v.toInt32), J)))
set_option maxRecDepth 20000 in
theorem s_M_ioe {d : am_D} {h : am_H} {J : Nat → Nat → Int32} (hB : am_B h) (hT : am_ty2 J) (v : Int64) (hd : 1 ≤ d.1) (hw : 21 ≤ d.2) : am_wp d 152 0 [some (.ref 33), some (.long (v)), none] [] (am_si h J) (fun r h' => r = some (.int (M_ioe J v).1) ∧ h' = am_si h (M_ioe J v).2 ∧ am_ty2 (M_ioe J v).2) := by
  refine r_lload k152_0 rfl ?_
  refine j_call (ml := 2) k152_1 rfl (show 0 < d.1 by omega) (show 19 + 2 ≤ d.2 by omega) ⟨Nat.le_of_ble_eq_true rfl, Nat.le_of_ble_eq_true rfl, True.intro, Nat.le_of_ble_eq_true rfl⟩ rfl (rest := []) rfl (s_w_err v) (fun r h1 hq => ?_)
  obtain ⟨rfl, rfl⟩ := hq
  show am_wp _ _ _ [some (.ref 33), some (.long (v)), none] [.int (am_b (w_err v))] _ _
  refine r_ifeqB k152_4 (fun z4 => ?_) (fun z4 => ?_)
  · refine r_lload k152_19 rfl ?_
    refine r_l2i k152_20 ?_
    have e9 : M_ioe J v = (((v.toInt32), J)) := by unfold M_ioe; rw [am_ite_f z4]
    exact r_iret k152_21 rfl ⟨by rw [e9], by rw [e9], by rw [e9]; exact hT⟩
  · refine r_aload k152_7 rfl ?_
    refine r_lload k152_8 rfl ?_
    refine r_pushl k152_9 ?_
    refine r_lsub k152_12 ?_
    refine r_l2i k152_13 ?_
    refine j_put (j := 11) k152_14 hB rfl rfl ?_
    have hT14 : am_ty2 (am_u2 J 33 11 ((v - (Int64.ofInt 1099511627776)).toInt32)) := ty_w hT (tw_u (by decide) (by decide) (by decide))
    refine r_pushn (v := nI 0) k152_17 rfl ?_
    have e9 : M_ioe J v = (((nI 0), am_u2 J 33 11 ((v - (Int64.ofInt 1099511627776)).toInt32))) := by unfold M_ioe; rw [am_ite_t z4]
    exact r_iret k152_18 rfl ⟨by rw [e9], by rw [e9], by rw [e9]; exact hT14⟩
theorem fr_M_ioe {J : Nat → Nat → Int32} {v : Int64} (q : Nat) (hq : ¬ q = 33) : (M_ioe J v).2 q = J q := by
  unfold M_ioe
  refine fr_i2 (fun _ => ?_) (fun _ => ?_)
  · exact fr_u (by omega)
  · exact rfl
set_option maxRecDepth 20000 in
theorem l_M_open {d : am_D} {h : am_H} {J : Nat → Nat → Int32} {Q : Option Value → am_H → Prop} (hB : am_B h) (hT : am_ty2 J) (f : Nat) (w : Nat) (e : Nat) (u : Nat) (place : Nat) (hf : am_ob h f 10) (h76 : 74 ≤ f) (hpf : am_P h 35 (jn J 33 9) = some f) (ho : jn J 33 9 < 192) (hw9 : am_ob h w 8) (hpw : am_P h w 1 = some e) (he : am_ob h e 9) (hp0 : am_P h e 0 = some u) (hr : am_ay h u 1) (hrl : (am_sh h u).2.2 = 16) (h74 : 74 ≤ e) (h75 : 74 ≤ u) (h77 : 74 ≤ w) (n1 : ¬ e = f) (n2 : ¬ u = f) (n3 : ¬ w = f) (hE : ef_ok J e u) (hp : place < 16) (hd : 2 ≤ d.1) (hw : 47 ≤ d.2) (K1 : ¬ (place = (jn J e 3)) → am_ty2 (am_u2 (am_u2 (am_u2 (am_u2 (am_u2 (am_u2 (am_u2 (am_u2 (am_u2 (am_u2 J 33 9 (nI ((jn J 33 9) + 1))) f 1 (nI place)) f 2 (nI (jn J 21 (jn J u place)))) f 3 (nI 0)) f 4 (nI 0)) f 5 (nI 0)) f 6 (nI 0)) f 7 (nI 0)) f 8 (nI 0)) f 9 (nI 0)) → Q none (am_si (am_wP h f 0 (some w)) (am_u2 (am_u2 (am_u2 (am_u2 (am_u2 (am_u2 (am_u2 (am_u2 (am_u2 (am_u2 J 33 9 (nI ((jn J 33 9) + 1))) f 1 (nI place)) f 2 (nI (jn J 21 (jn J u place)))) f 3 (nI 0)) f 4 (nI 0)) f 5 (nI 0)) f 6 (nI 0)) f 7 (nI 0)) f 8 (nI 0)) f 9 (nI 0)))) (K2 : (place = (jn J e 3)) → am_ty2 (am_u2 (am_u2 (am_u2 (am_u2 (am_u2 (am_u2 (am_u2 (am_u2 (am_u2 (am_u2 J 33 9 (nI ((jn J 33 9) + 1))) f 1 (nI place)) f 2 (nI (jn J 21 (jn J u place)))) f 3 (nI 0)) f 4 (nI 0)) f 5 (nI 0)) f 6 (nI 0)) f 7 (nI (jn J e 2))) f 8 (nI (jn J e 3))) f 9 (nI 1)) → Q none (am_si (am_wP h f 0 (some w)) (am_u2 (am_u2 (am_u2 (am_u2 (am_u2 (am_u2 (am_u2 (am_u2 (am_u2 (am_u2 J 33 9 (nI ((jn J 33 9) + 1))) f 1 (nI place)) f 2 (nI (jn J 21 (jn J u place)))) f 3 (nI 0)) f 4 (nI 0)) f 5 (nI 0)) f 6 (nI 0)) f 7 (nI (jn J e 2))) f 8 (nI (jn J e 3))) f 9 (nI 1)))) : am_wp d 148 46 [some (.ref 33), some (.ref w), some (.int (nI (place))), none, none, none] [] (am_si h J) Q := by
  refine r_aload k148_46 rfl ?_
  refine j_ref (b := 35) k148_47 hB rfl ?_
  refine r_aload k148_50 rfl ?_
  have b51 := ty_f hT (q := 33) (j := 9) (B := 193) (by decide) (by decide)
  refine j_get (j := 9) (v := (nI (jn J 33 9))) k148_51 hB rfl (b51.1) ?_
  refine v_aal (n := 192) (j := (jn J 33 9)) (b := f) k148_54 hB rfl rfl (by omega) hpf ?_
  refine r_astore (L' := [some (.ref 33), some (.ref w), some (.int (nI (place))), some (.ref f), none, none]) k148_55 (Nat.le_of_ble_eq_true rfl) rfl ?_
  refine r_aload k148_56 rfl ?_
  refine r_dup rfl k148_57 ?_
  have b58 := ty_f hT (q := 33) (j := 9) (B := 193) (by decide) (by decide)
  refine j_get (j := 9) (v := (nI (jn J 33 9))) k148_58 hB rfl (b58.1) ?_
  refine r_pushn (v := nI 1) k148_61 rfl ?_
  refine r_iaddN k148_62 ?_
  refine j_put (j := 9) k148_63 hB rfl rfl ?_
  have hT63 : am_ty2 (am_u2 J 33 9 (nI ((jn J 33 9) + 1))) := ty_w hT (tw_f (B := 193) (by decide) (by decide) (by decide) (by omega))
  refine r_aload k148_66 rfl ?_
  refine v_ref (b := e) k148_67 hw9 rfl hpw ?_
  refine r_astore (L' := [some (.ref 33), some (.ref w), some (.int (nI (place))), some (.ref f), some (.ref e), none]) k148_70 (Nat.le_of_ble_eq_true rfl) rfl ?_
  refine r_iload k148_72 rfl ?_
  refine r_aload k148_73 rfl ?_
  have b75 := hE.1 3 (by decide) (by decide)
  refine v_get (j := 3) (v := (nI (jn J e 3))) k148_75 he rfl ((congrFun (fr_u (by omega)) _).trans (b75.1)) ?_
  refine r_icmpneN (by omega) (by omega) k148_78 (fun z78 => ?_) (fun z78 => ?_)
  · refine r_pushn (v := nI 0) k148_85 rfl ?_
    refine r_istore (L' := [some (.ref 33), some (.ref w), some (.int (nI (place))), some (.ref f), some (.ref e), some (.int (nI 0))]) k148_86 (Nat.le_of_ble_eq_true rfl) rfl ?_
    refine r_aload k148_88 rfl ?_
    refine r_aload k148_89 rfl ?_
    refine v_putR (j := 0) (b := w) k148_90 hf rfl ?_
    have hB : am_B (am_wP h f 0 (some w)) := B_wP hB (by omega)
    have hf : am_ob (am_wP h f 0 (some w)) f 10 := hf
    have hw9 : am_ob (am_wP h f 0 (some w)) w 8 := hw9
    have he : am_ob (am_wP h f 0 (some w)) e 9 := he
    have hr : am_ay (am_wP h f 0 (some w)) u 1 := hr
    have hrl : (am_sh (am_wP h f 0 (some w)) u).2.2 = 16 := hrl
    have hpw : am_P (am_wP h f 0 (some w)) w 1 = some e := (wP_o (by omega)).trans hpw
    have hp0 : am_P (am_wP h f 0 (some w)) e 0 = some u := (wP_o (by omega)).trans hp0
    refine r_aload k148_93 rfl ?_
    refine r_iload k148_94 rfl ?_
    refine v_put (j := 1) k148_95 hf rfl rfl ?_
    have hT95 : am_ty2 (am_u2 (am_u2 J 33 9 (nI ((jn J 33 9) + 1))) f 1 (nI place)) := ty_w hT63 (tw_v (by omega))
    refine r_aload k148_98 rfl ?_
    refine r_aload k148_99 rfl ?_
    refine j_ref (b := 15) k148_100 hB rfl ?_
    refine r_aload k148_103 rfl ?_
    refine v_ref (b := u) k148_105 he rfl hp0 ?_
    refine r_iload k148_108 rfl ?_
    have b109 := hE.2 place
    refine v_ald (n := 16) (j := place) (v := (nI (jn J u place))) k148_109 hr hrl (by decide) rfl (by omega) ((congrFun (fr_u (by omega)) _).trans ((congrFun (fr_u (by omega)) _).trans (b109.1))) ?_
    refine j_call (ml := 2) k148_110 rfl (show 0 < d.1 by omega) (show 19 + 2 ≤ d.2 by omega) ⟨Nat.le_of_ble_eq_true rfl, Nat.le_of_ble_eq_true rfl, am_obB hB rfl, Nat.le_of_ble_eq_true rfl⟩ rfl (rest := [.ref f]) rfl (s_M_body hB hT95 (jn J u place) (by omega)) (fun r h1 hq => ?_)
    obtain ⟨rfl, rfl⟩ := hq
    show am_wp _ _ _ [some (.ref 33), some (.ref w), some (.int (nI (place))), some (.ref f), some (.ref e), some (.int (nI 0))] [.int (M_body (am_u2 (am_u2 J 33 9 (nI ((jn J 33 9) + 1))) f 1 (nI place)) (jn J u place)), .ref f] _ _
    rw [show M_body (am_u2 (am_u2 J 33 9 (nI ((jn J 33 9) + 1))) f 1 (nI place)) (jn J u place) = nI (jn J 21 (jn J u place)) from congrArg nI (jn_cg ((fr_u (by omega)).trans (fr_u (by omega))))]
    have b110 := ty_n hT (q := 21) (B := 8) (by decide) (by decide) (jn J u place)
    refine v_put (j := 2) k148_113 hf rfl rfl ?_
    have hT113 : am_ty2 (am_u2 (am_u2 (am_u2 J 33 9 (nI ((jn J 33 9) + 1))) f 1 (nI place)) f 2 (nI (jn J 21 (jn J u place)))) := ty_w hT95 (tw_v (by omega))
    refine r_aload k148_116 rfl ?_
    refine r_pushn (v := nI 0) k148_117 rfl ?_
    refine v_put (j := 3) k148_118 hf rfl rfl ?_
    have hT118 : am_ty2 (am_u2 (am_u2 (am_u2 (am_u2 J 33 9 (nI ((jn J 33 9) + 1))) f 1 (nI place)) f 2 (nI (jn J 21 (jn J u place)))) f 3 (nI 0)) := ty_w hT113 (tw_v (by omega))
    refine r_aload k148_121 rfl ?_
    refine r_pushn (v := nI 0) k148_122 rfl ?_
    refine v_put (j := 4) k148_123 hf rfl rfl ?_
    have hT123 : am_ty2 (am_u2 (am_u2 (am_u2 (am_u2 (am_u2 J 33 9 (nI ((jn J 33 9) + 1))) f 1 (nI place)) f 2 (nI (jn J 21 (jn J u place)))) f 3 (nI 0)) f 4 (nI 0)) := ty_w hT118 (tw_v (by omega))
    refine r_aload k148_126 rfl ?_
    refine r_pushn (v := nI 0) k148_127 rfl ?_
    refine v_putZ (j := 5) k148_128 hf rfl rfl (by decide) (by decide) ?_
    have hT128 : am_ty2 (am_u2 (am_u2 (am_u2 (am_u2 (am_u2 (am_u2 J 33 9 (nI ((jn J 33 9) + 1))) f 1 (nI place)) f 2 (nI (jn J 21 (jn J u place)))) f 3 (nI 0)) f 4 (nI 0)) f 5 (nI 0)) := ty_w hT123 (tw_v (by omega))
    refine r_aload k148_131 rfl ?_
    refine r_pushn (v := nI 0) k148_132 rfl ?_
    refine v_putZ (j := 6) k148_133 hf rfl rfl (by decide) (by decide) ?_
    have hT133 : am_ty2 (am_u2 (am_u2 (am_u2 (am_u2 (am_u2 (am_u2 (am_u2 J 33 9 (nI ((jn J 33 9) + 1))) f 1 (nI place)) f 2 (nI (jn J 21 (jn J u place)))) f 3 (nI 0)) f 4 (nI 0)) f 5 (nI 0)) f 6 (nI 0)) := ty_w hT128 (tw_v (by omega))
    refine r_aload k148_136 rfl ?_
    refine r_iload k148_137 rfl ?_
    refine r_ifeqN (by omega) k148_139 (fun _ => ?_) (fun z => absurd z (by decide))
    refine r_pushn (v := nI 0) k148_150 rfl ?_
    refine v_put (j := 7) k148_151 hf rfl rfl ?_
    have hT151 : am_ty2 (am_u2 (am_u2 (am_u2 (am_u2 (am_u2 (am_u2 (am_u2 (am_u2 J 33 9 (nI ((jn J 33 9) + 1))) f 1 (nI place)) f 2 (nI (jn J 21 (jn J u place)))) f 3 (nI 0)) f 4 (nI 0)) f 5 (nI 0)) f 6 (nI 0)) f 7 (nI 0)) := ty_w hT133 (tw_v (by omega))
    refine r_aload k148_154 rfl ?_
    refine r_iload k148_155 rfl ?_
    refine r_ifeqN (by omega) k148_157 (fun _ => ?_) (fun z => absurd z (by decide))
    refine r_pushn (v := nI 0) k148_168 rfl ?_
    refine v_put (j := 8) k148_169 hf rfl rfl ?_
    have hT169 : am_ty2 (am_u2 (am_u2 (am_u2 (am_u2 (am_u2 (am_u2 (am_u2 (am_u2 (am_u2 J 33 9 (nI ((jn J 33 9) + 1))) f 1 (nI place)) f 2 (nI (jn J 21 (jn J u place)))) f 3 (nI 0)) f 4 (nI 0)) f 5 (nI 0)) f 6 (nI 0)) f 7 (nI 0)) f 8 (nI 0)) := ty_w hT151 (tw_v (by omega))
    refine r_aload k148_172 rfl ?_
    refine r_iload k148_173 rfl ?_
    refine v_putZ (j := 9) k148_175 hf rfl rfl (by decide) (by decide) ?_
    have hT175 : am_ty2 (am_u2 (am_u2 (am_u2 (am_u2 (am_u2 (am_u2 (am_u2 (am_u2 (am_u2 (am_u2 J 33 9 (nI ((jn J 33 9) + 1))) f 1 (nI place)) f 2 (nI (jn J 21 (jn J u place)))) f 3 (nI 0)) f 4 (nI 0)) f 5 (nI 0)) f 6 (nI 0)) f 7 (nI 0)) f 8 (nI 0)) f 9 (nI 0)) := ty_w hT169 (tw_v (by omega))
    exact r_vret k148_178 rfl (K1 z78 hT175)
  · refine r_pushn (v := nI 1) k148_81 rfl ?_
    refine r_goto k148_82 ?_
    refine r_istore (L' := [some (.ref 33), some (.ref w), some (.int (nI (place))), some (.ref f), some (.ref e), some (.int (nI 1))]) k148_86 (Nat.le_of_ble_eq_true rfl) rfl ?_
    refine r_aload k148_88 rfl ?_
    refine r_aload k148_89 rfl ?_
    refine v_putR (j := 0) (b := w) k148_90 hf rfl ?_
    have hB : am_B (am_wP h f 0 (some w)) := B_wP hB (by omega)
    have hf : am_ob (am_wP h f 0 (some w)) f 10 := hf
    have hw9 : am_ob (am_wP h f 0 (some w)) w 8 := hw9
    have he : am_ob (am_wP h f 0 (some w)) e 9 := he
    have hr : am_ay (am_wP h f 0 (some w)) u 1 := hr
    have hrl : (am_sh (am_wP h f 0 (some w)) u).2.2 = 16 := hrl
    have hpw : am_P (am_wP h f 0 (some w)) w 1 = some e := (wP_o (by omega)).trans hpw
    have hp0 : am_P (am_wP h f 0 (some w)) e 0 = some u := (wP_o (by omega)).trans hp0
    refine r_aload k148_93 rfl ?_
    refine r_iload k148_94 rfl ?_
    refine v_put (j := 1) k148_95 hf rfl rfl ?_
    have hT95 : am_ty2 (am_u2 (am_u2 J 33 9 (nI ((jn J 33 9) + 1))) f 1 (nI place)) := ty_w hT63 (tw_v (by omega))
    refine r_aload k148_98 rfl ?_
    refine r_aload k148_99 rfl ?_
    refine j_ref (b := 15) k148_100 hB rfl ?_
    refine r_aload k148_103 rfl ?_
    refine v_ref (b := u) k148_105 he rfl hp0 ?_
    refine r_iload k148_108 rfl ?_
    have b109 := hE.2 place
    refine v_ald (n := 16) (j := place) (v := (nI (jn J u place))) k148_109 hr hrl (by decide) rfl (by omega) ((congrFun (fr_u (by omega)) _).trans ((congrFun (fr_u (by omega)) _).trans (b109.1))) ?_
    refine j_call (ml := 2) k148_110 rfl (show 0 < d.1 by omega) (show 19 + 2 ≤ d.2 by omega) ⟨Nat.le_of_ble_eq_true rfl, Nat.le_of_ble_eq_true rfl, am_obB hB rfl, Nat.le_of_ble_eq_true rfl⟩ rfl (rest := [.ref f]) rfl (s_M_body hB hT95 (jn J u place) (by omega)) (fun r h1 hq => ?_)
    obtain ⟨rfl, rfl⟩ := hq
    show am_wp _ _ _ [some (.ref 33), some (.ref w), some (.int (nI (place))), some (.ref f), some (.ref e), some (.int (nI 1))] [.int (M_body (am_u2 (am_u2 J 33 9 (nI ((jn J 33 9) + 1))) f 1 (nI place)) (jn J u place)), .ref f] _ _
    rw [show M_body (am_u2 (am_u2 J 33 9 (nI ((jn J 33 9) + 1))) f 1 (nI place)) (jn J u place) = nI (jn J 21 (jn J u place)) from congrArg nI (jn_cg ((fr_u (by omega)).trans (fr_u (by omega))))]
    have b110 := ty_n hT (q := 21) (B := 8) (by decide) (by decide) (jn J u place)
    refine v_put (j := 2) k148_113 hf rfl rfl ?_
    have hT113 : am_ty2 (am_u2 (am_u2 (am_u2 J 33 9 (nI ((jn J 33 9) + 1))) f 1 (nI place)) f 2 (nI (jn J 21 (jn J u place)))) := ty_w hT95 (tw_v (by omega))
    refine r_aload k148_116 rfl ?_
    refine r_pushn (v := nI 0) k148_117 rfl ?_
    refine v_put (j := 3) k148_118 hf rfl rfl ?_
    have hT118 : am_ty2 (am_u2 (am_u2 (am_u2 (am_u2 J 33 9 (nI ((jn J 33 9) + 1))) f 1 (nI place)) f 2 (nI (jn J 21 (jn J u place)))) f 3 (nI 0)) := ty_w hT113 (tw_v (by omega))
    refine r_aload k148_121 rfl ?_
    refine r_pushn (v := nI 0) k148_122 rfl ?_
    refine v_put (j := 4) k148_123 hf rfl rfl ?_
    have hT123 : am_ty2 (am_u2 (am_u2 (am_u2 (am_u2 (am_u2 J 33 9 (nI ((jn J 33 9) + 1))) f 1 (nI place)) f 2 (nI (jn J 21 (jn J u place)))) f 3 (nI 0)) f 4 (nI 0)) := ty_w hT118 (tw_v (by omega))
    refine r_aload k148_126 rfl ?_
    refine r_pushn (v := nI 0) k148_127 rfl ?_
    refine v_putZ (j := 5) k148_128 hf rfl rfl (by decide) (by decide) ?_
    have hT128 : am_ty2 (am_u2 (am_u2 (am_u2 (am_u2 (am_u2 (am_u2 J 33 9 (nI ((jn J 33 9) + 1))) f 1 (nI place)) f 2 (nI (jn J 21 (jn J u place)))) f 3 (nI 0)) f 4 (nI 0)) f 5 (nI 0)) := ty_w hT123 (tw_v (by omega))
    refine r_aload k148_131 rfl ?_
    refine r_pushn (v := nI 0) k148_132 rfl ?_
    refine v_putZ (j := 6) k148_133 hf rfl rfl (by decide) (by decide) ?_
    have hT133 : am_ty2 (am_u2 (am_u2 (am_u2 (am_u2 (am_u2 (am_u2 (am_u2 J 33 9 (nI ((jn J 33 9) + 1))) f 1 (nI place)) f 2 (nI (jn J 21 (jn J u place)))) f 3 (nI 0)) f 4 (nI 0)) f 5 (nI 0)) f 6 (nI 0)) := ty_w hT128 (tw_v (by omega))
    refine r_aload k148_136 rfl ?_
    refine r_iload k148_137 rfl ?_
    refine r_ifeqN (by omega) k148_139 (fun z => absurd z (by decide)) (fun _ => ?_)
    refine r_aload k148_142 rfl ?_
    have b144 := hE.1 2 (by decide) (by decide)
    refine v_get (j := 2) (v := (nI (jn J e 2))) k148_144 he rfl ((congrFun (fr_u (by omega)) _).trans ((congrFun (fr_u (by omega)) _).trans ((congrFun (fr_u (by omega)) _).trans ((congrFun (fr_u (by omega)) _).trans ((congrFun (fr_u (by omega)) _).trans ((congrFun (fr_u (by omega)) _).trans ((congrFun (fr_u (by omega)) _).trans (b144.1)))))))) ?_
    refine r_goto k148_147 ?_
    refine v_put (j := 7) k148_151 hf rfl rfl ?_
    have hT151 : am_ty2 (am_u2 (am_u2 (am_u2 (am_u2 (am_u2 (am_u2 (am_u2 (am_u2 J 33 9 (nI ((jn J 33 9) + 1))) f 1 (nI place)) f 2 (nI (jn J 21 (jn J u place)))) f 3 (nI 0)) f 4 (nI 0)) f 5 (nI 0)) f 6 (nI 0)) f 7 (nI (jn J e 2))) := ty_w hT133 (tw_v (by omega))
    refine r_aload k148_154 rfl ?_
    refine r_iload k148_155 rfl ?_
    refine r_ifeqN (by omega) k148_157 (fun z => absurd z (by decide)) (fun _ => ?_)
    refine r_aload k148_160 rfl ?_
    have b162 := hE.1 3 (by decide) (by decide)
    refine v_get (j := 3) (v := (nI (jn J e 3))) k148_162 he rfl ((congrFun (fr_u (by omega)) _).trans ((congrFun (fr_u (by omega)) _).trans ((congrFun (fr_u (by omega)) _).trans ((congrFun (fr_u (by omega)) _).trans ((congrFun (fr_u (by omega)) _).trans ((congrFun (fr_u (by omega)) _).trans ((congrFun (fr_u (by omega)) _).trans ((congrFun (fr_u (by omega)) _).trans (b162.1))))))))) ?_
    refine r_goto k148_165 ?_
    refine v_put (j := 8) k148_169 hf rfl rfl ?_
    have hT169 : am_ty2 (am_u2 (am_u2 (am_u2 (am_u2 (am_u2 (am_u2 (am_u2 (am_u2 (am_u2 J 33 9 (nI ((jn J 33 9) + 1))) f 1 (nI place)) f 2 (nI (jn J 21 (jn J u place)))) f 3 (nI 0)) f 4 (nI 0)) f 5 (nI 0)) f 6 (nI 0)) f 7 (nI (jn J e 2))) f 8 (nI (jn J e 3))) := ty_w hT151 (tw_v (by omega))
    refine r_aload k148_172 rfl ?_
    refine r_iload k148_173 rfl ?_
    refine v_putZ (j := 9) k148_175 hf rfl rfl (by decide) (by decide) ?_
    have hT175 : am_ty2 (am_u2 (am_u2 (am_u2 (am_u2 (am_u2 (am_u2 (am_u2 (am_u2 (am_u2 (am_u2 J 33 9 (nI ((jn J 33 9) + 1))) f 1 (nI place)) f 2 (nI (jn J 21 (jn J u place)))) f 3 (nI 0)) f 4 (nI 0)) f 5 (nI 0)) f 6 (nI 0)) f 7 (nI (jn J e 2))) f 8 (nI (jn J e 3))) f 9 (nI 1)) := ty_w hT169 (tw_v (by omega))
    exact r_vret k148_178 rfl (K2 z78 hT175)
