/-! Rules over cells that are variables. -/
def am_ckV (c cf j : Nat) : Bool := decide (cf / 64 = c ∧ cf % 64 = j ∧ cf % 64 < am_nf (cf / 64)) && !am_rf (cf / 64) (cf % 64) && !am_lg (cf / 64) (cf % 64)
def am_ckW (c cf j : Nat) : Bool := decide (cf / 64 = c ∧ cf % 64 = j ∧ cf % 64 < am_nf (cf / 64)) && am_rf (cf / 64) (cf % 64)
section VRU
variable {d : am_D} {mi pc nx : Nat} {L : am_L} {st : List Value} {h : am_H} {J : Nat → Nat → Int32} {Q : Option Value → am_H → Prop}
theorem v_get {cf q c j : Nat} {v : Int32} (hat : am_at mi pc = some (.getfield cf, nx)) (ho : am_ob h q c) (hc : am_ckV c cf j = true) (hv : J q j = v) (k : am_wp d mi nx L (.int v :: st) (am_si h J) Q) : am_wp d mi pc L (.ref q :: st) (am_si h J) Q := by
  subst hv
  unfold am_ckV at hc
  simp only [Bool.and_eq_true, decide_eq_true_eq, Bool.not_eq_true'] at hc
  obtain ⟨⟨⟨rfl, rfl, h4⟩, h5⟩, h6⟩ := hc
  exact r_getI hat ho h4 h5 h6 k
theorem v_ref {cf q c j b : Nat} (hat : am_at mi pc = some (.getfield cf, nx)) (ho : am_ob h q c) (hc : am_ckW c cf j = true) (hp : am_P h q j = some b) (k : am_wp d mi nx L (.ref b :: st) (am_si h J) Q) : am_wp d mi pc L (.ref q :: st) (am_si h J) Q := by
  unfold am_ckW at hc
  simp only [Bool.and_eq_true, decide_eq_true_eq] at hc
  obtain ⟨⟨rfl, rfl, h4⟩, h5⟩ := hc
  exact r_getP hat ho h4 h5 hp k
theorem v_put {cf q c j : Nat} {x : Int32} (hat : am_at mi pc = some (.putfield cf, nx)) (ho : am_ob h q c) (hc : am_ckV c cf j = true) (ht : am_ty (cf / 64) (cf % 64) = .int) (k : am_wp d mi nx L st (am_si h (am_u2 J q j x)) Q) : am_wp d mi pc L (.int x :: .ref q :: st) (am_si h J) Q := by
  unfold am_ckV at hc
  simp only [Bool.and_eq_true, decide_eq_true_eq, Bool.not_eq_true'] at hc
  obtain ⟨⟨⟨rfl, rfl, h4⟩, h5⟩, h6⟩ := hc
  exact r_putI hat ho h4 h5 h6 (by rw [ht]; rfl) (by rw [ht]; rfl) k
theorem v_putZ {cf q c j : Nat} {x : Int32} (hat : am_at mi pc = some (.putfield cf, nx)) (ho : am_ob h q c) (hc : am_ckV c cf j = true) (ht : am_ty (cf / 64) (cf % 64) = .boolean) (hx : vp_nar .boolean x = x) (hf : fits .boolean (.int x) = true) (k : am_wp d mi nx L st (am_si h (am_u2 J q j x)) Q) : am_wp d mi pc L (.int x :: .ref q :: st) (am_si h J) Q := by
  unfold am_ckV at hc
  simp only [Bool.and_eq_true, decide_eq_true_eq, Bool.not_eq_true'] at hc
  obtain ⟨⟨⟨rfl, rfl, h4⟩, h5⟩, h6⟩ := hc
  exact r_putI hat ho h4 h5 h6 (by rw [ht]; show Value.int (vp_nar .boolean x) = _; rw [hx]) (by rw [ht]; exact hf) k
theorem v_ald {q n j : Nat} {i v : Int32} (hat : am_at mi pc = some (.iaload, nx)) (ha : am_ay h q 1) (hl : (am_sh h q).2.2 = n) (hn : n < 2 ^ 31) (hi : i = nI j) (hj : j < n) (hv : J q j = v) (k : am_wp d mi nx L (.int v :: st) (am_si h J) Q) : am_wp d mi pc L (.int i :: .ref q :: st) (am_si h J) Q := by
  subst hv
  exact r_ild hat ha hl hi hj hn k
theorem v_ast {q n j : Nat} {i x : Int32} (hat : am_at mi pc = some (.iastore, nx)) (ha : am_ay h q 1) (hl : (am_sh h q).2.2 = n) (hn : n < 2 ^ 31) (hi : i = nI j) (hj : j < n) (k : am_wp d mi nx L st (am_si h (am_u2 J q j x)) Q) : am_wp d mi pc L (.int x :: .int i :: .ref q :: st) (am_si h J) Q := r_ist hat ha hl hi hj hn k
theorem v_aal {q n j b : Nat} {i : Int32} (hat : am_at mi pc = some (.aaload, nx)) (hB : am_B h) (hc : am_ckA q 2 n = true) (hi : i = nI j) (hj : j < n) (hp : am_P h q j = some b) (k : am_wp d mi nx L (.ref b :: st) (am_si h J) Q) : am_wp d mi pc L (.int i :: .ref q :: st) (am_si h J) Q := by
  have g := am_ckA_s (J := J) hB hc
  exact r_ald hat g.1 g.2.1 hi hj g.2.2 (by show am_wp d mi nx L (va_rf (am_P h q j) :: st) _ Q; rw [hp]; exact k)
theorem v_aalN {q n j : Nat} {i : Int32} (hat : am_at mi pc = some (.aaload, nx)) (hB : am_B h) (hc : am_ckA q 2 n = true) (hi : i = nI j) (hj : j < n) (hp : am_P h q j = none) (k : am_wp d mi nx L (.null :: st) (am_si h J) Q) : am_wp d mi pc L (.int i :: .ref q :: st) (am_si h J) Q := by
  have g := am_ckA_s (J := J) hB hc
  exact r_ald hat g.1 g.2.1 hi hj g.2.2 (by show am_wp d mi nx L (va_rf (am_P h q j) :: st) _ Q; rw [hp]; exact k)
end VRU
theorem tw_v {q j : Nat} {x : Int32} (h : 74 ≤ q) : am_tw2 q j x := by
  refine ⟨fun t ht e => ?_, fun t ht e => ?_, fun t ht e => ?_⟩
  · have g := List.all_eq_true.mp (show am_tn.all (fun t => decide (t.1 < 74)) = true by decide) t ht
    simp at g
    omega
  · have g := List.all_eq_true.mp (show am_tm.all (fun t => decide (t.1 < 74)) = true by decide) t ht
    simp at g
    omega
  · have g := List.all_eq_true.mp (show am_tf.all (fun t => decide (t.1 < 74)) = true by decide) t ht
    simp at g
    omega
noncomputable def E_has (J : Nat → Nat → Int32) (e : Nat) : Prop := (am_ite ((jn J e 4) ≤ (jn J e 3)) ((False)) ((True)))
set_option maxRecDepth 20000 in
theorem s_E_has {d : am_D} {h : am_H} {J : Nat → Nat → Int32} (hB : am_B h) (hT : am_ty2 J) (e : Nat) (he : am_ob h e 9) (e1 : J e 1 = nI (jn J e 1) ∧ jn J e 1 ≤ 16) (e2 : J e 2 = nI (jn J e 2) ∧ jn J e 2 ≤ 16) (e3 : J e 3 = nI (jn J e 3) ∧ jn J e 3 ≤ 16) (e4 : J e 4 = nI (jn J e 4) ∧ jn J e 4 ≤ 16) : am_wp d 108 0 [some (.ref e)] [] (am_si h J) (fun r h' => r = some (.int (am_b (E_has J e))) ∧ h' = (am_si h J)) := by
  refine r_aload k108_0 rfl ?_
  refine v_get (j := 3) (v := (nI (jn J e 3))) k108_1 he rfl (e3.1) ?_
  refine r_aload k108_4 rfl ?_
  refine v_get (j := 4) (v := (nI (jn J e 4))) k108_5 he rfl (e4.1) ?_
  refine r_icmpgeN (by omega) (by omega) k108_8 (fun z8 => ?_) (fun z8 => ?_)
  · refine r_pushn (v := nI 0) k108_15 rfl ?_
    have e9 : E_has J e = ((False)) := by unfold E_has; rw [am_ite_t z8]
    exact r_zret k108_16 rfl (by decide) ⟨by rw [e9, am_b_f (fun q => q)]; rfl, rfl⟩
  · refine r_pushn (v := nI 1) k108_11 rfl ?_
    refine r_goto k108_12 ?_
    have e9 : E_has J e = ((True)) := by unfold E_has; rw [am_ite_f z8]
    exact r_zret k108_16 rfl (by decide) ⟨by rw [e9, am_b_t True.intro]; rfl, rfl⟩
noncomputable def E_first (J : Nat → Nat → Int32) (e : Nat) : Int32 := (am_ite ((jn J e 2) = 0) (((nI (jn J e 3)))) (((nI 0))))
set_option maxRecDepth 20000 in
theorem s_E_first {d : am_D} {h : am_H} {J : Nat → Nat → Int32} (hB : am_B h) (hT : am_ty2 J) (e : Nat) (he : am_ob h e 9) (e1 : J e 1 = nI (jn J e 1) ∧ jn J e 1 ≤ 16) (e2 : J e 2 = nI (jn J e 2) ∧ jn J e 2 ≤ 16) (e3 : J e 3 = nI (jn J e 3) ∧ jn J e 3 ≤ 16) (e4 : J e 4 = nI (jn J e 4) ∧ jn J e 4 ≤ 16) : am_wp d 109 0 [some (.ref e)] [] (am_si h J) (fun r h' => r = some (.int (E_first J e)) ∧ h' = (am_si h J)) := by
  refine r_aload k109_0 rfl ?_
  refine v_get (j := 2) (v := (nI (jn J e 2))) k109_1 he rfl (e2.1) ?_
  refine r_ifleN (by omega) k109_4 (fun z4 => ?_) (fun z4 => ?_)
  · refine r_aload k109_11 rfl ?_
    refine v_get (j := 3) (v := (nI (jn J e 3))) k109_12 he rfl (e3.1) ?_
    have e9 : E_first J e = (((nI (jn J e 3)))) := by unfold E_first; rw [am_ite_t z4]
    exact r_iret k109_15 rfl ⟨by rw [e9], rfl⟩
  · refine r_pushn (v := nI 0) k109_7 rfl ?_
    refine r_goto k109_8 ?_
    have e9 : E_first J e = (((nI 0))) := by unfold E_first; rw [am_ite_f z4]
    exact r_iret k109_15 rfl ⟨by rw [e9], rfl⟩
noncomputable def E_next (J : Nat → Nat → Int32) (e : Nat) (p : Nat) : Int32 := (am_ite ((jn J e 2) ≤ p) (am_ite (p < (jn J e 3)) ((((-1)))) (am_ite ((jn J e 4) ≤ (p + 1)) ((((-1)))) (((nI (p + 1)))))) (am_ite ((jn J e 2) ≤ (p + 1)) (((nI (jn J e 3)))) (((nI (p + 1))))))
set_option maxRecDepth 20000 in
theorem s_E_next {d : am_D} {h : am_H} {J : Nat → Nat → Int32} (hB : am_B h) (hT : am_ty2 J) (e : Nat) (p : Nat) (he : am_ob h e 9) (e1 : J e 1 = nI (jn J e 1) ∧ jn J e 1 ≤ 16) (e2 : J e 2 = nI (jn J e 2) ∧ jn J e 2 ≤ 16) (e3 : J e 3 = nI (jn J e 3) ∧ jn J e 3 ≤ 16) (e4 : J e 4 = nI (jn J e 4) ∧ jn J e 4 ≤ 16) (hp : p < 16) : am_wp d 110 0 [some (.ref e), some (.int (nI (p)))] [] (am_si h J) (fun r h' => r = some (.int (E_next J e p)) ∧ h' = (am_si h J)) := by
  refine r_iload k110_0 rfl ?_
  refine r_aload k110_1 rfl ?_
  refine v_get (j := 2) (v := (nI (jn J e 2))) k110_2 he rfl (e2.1) ?_
  refine r_icmpgeN (by omega) (by omega) k110_5 (fun z5 => ?_) (fun z5 => ?_)
  · refine r_iload k110_29 rfl ?_
    refine r_aload k110_30 rfl ?_
    refine v_get (j := 3) (v := (nI (jn J e 3))) k110_31 he rfl (e3.1) ?_
    refine r_icmpltN (by omega) (by omega) k110_34 (fun z34 => ?_) (fun z34 => ?_)
    · refine r_pushn (v := (-1)) k110_53 rfl ?_
      have e9 : E_next J e p = ((((-1)))) := by unfold E_next; rw [am_ite_t z5, am_ite_t z34]
      exact r_iret k110_54 rfl ⟨by rw [e9], rfl⟩
    · refine r_iload k110_37 rfl ?_
      refine r_pushn (v := nI 1) k110_38 rfl ?_
      refine r_iaddN k110_39 ?_
      refine r_aload k110_40 rfl ?_
      refine v_get (j := 4) (v := (nI (jn J e 4))) k110_41 he rfl (e4.1) ?_
      refine r_icmpgeN (by omega) (by omega) k110_44 (fun z44 => ?_) (fun z44 => ?_)
      · refine r_pushn (v := (-1)) k110_53 rfl ?_
        have e9 : E_next J e p = ((((-1)))) := by unfold E_next; rw [am_ite_t z5, am_ite_f z34, am_ite_t z44]
        exact r_iret k110_54 rfl ⟨by rw [e9], rfl⟩
      · refine r_iload k110_47 rfl ?_
        refine r_pushn (v := nI 1) k110_48 rfl ?_
        refine r_iaddN k110_49 ?_
        refine r_goto k110_50 ?_
        have e9 : E_next J e p = (((nI (p + 1)))) := by unfold E_next; rw [am_ite_t z5, am_ite_f z34, am_ite_f z44]
        exact r_iret k110_54 rfl ⟨by rw [e9], rfl⟩
  · refine r_iload k110_8 rfl ?_
    refine r_pushn (v := nI 1) k110_9 rfl ?_
    refine r_iaddN k110_10 ?_
    refine r_aload k110_11 rfl ?_
    refine v_get (j := 2) (v := (nI (jn J e 2))) k110_12 he rfl (e2.1) ?_
    refine r_icmpgeN (by omega) (by omega) k110_15 (fun z15 => ?_) (fun z15 => ?_)
    · refine r_aload k110_24 rfl ?_
      refine v_get (j := 3) (v := (nI (jn J e 3))) k110_25 he rfl (e3.1) ?_
      have e9 : E_next J e p = (((nI (jn J e 3)))) := by unfold E_next; rw [am_ite_f z5, am_ite_t z15]
      exact r_iret k110_28 rfl ⟨by rw [e9], rfl⟩
    · refine r_iload k110_18 rfl ?_
      refine r_pushn (v := nI 1) k110_19 rfl ?_
      refine r_iaddN k110_20 ?_
      refine r_goto k110_21 ?_
      have e9 : E_next J e p = (((nI (p + 1)))) := by unfold E_next; rw [am_ite_f z5, am_ite_f z15]
      exact r_iret k110_28 rfl ⟨by rw [e9], rfl⟩
noncomputable def E_aside (J : Nat → Nat → Int32) (e : Nat) (p : Nat) : Prop := (am_ite (p < (jn J e 2)) (am_ite (p < (jn J e 4)) ((False)) ((True))) (am_ite (p < (jn J e 3)) ((True)) (am_ite (p < (jn J e 4)) ((False)) ((True)))))
set_option maxRecDepth 20000 in
theorem s_E_aside {d : am_D} {h : am_H} {J : Nat → Nat → Int32} (hB : am_B h) (hT : am_ty2 J) (e : Nat) (p : Nat) (he : am_ob h e 9) (e1 : J e 1 = nI (jn J e 1) ∧ jn J e 1 ≤ 16) (e2 : J e 2 = nI (jn J e 2) ∧ jn J e 2 ≤ 16) (e3 : J e 3 = nI (jn J e 3) ∧ jn J e 3 ≤ 16) (e4 : J e 4 = nI (jn J e 4) ∧ jn J e 4 ≤ 16) (hp : p < 16) : am_wp d 111 0 [some (.ref e), some (.int (nI (p)))] [] (am_si h J) (fun r h' => r = some (.int (am_b (E_aside J e p))) ∧ h' = (am_si h J)) := by
  refine r_iload k111_0 rfl ?_
  refine r_aload k111_1 rfl ?_
  refine v_get (j := 2) (v := (nI (jn J e 2))) k111_2 he rfl (e2.1) ?_
  refine r_icmpltN (by omega) (by omega) k111_5 (fun z5 => ?_) (fun z5 => ?_)
  · refine r_iload k111_16 rfl ?_
    refine r_aload k111_17 rfl ?_
    refine v_get (j := 4) (v := (nI (jn J e 4))) k111_18 he rfl (e4.1) ?_
    refine r_icmpltN (by omega) (by omega) k111_21 (fun z21 => ?_) (fun z21 => ?_)
    · refine r_pushn (v := nI 0) k111_28 rfl ?_
      have e9 : E_aside J e p = ((False)) := by unfold E_aside; rw [am_ite_t z5, am_ite_t z21]
      exact r_zret k111_29 rfl (by decide) ⟨by rw [e9, am_b_f (fun q => q)]; rfl, rfl⟩
    · refine r_pushn (v := nI 1) k111_24 rfl ?_
      refine r_goto k111_25 ?_
      have e9 : E_aside J e p = ((True)) := by unfold E_aside; rw [am_ite_t z5, am_ite_f z21]
      exact r_zret k111_29 rfl (by decide) ⟨by rw [e9, am_b_t True.intro]; rfl, rfl⟩
  · refine r_iload k111_8 rfl ?_
    refine r_aload k111_9 rfl ?_
    refine v_get (j := 3) (v := (nI (jn J e 3))) k111_10 he rfl (e3.1) ?_
    refine r_icmpltN (by omega) (by omega) k111_13 (fun z13 => ?_) (fun z13 => ?_)
    · refine r_pushn (v := nI 1) k111_24 rfl ?_
      refine r_goto k111_25 ?_
      have e9 : E_aside J e p = ((True)) := by unfold E_aside; rw [am_ite_f z5, am_ite_t z13]
      exact r_zret k111_29 rfl (by decide) ⟨by rw [e9, am_b_t True.intro]; rfl, rfl⟩
    · refine r_iload k111_16 rfl ?_
      refine r_aload k111_17 rfl ?_
      refine v_get (j := 4) (v := (nI (jn J e 4))) k111_18 he rfl (e4.1) ?_
      refine r_icmpltN (by omega) (by omega) k111_21 (fun z21 => ?_) (fun z21 => ?_)
      · refine r_pushn (v := nI 0) k111_28 rfl ?_
        have e9 : E_aside J e p = ((False)) := by unfold E_aside; rw [am_ite_f z5, am_ite_f z13, am_ite_t z21]
        exact r_zret k111_29 rfl (by decide) ⟨by rw [e9, am_b_f (fun q => q)]; rfl, rfl⟩
      · refine r_pushn (v := nI 1) k111_24 rfl ?_
        refine r_goto k111_25 ?_
        have e9 : E_aside J e p = ((True)) := by unfold E_aside; rw [am_ite_f z5, am_ite_f z13, am_ite_f z21]
        exact r_zret k111_29 rfl (by decide) ⟨by rw [e9, am_b_t True.intro]; rfl, rfl⟩
noncomputable def F_fst (J : Nat → Nat → Int32) (e : Nat) (w : Nat) : Int32 := (am_ite ((J e 6) = 0) (((J w 3))) (((J w 4))))
set_option maxRecDepth 20000 in
theorem s_F_fst {d : am_D} {h : am_H} {J : Nat → Nat → Int32} (hB : am_B h) (hT : am_ty2 J) (e : Nat) (w : Nat) (he : am_ob h e 10) (hp : am_P h e 0 = some w) (hw9 : am_ob h w 8) : am_wp d 113 0 [some (.ref e)] [] (am_si h J) (fun r h' => r = some (.int (F_fst J e w)) ∧ h' = (am_si h J)) := by
  refine r_aload k113_0 rfl ?_
  refine v_get (j := 6) (v := (J e 6)) k113_1 he rfl rfl ?_
  refine r_ifeq k113_4 (fun z4 => ?_) (fun z4 => ?_)
  · refine r_aload k113_17 rfl ?_
    refine v_ref (b := w) k113_18 he rfl hp ?_
    refine v_get (j := 3) (v := (J w 3)) k113_21 hw9 rfl rfl ?_
    have e9 : F_fst J e w = (((J w 3))) := by unfold F_fst; rw [am_ite_t z4]
    exact r_iret k113_24 rfl ⟨by rw [e9], rfl⟩
  · refine r_aload k113_7 rfl ?_
    refine v_ref (b := w) k113_8 he rfl hp ?_
    refine v_get (j := 4) (v := (J w 4)) k113_11 hw9 rfl rfl ?_
    refine r_goto k113_14 ?_
    have e9 : F_fst J e w = (((J w 4))) := by unfold F_fst; rw [am_ite_f z4]
    exact r_iret k113_24 rfl ⟨by rw [e9], rfl⟩
noncomputable def F_snd (J : Nat → Nat → Int32) (e : Nat) (w : Nat) : Int32 := (am_ite ((J e 6) = 0) (((J w 4))) (((J w 3))))
set_option maxRecDepth 20000 in
theorem s_F_snd {d : am_D} {h : am_H} {J : Nat → Nat → Int32} (hB : am_B h) (hT : am_ty2 J) (e : Nat) (w : Nat) (he : am_ob h e 10) (hp : am_P h e 0 = some w) (hw9 : am_ob h w 8) : am_wp d 114 0 [some (.ref e)] [] (am_si h J) (fun r h' => r = some (.int (F_snd J e w)) ∧ h' = (am_si h J)) := by
  refine r_aload k114_0 rfl ?_
  refine v_get (j := 6) (v := (J e 6)) k114_1 he rfl rfl ?_
  refine r_ifeq k114_4 (fun z4 => ?_) (fun z4 => ?_)
  · refine r_aload k114_17 rfl ?_
    refine v_ref (b := w) k114_18 he rfl hp ?_
    refine v_get (j := 4) (v := (J w 4)) k114_21 hw9 rfl rfl ?_
    have e9 : F_snd J e w = (((J w 4))) := by unfold F_snd; rw [am_ite_t z4]
    exact r_iret k114_24 rfl ⟨by rw [e9], rfl⟩
  · refine r_aload k114_7 rfl ?_
    refine v_ref (b := w) k114_8 he rfl hp ?_
    refine v_get (j := 3) (v := (J w 3)) k114_11 hw9 rfl rfl ?_
    refine r_goto k114_14 ?_
    have e9 : F_snd J e w = (((J w 3))) := by unfold F_snd; rw [am_ite_f z4]
    exact r_iret k114_24 rfl ⟨by rw [e9], rfl⟩
