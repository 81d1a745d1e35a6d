/-! The reference: what a call works with. -/
theorem nn_1 {e : Nat} (he : e < 2 ^ 31) : ¬ nI e = -1 := fun q => by
  have g := nI_pos he
  rw [q] at g
  exact g (by decide)
theorem jn_u {J : Nat → Nat → Int32} {q j n : Nat} (hn : n < 2 ^ 31) : jn (am_u2 J q j (nI n)) q j = n := by
  unfold jn
  rw [am_u2_s]
  exact nI_clamp hn
def am_ckL (q cf j : Nat) : Bool := decide (0 < q ∧ q < 74 ∧ (am_bs.getD q (9, 0, 0)).1 = 0 ∧ (am_bs.getD q (9, 0, 0)).2.1 = cf / 64 ∧ cf % 64 = j ∧ cf % 64 < am_nf (cf / 64)) && !am_rf (cf / 64) (cf % 64) && am_lg (cf / 64) (cf % 64)
theorem j_getL {d : am_D} {mi pc nx : Nat} {L : am_L} {st : List Value} {h : am_H} {J : Nat → Nat → Int32} {Q : Option Value → am_H → Prop} {cf q j : Nat} (hat : am_at mi pc = some (.getfield cf, nx)) (hB : am_B h) (hc : am_ckL q cf j = true) (k : am_wp d mi nx L (.long (J q j).toInt64 :: st) (am_si h J) Q) : am_wp d mi pc L (.ref q :: st) (am_si h J) Q := by
  unfold am_ckL at hc
  simp only [Bool.and_eq_true, decide_eq_true_eq, Bool.not_eq_true'] at hc
  obtain ⟨⟨⟨h0, h1, h2, h3, rfl, h4⟩, h5⟩, h6⟩ := hc
  have hs := hB.2.1 q h0 h1
  have ho : am_ob (am_si h J) q (cf / 64) := ⟨h0, Nat.lt_of_lt_of_le h1 hB.1, by show (am_sh h q).1 = 0; rw [hs]; exact h2, by show (am_sh h q).2.1 = _; rw [hs]; exact h3⟩
  refine wp_one (q := (nx, L, .long (J q (cf % 64)).toInt64 :: st, am_si h J)) hat rfl (fun _ => rfl) (am_one_me rfl rfl rfl (q := (.long (J q (cf % 64)).toInt64 :: st, am_si h J)) ?_) k
  show am_xg cf (.ref q :: st) (am_si h J) = _
  unfold am_xg
  dsimp only
  rw [if_pos ⟨ho, h4⟩]
  unfold am_gv
  rw [if_neg (by rw [h5]; decide), if_pos h6]
  rfl
theorem j_putL {d : am_D} {mi pc nx : Nat} {L : am_L} {st : List Value} {h : am_H} {J : Nat → Nat → Int32} {Q : Option Value → am_H → Prop} {cf q j : Nat} {x : Int32} (hat : am_at mi pc = some (.putfield cf, nx)) (hB : am_B h) (hc : am_ckL q cf j = true) (k : am_wp d mi nx L st (am_si h (am_u2 J q j x)) Q) : am_wp d mi pc L (.long x.toInt64 :: .ref q :: st) (am_si h J) Q := by
  unfold am_ckL at hc
  simp only [Bool.and_eq_true, decide_eq_true_eq, Bool.not_eq_true'] at hc
  obtain ⟨⟨⟨h0, h1, h2, h3, rfl, h4⟩, h5⟩, h6⟩ := hc
  have hs := hB.2.1 q h0 h1
  have ho : am_ob (am_si h J) q (cf / 64) := ⟨h0, Nat.lt_of_lt_of_le h1 hB.1, by show (am_sh h q).1 = 0; rw [hs]; exact h2, by show (am_sh h q).2.1 = _; rw [hs]; exact h3⟩
  have e : x.toInt64.toInt32 = x := Int32.toInt32_toInt64 x
  refine wp_one (q := (nx, L, st, am_si h (am_u2 J q (cf % 64) x))) hat rfl (fun _ => rfl) (am_one_me rfl rfl rfl (q := (st, am_si h (am_u2 J q (cf % 64) x))) ?_) k
  show am_xp cf (.long x.toInt64 :: .ref q :: st) (am_si h J) = _
  unfold am_xp
  dsimp only
  rw [if_pos ⟨ho, h4⟩]
  unfold am_pv
  dsimp only
  rw [if_pos ⟨h5, h6, by rw [e]⟩, e]
  rfl
noncomputable def R_suits (J : Nat → Nat → Int32) (s : Nat) (i : Nat) : Prop := (am_ite (12 ≤ s) (am_ite (((nI s) - (nI 16)) = (nI i)) ((True)) ((False))) ((R_sub J (jn J 45 i) (nI s))))
set_option maxRecDepth 20000 in
theorem s_R_suits {d : am_D} {h : am_H} {J : Nat → Nat → Int32} (hB : am_B h) (hT : am_ty2 J) (s : Nat) (i : Nat) (hs : s < 28) (hi : i < 12) (hd : 2 ≤ d.1) (hw : 45 ≤ d.2) : am_wp d 58 0 [some (.ref 36), some (.int (nI (s))), some (.int (nI (i)))] [] (am_si h J) (fun r h' => r = some (.int (am_b (R_suits J s i))) ∧ h' = (am_si h J)) := by
  refine r_iload k58_0 rfl ?_
  refine r_pushn (v := nI 12) k58_1 rfl ?_
  refine r_icmpgeN (by omega) (by omega) k58_3 (fun z3 => ?_) (fun z3 => ?_)
  · refine r_iload k58_20 rfl ?_
    refine r_pushn (v := nI 16) k58_21 rfl ?_
    refine r_isub k58_23 ?_
    refine r_iload k58_24 rfl ?_
    refine r_icmpne k58_25 (fun z25 => ?_) (fun z25 => ?_)
    · refine r_pushn (v := nI 0) k58_32 rfl ?_
      have e9 : R_suits J s i = ((False)) := by unfold R_suits; rw [am_ite_t z3, am_ite_f z25]
      exact r_zret k58_33 rfl (by decide) ⟨by rw [e9, am_b_f (fun q => q)]; rfl, rfl⟩
    · refine r_pushn (v := nI 1) k58_28 rfl ?_
      refine r_goto k58_29 ?_
      have e9 : R_suits J s i = ((True)) := by unfold R_suits; rw [am_ite_t z3, am_ite_t z25]
      exact r_zret k58_33 rfl (by decide) ⟨by rw [e9, am_b_t True.intro]; rfl, rfl⟩
  · refine r_aload k58_6 rfl ?_
    refine r_aload k58_7 rfl ?_
    refine j_ref (b := 45) k58_8 hB rfl ?_
    refine r_iload k58_11 rfl ?_
    have b12 := ty_n hT (q := 45) (B := 12) (by decide) (by decide) i
    refine j_ald (n := 12) (j := i) (v := (nI (jn J 45 i))) k58_12 hB rfl rfl (by omega) b12.1 ?_
    refine r_iload k58_13 rfl ?_
    refine j_call (ml := 3) k58_14 rfl (show 0 < d.1 by omega) (show 19 + 3 ≤ d.2 by omega) ⟨Nat.le_of_ble_eq_true rfl, Nat.le_of_ble_eq_true rfl, am_obB hB rfl, Nat.le_of_ble_eq_true rfl⟩ rfl (rest := []) rfl (s_R_sub hB hT (jn J 45 i) (nI s) (by omega) (show 1 ≤ d.1 - 1 by omega) (show 23 ≤ d.2 - 22 by omega)) (fun r h1 hq => ?_)
    obtain ⟨rfl, rfl⟩ := hq
    show am_wp _ _ _ [some (.ref 36), some (.int (nI (s))), some (.int (nI (i)))] [.int (am_b (R_sub J (jn J 45 i) (nI s)))] _ _
    refine r_goto k58_17 ?_
    have e9 : R_suits J s i = ((R_sub J (jn J 45 i) (nI s))) := by unfold R_suits; rw [am_ite_f z3]
    exact r_zret k58_33 rfl am_b_1 ⟨by rw [e9], rfl⟩
noncomputable def R_dist (J : Nat → Nat → Int32) (s : Nat) (i : Nat) : Int32 := (am_ite (12 ≤ s) (((nI 0))) ((((nI 1) + (R_place J (jn J 45 i) (nI s))))))
set_option maxRecDepth 20000 in
theorem s_R_dist {d : am_D} {h : am_H} {J : Nat → Nat → Int32} (hB : am_B h) (hT : am_ty2 J) (s : Nat) (i : Nat) (hs : s < 28) (hi : i < 12) (hd : 1 ≤ d.1) (hw : 23 ≤ d.2) : am_wp d 59 0 [some (.ref 36), some (.int (nI (s))), some (.int (nI (i)))] [] (am_si h J) (fun r h' => r = some (.int (R_dist J s i)) ∧ h' = (am_si h J)) := by
  refine r_iload k59_0 rfl ?_
  refine r_pushn (v := nI 12) k59_1 rfl ?_
  refine r_icmpgeN (by omega) (by omega) k59_3 (fun z3 => ?_) (fun z3 => ?_)
  · refine r_pushn (v := nI 0) k59_22 rfl ?_
    have e9 : R_dist J s i = (((nI 0))) := by unfold R_dist; rw [am_ite_t z3]
    exact r_iret k59_23 rfl ⟨by rw [e9], rfl⟩
  · refine r_pushn (v := nI 1) k59_6 rfl ?_
    refine r_aload k59_7 rfl ?_
    refine r_aload k59_8 rfl ?_
    refine j_ref (b := 45) k59_9 hB rfl ?_
    refine r_iload k59_12 rfl ?_
    have b13 := ty_n hT (q := 45) (B := 12) (by decide) (by decide) i
    refine j_ald (n := 12) (j := i) (v := (nI (jn J 45 i))) k59_13 hB rfl rfl (by omega) b13.1 ?_
    refine r_iload k59_14 rfl ?_
    refine j_call (ml := 4) k59_15 rfl (show 0 < d.1 by omega) (show 19 + 4 ≤ d.2 by omega) ⟨Nat.le_of_ble_eq_true rfl, Nat.le_of_ble_eq_true rfl, am_obB hB rfl, Nat.le_of_ble_eq_true rfl⟩ rfl (rest := [.int (nI 1)]) rfl (s_R_place hB hT (jn J 45 i) (nI s) (by omega)) (fun r h1 hq => ?_)
    obtain ⟨rfl, rfl⟩ := hq
    show am_wp _ _ _ [some (.ref 36), some (.int (nI (s))), some (.int (nI (i)))] [.int (R_place J (jn J 45 i) (nI s)), .int (nI 1)] _ _
    refine r_iadd k59_18 ?_
    refine r_goto k59_19 ?_
    have e9 : R_dist J s i = ((((nI 1) + (R_place J (jn J 45 i) (nI s))))) := by unfold R_dist; rw [am_ite_f z3]
    exact r_iret k59_23 rfl ⟨by rw [e9], rfl⟩
noncomputable def R_bef (J : Nat → Nat → Int32) (w : Nat) (v : Nat) (x : Nat) (y : Nat) : Prop := (am_ite ((jn J 52 w) = (jn J 52 v)) (am_ite ((jn J 49 (jn J 50 w)) = 2) (am_ite ((R_dist J (jn J 53 v) y) ≤ (R_dist J (jn J 53 w) y)) ((False)) ((True))) ((False))) (am_ite ((R_dist J (jn J 52 v) x) ≤ (R_dist J (jn J 52 w) x)) ((False)) ((True))))
set_option maxRecDepth 20000 in
theorem s_R_bef {d : am_D} {h : am_H} {J : Nat → Nat → Int32} (hB : am_B h) (hT : am_ty2 J) (w : Nat) (v : Nat) (x : Nat) (y : Nat) (hw9 : w < 16) (hv9 : v < 16) (hx : x < 12) (hy : y < 12) (ho : ¬ J 50 w = -1) (hd : 2 ≤ d.1) (hw : 45 ≤ d.2) : am_wp d 62 0 [some (.ref 36), some (.int (nI (w))), some (.int (nI (v))), some (.int (nI (x))), some (.int (nI (y))), none, none] [] (am_si h J) (fun r h' => r = some (.int (am_b (R_bef J w v x y))) ∧ h' = (am_si h J)) := by
  refine r_aload k62_0 rfl ?_
  refine r_aload k62_1 rfl ?_
  refine j_ref (b := 52) k62_2 hB rfl ?_
  refine r_iload k62_5 rfl ?_
  have b6 := ty_n hT (q := 52) (B := 28) (by decide) (by decide) w
  refine j_ald (n := 16) (j := w) (v := (nI (jn J 52 w))) k62_6 hB rfl rfl (by omega) b6.1 ?_
  refine r_iload k62_7 rfl ?_
  refine j_call (ml := 3) k62_8 rfl (show 0 < d.1 by omega) (show 19 + 3 ≤ d.2 by omega) ⟨Nat.le_of_ble_eq_true rfl, Nat.le_of_ble_eq_true rfl, am_obB hB rfl, Nat.le_of_ble_eq_true rfl⟩ rfl (rest := []) rfl (s_R_dist hB hT (jn J 52 w) x (by omega) (by omega) (show 1 ≤ d.1 - 1 by omega) (show 23 ≤ d.2 - 22 by omega)) (fun r h1 hq => ?_)
  obtain ⟨rfl, rfl⟩ := hq
  show am_wp _ _ _ [some (.ref 36), some (.int (nI (w))), some (.int (nI (v))), some (.int (nI (x))), some (.int (nI (y))), none, none] [.int (R_dist J (jn J 52 w) x)] _ _
  refine r_istore (L' := [some (.ref 36), some (.int (nI (w))), some (.int (nI (v))), some (.int (nI (x))), some (.int (nI (y))), some (.int (R_dist J (jn J 52 w) x)), none]) k62_11 (Nat.le_of_ble_eq_true rfl) rfl ?_
  refine r_aload k62_13 rfl ?_
  refine r_aload k62_14 rfl ?_
  refine j_ref (b := 52) k62_15 hB rfl ?_
  refine r_iload k62_18 rfl ?_
  have b19 := ty_n hT (q := 52) (B := 28) (by decide) (by decide) v
  refine j_ald (n := 16) (j := v) (v := (nI (jn J 52 v))) k62_19 hB rfl rfl (by omega) b19.1 ?_
  refine r_iload k62_20 rfl ?_
  refine j_call (ml := 3) k62_21 rfl (show 0 < d.1 by omega) (show 19 + 3 ≤ d.2 by omega) ⟨Nat.le_of_ble_eq_true rfl, Nat.le_of_ble_eq_true rfl, am_obB hB rfl, Nat.le_of_ble_eq_true rfl⟩ rfl (rest := []) rfl (s_R_dist hB hT (jn J 52 v) x (by omega) (by omega) (show 1 ≤ d.1 - 1 by omega) (show 23 ≤ d.2 - 22 by omega)) (fun r h1 hq => ?_)
  obtain ⟨rfl, rfl⟩ := hq
  show am_wp _ _ _ [some (.ref 36), some (.int (nI (w))), some (.int (nI (v))), some (.int (nI (x))), some (.int (nI (y))), some (.int (R_dist J (jn J 52 w) x)), none] [.int (R_dist J (jn J 52 v) x)] _ _
  refine r_istore (L' := [some (.ref 36), some (.int (nI (w))), some (.int (nI (v))), some (.int (nI (x))), some (.int (nI (y))), some (.int (R_dist J (jn J 52 w) x)), some (.int (R_dist J (jn J 52 v) x))]) k62_24 (Nat.le_of_ble_eq_true rfl) rfl ?_
  refine r_aload k62_26 rfl ?_
  refine j_ref (b := 52) k62_27 hB rfl ?_
  refine r_iload k62_30 rfl ?_
  have b31 := ty_n hT (q := 52) (B := 28) (by decide) (by decide) w
  refine j_ald (n := 16) (j := w) (v := (nI (jn J 52 w))) k62_31 hB rfl rfl (by omega) b31.1 ?_
  refine r_aload k62_32 rfl ?_
  refine j_ref (b := 52) k62_33 hB rfl ?_
  refine r_iload k62_36 rfl ?_
  have b37 := ty_n hT (q := 52) (B := 28) (by decide) (by decide) v
  refine j_ald (n := 16) (j := v) (v := (nI (jn J 52 v))) k62_37 hB rfl rfl (by omega) b37.1 ?_
  refine r_icmpeqN (by omega) (by omega) k62_38 (fun z38 => ?_) (fun z38 => ?_)
  · refine r_aload k62_54 rfl ?_
    refine j_ref (b := 49) k62_55 hB rfl ?_
    refine r_aload k62_58 rfl ?_
    refine j_ref (b := 50) k62_59 hB rfl ?_
    refine r_iload k62_62 rfl ?_
    refine j_ald (n := 16) (j := w) (v := (J 50 w)) k62_63 hB rfl rfl (by omega) rfl ?_
    have c64 := ty_m hT (q := 50) (B := 5) (by decide) (by decide) w ho
    rw [c64.1]
    have b64 := ty_n hT (q := 49) (B := 3) (by decide) (by decide) (jn J 50 w)
    refine j_ald (n := 5) (j := (jn J 50 w)) (v := (nI (jn J 49 (jn J 50 w)))) k62_64 hB rfl rfl (by omega) b64.1 ?_
    refine r_pushn (v := nI 2) k62_65 rfl ?_
    refine r_icmpneN (by omega) (by omega) k62_66 (fun z66 => ?_) (fun z66 => ?_)
    · refine r_pushn (v := nI 0) k62_100 rfl ?_
      have e9 : R_bef J w v x y = ((False)) := by unfold R_bef; rw [am_ite_t z38, am_ite_f z66]
      exact r_zret k62_101 rfl (by decide) ⟨by rw [e9, am_b_f (fun q => q)]; rfl, rfl⟩
    · refine r_aload k62_69 rfl ?_
      refine r_aload k62_70 rfl ?_
      refine j_ref (b := 53) k62_71 hB rfl ?_
      refine r_iload k62_74 rfl ?_
      have b75 := ty_n hT (q := 53) (B := 28) (by decide) (by decide) w
      refine j_ald (n := 16) (j := w) (v := (nI (jn J 53 w))) k62_75 hB rfl rfl (by omega) b75.1 ?_
      refine r_iload k62_76 rfl ?_
      refine j_call (ml := 3) k62_78 rfl (show 0 < d.1 by omega) (show 19 + 3 ≤ d.2 by omega) ⟨Nat.le_of_ble_eq_true rfl, Nat.le_of_ble_eq_true rfl, am_obB hB rfl, Nat.le_of_ble_eq_true rfl⟩ rfl (rest := []) rfl (s_R_dist hB hT (jn J 53 w) y (by omega) (by omega) (show 1 ≤ d.1 - 1 by omega) (show 23 ≤ d.2 - 22 by omega)) (fun r h1 hq => ?_)
      obtain ⟨rfl, rfl⟩ := hq
      show am_wp _ _ _ [some (.ref 36), some (.int (nI (w))), some (.int (nI (v))), some (.int (nI (x))), some (.int (nI (y))), some (.int (R_dist J (jn J 52 w) x)), some (.int (R_dist J (jn J 52 v) x))] [.int (R_dist J (jn J 53 w) y)] _ _
      refine r_aload k62_81 rfl ?_
      refine r_aload k62_82 rfl ?_
      refine j_ref (b := 53) k62_83 hB rfl ?_
      refine r_iload k62_86 rfl ?_
      have b87 := ty_n hT (q := 53) (B := 28) (by decide) (by decide) v
      refine j_ald (n := 16) (j := v) (v := (nI (jn J 53 v))) k62_87 hB rfl rfl (by omega) b87.1 ?_
      refine r_iload k62_88 rfl ?_
      refine j_call (ml := 3) k62_90 rfl (show 0 < d.1 by omega) (show 19 + 3 ≤ d.2 by omega) ⟨Nat.le_of_ble_eq_true rfl, Nat.le_of_ble_eq_true rfl, am_obB hB rfl, Nat.le_of_ble_eq_true rfl⟩ rfl (rest := [.int (R_dist J (jn J 53 w) y)]) rfl (s_R_dist hB hT (jn J 53 v) y (by omega) (by omega) (show 1 ≤ d.1 - 1 by omega) (show 23 ≤ d.2 - 22 by omega)) (fun r h1 hq => ?_)
      obtain ⟨rfl, rfl⟩ := hq
      show am_wp _ _ _ [some (.ref 36), some (.int (nI (w))), some (.int (nI (v))), some (.int (nI (x))), some (.int (nI (y))), some (.int (R_dist J (jn J 52 w) x)), some (.int (R_dist J (jn J 52 v) x))] [.int (R_dist J (jn J 53 v) y), .int (R_dist J (jn J 53 w) y)] _ _
      refine r_icmpge k62_93 (fun z93 => ?_) (fun z93 => ?_)
      · refine r_pushn (v := nI 0) k62_100 rfl ?_
        have e9 : R_bef J w v x y = ((False)) := by unfold R_bef; rw [am_ite_t z38, am_ite_t z66, am_ite_t z93]
        exact r_zret k62_101 rfl (by decide) ⟨by rw [e9, am_b_f (fun q => q)]; rfl, rfl⟩
      · refine r_pushn (v := nI 1) k62_96 rfl ?_
        refine r_goto k62_97 ?_
        have e9 : R_bef J w v x y = ((True)) := by unfold R_bef; rw [am_ite_t z38, am_ite_t z66, am_ite_f z93]
        exact r_zret k62_101 rfl (by decide) ⟨by rw [e9, am_b_t True.intro]; rfl, rfl⟩
  · refine r_iload k62_41 rfl ?_
    refine r_iload k62_43 rfl ?_
    refine r_icmpge k62_45 (fun z45 => ?_) (fun z45 => ?_)
    · refine r_pushn (v := nI 0) k62_52 rfl ?_
      have e9 : R_bef J w v x y = ((False)) := by unfold R_bef; rw [am_ite_f z38, am_ite_t z45]
      exact r_zret k62_53 rfl (by decide) ⟨by rw [e9, am_b_f (fun q => q)]; rfl, rfl⟩
    · refine r_pushn (v := nI 1) k62_48 rfl ?_
      refine r_goto k62_49 ?_
      have e9 : R_bef J w v x y = ((True)) := by unfold R_bef; rw [am_ite_f z38, am_ite_f z45]
      exact r_zret k62_53 rfl (by decide) ⟨by rw [e9, am_b_t True.intro]; rfl, rfl⟩
noncomputable def R_id (w : Nat) (x : Nat) (y : Nat) (row : Nat) : Nat → (Nat → Nat → Int32) → (Nat → Nat → Int32)
  | 0, J => (am_u2 J 59 ((16 * row) + 0) (nI w))
  | m + 1, J => (am_ite (R_bef J w (jn J 59 (((16 * row) + (m + 1)) - 1)) x y) (R_id w x y row m (am_u2 J 59 ((16 * row) + (m + 1)) (nI (jn J 59 (((16 * row) + (m + 1)) - 1))))) (am_u2 J 59 ((16 * row) + (m + 1)) (nI w)))
set_option maxRecDepth 20000 in
theorem l_R_id {d : am_D} {h : am_H} {Q : Option Value → am_H → Prop} (hB : am_B h) (w : Nat) (x : Nat) (y : Nat) (row : Nat) (hw9 : w < 16) (hx : x < 12) (hy : y < 12) (hr : row < 52) (hd : 3 ≤ d.1) (hw : 71 ≤ d.2) : ∀ (m : Nat) (J : Nat → Nat → Int32), am_ty2 J → m ≤ 15 → ¬ J 50 w = -1 → (am_ty2 (R_id w x y row m J) → Q none (am_si h (R_id w x y row m J))) → am_wp d 61 29 [some (.ref 36), some (.int (nI (w))), some (.int (nI (x))), some (.int (nI (y))), some (.int (nI (row))), some (.int (nI (m)))] [] (am_si h J) Q := by
  intro m
  induction m with
  | zero =>
    intro J hT hc0 hc1 HQ
    refine r_iload k61_29 rfl ?_
    refine r_ifleN (by omega) k61_31 (fun _ => ?_) (fun z => absurd rfl z)
    refine r_aload k61_93 rfl ?_
    refine j_ref (b := 59) k61_94 hB rfl ?_
    refine r_pushn (v := nI 16) k61_97 rfl ?_
    refine r_iload k61_99 rfl ?_
    refine r_imulN k61_101 ?_
    refine r_iload k61_102 rfl ?_
    refine r_iaddN k61_104 ?_
    refine r_iload k61_105 rfl ?_
    refine j_ast (n := 832) (j := ((16 * row) + 0)) k61_106 hB rfl rfl (by omega) ?_
    have hT106 : am_ty2 (am_u2 J 59 ((16 * row) + 0) (nI w)) := ty_w hT (tw_n (B := 16) (by decide) (by decide) (by decide) (by omega))
    have e9 : R_id w x y row 0 J = (am_u2 J 59 ((16 * row) + 0) (nI w)) := by rw [R_id]
    rw [e9] at HQ
    exact r_vret k61_107 rfl (HQ hT106)
  | succ m ih =>
    intro J hT hc0 hc1 HQ
    refine r_iload k61_29 rfl ?_
    refine r_ifleN (by omega) k61_31 (fun z => absurd z (by omega)) (fun _ => ?_)
    refine r_aload k61_34 rfl ?_
    refine r_iload k61_35 rfl ?_
    refine r_aload k61_36 rfl ?_
    refine j_ref (b := 59) k61_37 hB rfl ?_
    refine r_pushn (v := nI 16) k61_40 rfl ?_
    refine r_iload k61_42 rfl ?_
    refine r_imulN k61_44 ?_
    refine r_iload k61_45 rfl ?_
    refine r_iaddN k61_47 ?_
    refine r_pushn (v := nI 1) k61_48 rfl ?_
    refine r_isubN (by omega) k61_49 ?_
    have b50 := ty_n hT (q := 59) (B := 16) (by decide) (by decide) (((16 * row) + (m + 1)) - 1)
    refine j_ald (n := 832) (j := (((16 * row) + (m + 1)) - 1)) (v := (nI (jn J 59 (((16 * row) + (m + 1)) - 1)))) k61_50 hB rfl rfl (by omega) b50.1 ?_
    refine r_iload k61_51 rfl ?_
    refine r_iload k61_52 rfl ?_
    refine j_call (ml := 7) k61_53 rfl (show 0 < d.1 by omega) (show 19 + 7 ≤ d.2 by omega) ⟨Nat.le_of_ble_eq_true rfl, Nat.le_of_ble_eq_true rfl, am_obB hB rfl, Nat.le_of_ble_eq_true rfl⟩ rfl (rest := []) rfl (s_R_bef hB hT w (jn J 59 (((16 * row) + (m + 1)) - 1)) x y (by omega) (by omega) (by omega) (by omega) (hc1) (show 2 ≤ d.1 - 1 by omega) (show 45 ≤ d.2 - 26 by omega)) (fun r h1 hq => ?_)
    obtain ⟨rfl, rfl⟩ := hq
    show am_wp _ _ _ [some (.ref 36), some (.int (nI (w))), some (.int (nI (x))), some (.int (nI (y))), some (.int (nI (row))), some (.int (nI (m + 1)))] [.int (am_b (R_bef J w (jn J 59 (((16 * row) + (m + 1)) - 1)) x y))] _ _
    refine r_ifeqB k61_56 (fun z56 => ?_) (fun z56 => ?_)
    · refine r_aload k61_93 rfl ?_
      refine j_ref (b := 59) k61_94 hB rfl ?_
      refine r_pushn (v := nI 16) k61_97 rfl ?_
      refine r_iload k61_99 rfl ?_
      refine r_imulN k61_101 ?_
      refine r_iload k61_102 rfl ?_
      refine r_iaddN k61_104 ?_
      refine r_iload k61_105 rfl ?_
      refine j_ast (n := 832) (j := ((16 * row) + (m + 1))) k61_106 hB rfl rfl (by omega) ?_
      have hT106 : am_ty2 (am_u2 J 59 ((16 * row) + (m + 1)) (nI w)) := ty_w hT (tw_n (B := 16) (by decide) (by decide) (by decide) (by omega))
      have e9 : R_id w x y row (m + 1) J = (am_u2 J 59 ((16 * row) + (m + 1)) (nI w)) := by rw [R_id]; rw [am_ite_f z56]
      rw [e9] at HQ
      exact r_vret k61_107 rfl (HQ hT106)
    · refine r_aload k61_59 rfl ?_
      refine j_ref (b := 59) k61_60 hB rfl ?_
      refine r_pushn (v := nI 16) k61_63 rfl ?_
      refine r_iload k61_65 rfl ?_
      refine r_imulN k61_67 ?_
      refine r_iload k61_68 rfl ?_
      refine r_iaddN k61_70 ?_
      refine r_aload k61_71 rfl ?_
      refine j_ref (b := 59) k61_72 hB rfl ?_
      refine r_pushn (v := nI 16) k61_75 rfl ?_
      refine r_iload k61_77 rfl ?_
      refine r_imulN k61_79 ?_
      refine r_iload k61_80 rfl ?_
      refine r_iaddN k61_82 ?_
      refine r_pushn (v := nI 1) k61_83 rfl ?_
      refine r_isubN (by omega) k61_84 ?_
      have b85 := ty_n hT (q := 59) (B := 16) (by decide) (by decide) (((16 * row) + (m + 1)) - 1)
      refine j_ald (n := 832) (j := (((16 * row) + (m + 1)) - 1)) (v := (nI (jn J 59 (((16 * row) + (m + 1)) - 1)))) k61_85 hB rfl rfl (by omega) b85.1 ?_
      refine j_ast (n := 832) (j := ((16 * row) + (m + 1))) k61_86 hB rfl rfl (by omega) ?_
      have hT86 : am_ty2 (am_u2 J 59 ((16 * row) + (m + 1)) (nI (jn J 59 (((16 * row) + (m + 1)) - 1)))) := ty_w hT (tw_n (B := 16) (by decide) (by decide) (by decide) (by omega))
      refine r_iinc (v := (nI m)) (L' := [some (.ref 36), some (.int (nI (w))), some (.int (nI (x))), some (.int (nI (y))), some (.int (nI (row))), some (.int (nI (m)))]) k61_87 rfl (Nat.le_of_ble_eq_true rfl) (am_pd_dec _) rfl ?_
      refine r_goto k61_90 ?_
      have e9 : R_id w x y row (m + 1) J = R_id w x y row m (am_u2 J 59 ((16 * row) + (m + 1)) (nI (jn J 59 (((16 * row) + (m + 1)) - 1)))) := by rw [R_id]; rw [am_ite_t z56]
      rw [e9] at HQ
      exact ih (am_u2 J 59 ((16 * row) + (m + 1)) (nI (jn J 59 (((16 * row) + (m + 1)) - 1)))) hT86 (by omega) hc1 HQ
theorem fl_R_id {w : Nat} {x : Nat} {y : Nat} {row : Nat} (q : Nat) (hq : ¬ q = 59) : ∀ (m : Nat) (J : Nat → Nat → Int32), (R_id w x y row m J) q = J q := by
  intro m
  induction m with
  | zero =>
    intro J
    rw [R_id]
    first | done | exact fr_u (by omega)
  | succ m ih =>
    intro J
    rw [R_id]
    refine fr_i0 (fun _ => ?_) (fun _ => ?_)
    · exact (ih (am_u2 J 59 ((16 * row) + (m + 1)) (nI (jn J 59 (((16 * row) + (m + 1)) - 1))))).trans (fr_u (by omega))
    · exact fr_u (by omega)
noncomputable def R_ins (J : Nat → Nat → Int32) (w : Nat) (x : Nat) (y : Nat) : (Nat → Nat → Int32) := R_id w x y ((4 * (jn J 36 38)) + (jn J 51 w)) (jn J 60 ((4 * (jn J 36 38)) + (jn J 51 w))) (am_u2 J 60 ((4 * (jn J 36 38)) + (jn J 51 w)) (nI ((jn J 60 ((4 * (jn J 36 38)) + (jn J 51 w))) + 1)))
set_option maxRecDepth 20000 in
theorem s_R_ins {d : am_D} {h : am_H} {J : Nat → Nat → Int32} (hB : am_B h) (hT : am_ty2 J) (w : Nat) (x : Nat) (y : Nat) (hw9 : w < 16) (hx : x < 12) (hy : y < 12) (hm9 : jn J 60 ((4 * (jn J 36 38)) + (jn J 51 w)) < 16) (ho : ¬ J 50 w = -1) (hd : 3 ≤ d.1) (hw : 71 ≤ d.2) : am_wp d 61 0 [some (.ref 36), some (.int (nI (w))), some (.int (nI (x))), some (.int (nI (y))), none, none] [] (am_si h J) (fun r h' => r = none ∧ h' = am_si h (R_ins J w x y) ∧ am_ty2 (R_ins J w x y)) := by
  refine r_pushn (v := nI 4) k61_0 rfl ?_
  refine r_aload k61_1 rfl ?_
  have b2 := ty_f hT (q := 36) (j := 38) (B := 13) (by decide) (by decide)
  refine j_get (j := 38) (v := (nI (jn J 36 38))) k61_2 hB rfl b2.1 ?_
  refine r_imulN k61_5 ?_
  refine r_aload k61_6 rfl ?_
  refine j_ref (b := 51) k61_7 hB rfl ?_
  refine r_iload k61_10 rfl ?_
  have b11 := ty_n hT (q := 51) (B := 4) (by decide) (by decide) w
  refine j_ald (n := 16) (j := w) (v := (nI (jn J 51 w))) k61_11 hB rfl rfl (by omega) b11.1 ?_
  refine r_iaddN k61_12 ?_
  refine r_istore (L' := [some (.ref 36), some (.int (nI (w))), some (.int (nI (x))), some (.int (nI (y))), some (.int (nI ((4 * (jn J 36 38)) + (jn J 51 w)))), none]) k61_13 (Nat.le_of_ble_eq_true rfl) rfl ?_
  refine r_aload k61_15 rfl ?_
  refine j_ref (b := 60) k61_16 hB rfl ?_
  refine r_iload k61_19 rfl ?_
  refine r_dup2 rfl rfl k61_21 ?_
  have b22 := ty_n hT (q := 60) (B := 17) (by decide) (by decide) ((4 * (jn J 36 38)) + (jn J 51 w))
  refine j_ald (n := 52) (j := ((4 * (jn J 36 38)) + (jn J 51 w))) (v := (nI (jn J 60 ((4 * (jn J 36 38)) + (jn J 51 w))))) k61_22 hB rfl rfl (by omega) b22.1 ?_
  refine r_dupx2 rfl rfl rfl k61_23 ?_
  refine r_pushn (v := nI 1) k61_24 rfl ?_
  refine r_iaddN k61_25 ?_
  refine j_ast (n := 52) (j := ((4 * (jn J 36 38)) + (jn J 51 w))) k61_26 hB rfl rfl (by omega) ?_
  have hT26 : am_ty2 (am_u2 J 60 ((4 * (jn J 36 38)) + (jn J 51 w)) (nI ((jn J 60 ((4 * (jn J 36 38)) + (jn J 51 w))) + 1))) := ty_w hT (tw_n (B := 17) (by decide) (by decide) (by decide) (by omega))
  refine r_istore (L' := [some (.ref 36), some (.int (nI (w))), some (.int (nI (x))), some (.int (nI (y))), some (.int (nI ((4 * (jn J 36 38)) + (jn J 51 w)))), some (.int (nI (jn J 60 ((4 * (jn J 36 38)) + (jn J 51 w)))))]) k61_27 (Nat.le_of_ble_eq_true rfl) rfl ?_
  exact l_R_id hB w x y ((4 * (jn J 36 38)) + (jn J 51 w)) hw9 hx hy (by omega) hd hw (jn J 60 ((4 * (jn J 36 38)) + (jn J 51 w))) (am_u2 J 60 ((4 * (jn J 36 38)) + (jn J 51 w)) (nI ((jn J 60 ((4 * (jn J 36 38)) + (jn J 51 w))) + 1))) hT26 (by omega) ho (fun hT9 => ⟨rfl, rfl, hT9⟩)
theorem fr_R_ins {J : Nat → Nat → Int32} {w : Nat} {x : Nat} {y : Nat} (q : Nat) (hq : ¬ q = 59 ∧ ¬ q = 60) : (R_ins J w x y) q = J q := by
  unfold R_ins
  exact (fl_R_id q (by omega) _ _).trans (fr_u (by omega))
noncomputable def R_many (J : Nat → Nat → Int32) (kind : Nat) : Int32 := (((nI (jn J 60 ((4 * ((jn J 36 38) - 1)) + kind)))))
set_option maxRecDepth 20000 in
theorem s_R_many {d : am_D} {h : am_H} {J : Nat → Nat → Int32} (hB : am_B h) (hT : am_ty2 J) (kind : Nat) (hk : kind < 4) (hl : 0 < jn J 36 38) : am_wp d 63 0 [some (.ref 36), some (.int (nI (kind)))] [] (am_si h J) (fun r h' => r = some (.int (R_many J kind)) ∧ h' = (am_si h J)) := by
  refine r_aload k63_0 rfl ?_
  refine j_ref (b := 60) k63_1 hB rfl ?_
  refine r_pushn (v := nI 4) k63_4 rfl ?_
  refine r_aload k63_5 rfl ?_
  have b6 := ty_f hT (q := 36) (j := 38) (B := 13) (by decide) (by decide)
  refine j_get (j := 38) (v := (nI (jn J 36 38))) k63_6 hB rfl b6.1 ?_
  refine r_pushn (v := nI 1) k63_9 rfl ?_
  refine r_isubN (by omega) k63_10 ?_
  refine r_imulN k63_11 ?_
  refine r_iload k63_12 rfl ?_
  refine r_iaddN k63_13 ?_
  have b14 := ty_n hT (q := 60) (B := 17) (by decide) (by decide) ((4 * ((jn J 36 38) - 1)) + kind)
  refine j_ald (n := 52) (j := ((4 * ((jn J 36 38) - 1)) + kind)) (v := (nI (jn J 60 ((4 * ((jn J 36 38) - 1)) + kind)))) k63_14 hB rfl rfl (by omega) b14.1 ?_
  have e9 : R_many J kind = (((nI (jn J 60 ((4 * ((jn J 36 38) - 1)) + kind))))) := rfl
  exact r_iret k63_15 rfl ⟨by rw [e9], rfl⟩
noncomputable def R_begin (J : Nat → Nat → Int32) (kind : Nat) (place : Nat) : (Nat → Nat → Int32) := (am_ite (kind = 3) (am_ite (place = (jn (am_u2 (am_u2 (am_u2 (am_u2 (am_u2 (am_u2 (am_u2 J 64 (jn J 36 39) (nI ((jn J 36 38) - 1))) 65 (jn J 36 39) (nI kind)) 66 (jn J 36 39) (nI place)) 67 (jn J 36 39) (nI 0)) 68 (jn J 36 39) (nI 0)) 69 (jn J 36 39) (nI (jn J 61 ((jn J 36 38) - 1)))) 70 (jn J 36 39) (nI (jn J 62 ((jn J 36 38) - 1)))) 60 ((4 * ((jn (am_u2 (am_u2 (am_u2 (am_u2 (am_u2 (am_u2 (am_u2 J 64 (jn J 36 39) (nI ((jn J 36 38) - 1))) 65 (jn J 36 39) (nI kind)) 66 (jn J 36 39) (nI place)) 67 (jn J 36 39) (nI 0)) 68 (jn J 36 39) (nI 0)) 69 (jn J 36 39) (nI (jn J 61 ((jn J 36 38) - 1)))) 70 (jn J 36 39) (nI (jn J 62 ((jn J 36 38) - 1)))) 36 38) - 1)) + 3))) (am_u2 (am_u2 (am_u2 (am_u2 (am_u2 (am_u2 (am_u2 (am_u2 (am_u2 J 64 (jn J 36 39) (nI ((jn J 36 38) - 1))) 65 (jn J 36 39) (nI kind)) 66 (jn J 36 39) (nI place)) 67 (jn J 36 39) (nI 0)) 68 (jn J 36 39) (nI 0)) 69 (jn J 36 39) (nI (jn J 61 ((jn J 36 38) - 1)))) 70 (jn J 36 39) (nI (jn J 62 ((jn J 36 38) - 1)))) 65 (jn J 36 39) (nI 9)) 36 39 (nI ((jn J 36 39) + 1))) (am_u2 (am_u2 (am_u2 (am_u2 (am_u2 (am_u2 (am_u2 (am_u2 (am_u2 (am_u2 J 64 (jn J 36 39) (nI ((jn J 36 38) - 1))) 65 (jn J 36 39) (nI kind)) 66 (jn J 36 39) (nI place)) 67 (jn J 36 39) (nI 0)) 68 (jn J 36 39) (nI 0)) 69 (jn J 36 39) (nI (jn J 61 ((jn J 36 38) - 1)))) 70 (jn J 36 39) (nI (jn J 62 ((jn J 36 38) - 1)))) 71 (jn J 36 39) (nI (jn J 54 (jn J 59 ((16 * ((4 * ((jn J 36 38) - 1)) + kind)) + place))))) 73 4 ((J 73 4) + (nI 1))) 36 39 (nI ((jn J 36 39) + 1)))) (am_u2 (am_u2 (am_u2 (am_u2 (am_u2 (am_u2 (am_u2 (am_u2 (am_u2 (am_u2 J 64 (jn J 36 39) (nI ((jn J 36 38) - 1))) 65 (jn J 36 39) (nI kind)) 66 (jn J 36 39) (nI place)) 67 (jn J 36 39) (nI 0)) 68 (jn J 36 39) (nI 0)) 69 (jn J 36 39) (nI (jn J 61 ((jn J 36 38) - 1)))) 70 (jn J 36 39) (nI (jn J 62 ((jn J 36 38) - 1)))) 71 (jn J 36 39) (nI (jn J 54 (jn J 59 ((16 * ((4 * ((jn J 36 38) - 1)) + kind)) + place))))) 73 4 ((J 73 4) + (nI 1))) 36 39 (nI ((jn J 36 39) + 1))))
set_option maxRecDepth 20000 in
theorem s_R_begin {d : am_D} {h : am_H} {J : Nat → Nat → Int32} (hB : am_B h) (hT : am_ty2 J) (kind : Nat) (place : Nat) (hk : kind < 4) (hp : place < 16) (hl : 0 < jn J 36 38) (ht : jn J 36 39 < 320) (hd : 1 ≤ d.1) (hw : 21 ≤ d.2) : am_wp d 64 0 [some (.ref 36), some (.int (nI (kind))), some (.int (nI (place))), none] [] (am_si h J) (fun r h' => r = none ∧ h' = am_si h (R_begin J kind place) ∧ am_ty2 (R_begin J kind place)) := by
  refine r_aload k64_0 rfl ?_
  have b1 := ty_f hT (q := 36) (j := 38) (B := 13) (by decide) (by decide)
  refine j_get (j := 38) (v := (nI (jn J 36 38))) k64_1 hB rfl b1.1 ?_
  refine r_pushn (v := nI 1) k64_4 rfl ?_
  refine r_isubN (by omega) k64_5 ?_
  refine r_istore (L' := [some (.ref 36), some (.int (nI (kind))), some (.int (nI (place))), some (.int (nI ((jn J 36 38) - 1)))]) k64_6 (Nat.le_of_ble_eq_true rfl) rfl ?_
  refine r_aload k64_7 rfl ?_
  refine j_ref (b := 64) k64_8 hB rfl ?_
  refine r_aload k64_11 rfl ?_
  have b12 := ty_f hT (q := 36) (j := 39) (B := 321) (by decide) (by decide)
  refine j_get (j := 39) (v := (nI (jn J 36 39))) k64_12 hB rfl b12.1 ?_
  refine r_iload k64_15 rfl ?_
  refine j_ast (n := 320) (j := (jn J 36 39)) k64_16 hB rfl rfl (by omega) ?_
  have hT16 : am_ty2 (am_u2 J 64 (jn J 36 39) (nI ((jn J 36 38) - 1))) := ty_w hT (tw_n (B := 12) (by decide) (by decide) (by decide) (by omega))
  refine r_aload k64_17 rfl ?_
  refine j_ref (b := 65) k64_18 hB rfl ?_
  refine r_aload k64_21 rfl ?_
  have b22 := ty_f hT (q := 36) (j := 39) (B := 321) (by decide) (by decide)
  refine j_get (j := 39) (v := (nI (jn J 36 39))) k64_22 hB rfl b22.1 ?_
  refine r_iload k64_25 rfl ?_
  refine j_ast (n := 320) (j := (jn J 36 39)) k64_26 hB rfl rfl (by omega) ?_
  have hT26 : am_ty2 (am_u2 (am_u2 J 64 (jn J 36 39) (nI ((jn J 36 38) - 1))) 65 (jn J 36 39) (nI kind)) := ty_w hT16 (tw_n (B := 10) (by decide) (by decide) (by decide) (by omega))
  refine r_aload k64_27 rfl ?_
  refine j_ref (b := 66) k64_28 hB rfl ?_
  refine r_aload k64_31 rfl ?_
  have b32 := ty_f hT (q := 36) (j := 39) (B := 321) (by decide) (by decide)
  refine j_get (j := 39) (v := (nI (jn J 36 39))) k64_32 hB rfl b32.1 ?_
  refine r_iload k64_35 rfl ?_
  refine j_ast (n := 320) (j := (jn J 36 39)) k64_36 hB rfl rfl (by omega) ?_
  have hT36 : am_ty2 (am_u2 (am_u2 (am_u2 J 64 (jn J 36 39) (nI ((jn J 36 38) - 1))) 65 (jn J 36 39) (nI kind)) 66 (jn J 36 39) (nI place)) := ty_w hT26 (tw_n (B := 17) (by decide) (by decide) (by decide) (by omega))
  refine r_aload k64_37 rfl ?_
  refine j_ref (b := 67) k64_38 hB rfl ?_
  refine r_aload k64_41 rfl ?_
  have b42 := ty_f hT (q := 36) (j := 39) (B := 321) (by decide) (by decide)
  refine j_get (j := 39) (v := (nI (jn J 36 39))) k64_42 hB rfl b42.1 ?_
  refine r_pushn (v := nI 0) k64_45 rfl ?_
  refine j_ast (n := 320) (j := (jn J 36 39)) k64_46 hB rfl rfl (by omega) ?_
  have hT46 : am_ty2 (am_u2 (am_u2 (am_u2 (am_u2 J 64 (jn J 36 39) (nI ((jn J 36 38) - 1))) 65 (jn J 36 39) (nI kind)) 66 (jn J 36 39) (nI place)) 67 (jn J 36 39) (nI 0)) := ty_w hT36 (tw_n (B := 20) (by decide) (by decide) (by decide) (by omega))
  refine r_aload k64_47 rfl ?_
  refine j_ref (b := 68) k64_48 hB rfl ?_
  refine r_aload k64_51 rfl ?_
  have b52 := ty_f hT (q := 36) (j := 39) (B := 321) (by decide) (by decide)
  refine j_get (j := 39) (v := (nI (jn J 36 39))) k64_52 hB rfl b52.1 ?_
  refine r_pushn (v := nI 0) k64_55 rfl ?_
  refine j_ast (n := 320) (j := (jn J 36 39)) k64_56 hB rfl rfl (by omega) ?_
  have hT56 : am_ty2 (am_u2 (am_u2 (am_u2 (am_u2 (am_u2 J 64 (jn J 36 39) (nI ((jn J 36 38) - 1))) 65 (jn J 36 39) (nI kind)) 66 (jn J 36 39) (nI place)) 67 (jn J 36 39) (nI 0)) 68 (jn J 36 39) (nI 0)) := ty_w hT46 (tw_a (by decide) (by decide) (by decide))
  refine r_aload k64_57 rfl ?_
  refine j_ref (b := 69) k64_58 hB rfl ?_
  refine r_aload k64_61 rfl ?_
  have b62 := ty_f hT (q := 36) (j := 39) (B := 321) (by decide) (by decide)
  refine j_get (j := 39) (v := (nI (jn J 36 39))) k64_62 hB rfl b62.1 ?_
  refine r_aload k64_65 rfl ?_
  refine j_ref (b := 61) k64_66 hB rfl ?_
  refine r_iload k64_69 rfl ?_
  have b70 := ty_n hT (q := 61) (B := 12) (by decide) (by decide) ((jn J 36 38) - 1)
  refine j_ald (n := 13) (j := ((jn J 36 38) - 1)) (v := (nI (jn J 61 ((jn J 36 38) - 1)))) k64_70 hB rfl rfl (by omega) b70.1 ?_
  refine j_ast (n := 320) (j := (jn J 36 39)) k64_71 hB rfl rfl (by omega) ?_
  have hT71 : am_ty2 (am_u2 (am_u2 (am_u2 (am_u2 (am_u2 (am_u2 J 64 (jn J 36 39) (nI ((jn J 36 38) - 1))) 65 (jn J 36 39) (nI kind)) 66 (jn J 36 39) (nI place)) 67 (jn J 36 39) (nI 0)) 68 (jn J 36 39) (nI 0)) 69 (jn J 36 39) (nI (jn J 61 ((jn J 36 38) - 1)))) := ty_w hT56 (tw_n (B := 12) (by decide) (by decide) (by decide) (by omega))
  refine r_aload k64_72 rfl ?_
  refine j_ref (b := 70) k64_73 hB rfl ?_
  refine r_aload k64_76 rfl ?_
  have b77 := ty_f hT (q := 36) (j := 39) (B := 321) (by decide) (by decide)
  refine j_get (j := 39) (v := (nI (jn J 36 39))) k64_77 hB rfl b77.1 ?_
  refine r_aload k64_80 rfl ?_
  refine j_ref (b := 62) k64_81 hB rfl ?_
  refine r_iload k64_84 rfl ?_
  have b85 := ty_n hT (q := 62) (B := 12) (by decide) (by decide) ((jn J 36 38) - 1)
  refine j_ald (n := 13) (j := ((jn J 36 38) - 1)) (v := (nI (jn J 62 ((jn J 36 38) - 1)))) k64_85 hB rfl rfl (by omega) b85.1 ?_
  refine j_ast (n := 320) (j := (jn J 36 39)) k64_86 hB rfl rfl (by omega) ?_
  have hT86 : am_ty2 (am_u2 (am_u2 (am_u2 (am_u2 (am_u2 (am_u2 (am_u2 J 64 (jn J 36 39) (nI ((jn J 36 38) - 1))) 65 (jn J 36 39) (nI kind)) 66 (jn J 36 39) (nI place)) 67 (jn J 36 39) (nI 0)) 68 (jn J 36 39) (nI 0)) 69 (jn J 36 39) (nI (jn J 61 ((jn J 36 38) - 1)))) 70 (jn J 36 39) (nI (jn J 62 ((jn J 36 38) - 1)))) := ty_w hT71 (tw_n (B := 12) (by decide) (by decide) (by decide) (by omega))
  refine r_iload k64_87 rfl ?_
  refine r_pushn (v := nI 3) k64_88 rfl ?_
  refine r_icmpneN (by omega) (by omega) k64_89 (fun z89 => ?_) (fun z89 => ?_)
  · refine r_aload k64_115 rfl ?_
    refine j_ref (b := 71) k64_116 hB rfl ?_
    refine r_aload k64_119 rfl ?_
    have b120 := ty_f hT (q := 36) (j := 39) (B := 321) (by decide) (by decide)
    refine j_get (j := 39) (v := (nI (jn J 36 39))) k64_120 hB rfl b120.1 ?_
    refine r_aload k64_123 rfl ?_
    refine j_ref (b := 54) k64_124 hB rfl ?_
    refine r_aload k64_127 rfl ?_
    refine j_ref (b := 59) k64_128 hB rfl ?_
    refine r_pushn (v := nI 16) k64_131 rfl ?_
    refine r_pushn (v := nI 4) k64_133 rfl ?_
    refine r_iload k64_134 rfl ?_
    refine r_imulN k64_135 ?_
    refine r_iload k64_136 rfl ?_
    refine r_iaddN k64_137 ?_
    refine r_imulN k64_138 ?_
    refine r_iload k64_139 rfl ?_
    refine r_iaddN k64_140 ?_
    have b141 := ty_n hT (q := 59) (B := 16) (by decide) (by decide) ((16 * ((4 * ((jn J 36 38) - 1)) + kind)) + place)
    refine j_ald (n := 832) (j := ((16 * ((4 * ((jn J 36 38) - 1)) + kind)) + place)) (v := (nI (jn J 59 ((16 * ((4 * ((jn J 36 38) - 1)) + kind)) + place)))) k64_141 hB rfl rfl (by omega) b141.1 ?_
    have b142 := ty_n hT (q := 54) (B := 8) (by decide) (by decide) (jn J 59 ((16 * ((4 * ((jn J 36 38) - 1)) + kind)) + place))
    refine j_ald (n := 16) (j := (jn J 59 ((16 * ((4 * ((jn J 36 38) - 1)) + kind)) + place))) (v := (nI (jn J 54 (jn J 59 ((16 * ((4 * ((jn J 36 38) - 1)) + kind)) + place))))) k64_142 hB rfl rfl (by omega) b142.1 ?_
    refine j_ast (n := 320) (j := (jn J 36 39)) k64_143 hB rfl rfl (by omega) ?_
    have hT143 : am_ty2 (am_u2 (am_u2 (am_u2 (am_u2 (am_u2 (am_u2 (am_u2 (am_u2 J 64 (jn J 36 39) (nI ((jn J 36 38) - 1))) 65 (jn J 36 39) (nI kind)) 66 (jn J 36 39) (nI place)) 67 (jn J 36 39) (nI 0)) 68 (jn J 36 39) (nI 0)) 69 (jn J 36 39) (nI (jn J 61 ((jn J 36 38) - 1)))) 70 (jn J 36 39) (nI (jn J 62 ((jn J 36 38) - 1)))) 71 (jn J 36 39) (nI (jn J 54 (jn J 59 ((16 * ((4 * ((jn J 36 38) - 1)) + kind)) + place))))) := ty_w hT86 (tw_n (B := 8) (by decide) (by decide) (by decide) (by omega))
    refine r_aload k64_144 rfl ?_
    refine j_ref (b := 73) k64_145 hB rfl ?_
    refine r_pushn (v := nI 4) k64_148 rfl ?_
    refine r_dup2 rfl rfl k64_149 ?_
    refine j_ald (n := 10) (j := 4) (v := (J 73 4)) k64_150 hB rfl rfl (by omega) rfl ?_
    refine r_pushn (v := nI 1) k64_151 rfl ?_
    refine r_iadd k64_152 ?_
    refine j_ast (n := 10) (j := 4) k64_153 hB rfl rfl (by omega) ?_
    have hT153 : am_ty2 (am_u2 (am_u2 (am_u2 (am_u2 (am_u2 (am_u2 (am_u2 (am_u2 (am_u2 J 64 (jn J 36 39) (nI ((jn J 36 38) - 1))) 65 (jn J 36 39) (nI kind)) 66 (jn J 36 39) (nI place)) 67 (jn J 36 39) (nI 0)) 68 (jn J 36 39) (nI 0)) 69 (jn J 36 39) (nI (jn J 61 ((jn J 36 38) - 1)))) 70 (jn J 36 39) (nI (jn J 62 ((jn J 36 38) - 1)))) 71 (jn J 36 39) (nI (jn J 54 (jn J 59 ((16 * ((4 * ((jn J 36 38) - 1)) + kind)) + place))))) 73 4 ((J 73 4) + (nI 1))) := ty_w hT143 (tw_a (by decide) (by decide) (by decide))
    refine r_aload k64_154 rfl ?_
    refine r_dup rfl k64_155 ?_
    have b156 := ty_f hT (q := 36) (j := 39) (B := 321) (by decide) (by decide)
    refine j_get (j := 39) (v := (nI (jn J 36 39))) k64_156 hB rfl b156.1 ?_
    refine r_pushn (v := nI 1) k64_159 rfl ?_
    refine r_iaddN k64_160 ?_
    refine j_put (j := 39) k64_161 hB rfl rfl ?_
    have hT161 : am_ty2 (am_u2 (am_u2 (am_u2 (am_u2 (am_u2 (am_u2 (am_u2 (am_u2 (am_u2 (am_u2 J 64 (jn J 36 39) (nI ((jn J 36 38) - 1))) 65 (jn J 36 39) (nI kind)) 66 (jn J 36 39) (nI place)) 67 (jn J 36 39) (nI 0)) 68 (jn J 36 39) (nI 0)) 69 (jn J 36 39) (nI (jn J 61 ((jn J 36 38) - 1)))) 70 (jn J 36 39) (nI (jn J 62 ((jn J 36 38) - 1)))) 71 (jn J 36 39) (nI (jn J 54 (jn J 59 ((16 * ((4 * ((jn J 36 38) - 1)) + kind)) + place))))) 73 4 ((J 73 4) + (nI 1))) 36 39 (nI ((jn J 36 39) + 1))) := ty_w hT153 (tw_f (B := 321) (by decide) (by decide) (by decide) (by omega))
    have e9 : R_begin J kind place = (am_u2 (am_u2 (am_u2 (am_u2 (am_u2 (am_u2 (am_u2 (am_u2 (am_u2 (am_u2 J 64 (jn J 36 39) (nI ((jn J 36 38) - 1))) 65 (jn J 36 39) (nI kind)) 66 (jn J 36 39) (nI place)) 67 (jn J 36 39) (nI 0)) 68 (jn J 36 39) (nI 0)) 69 (jn J 36 39) (nI (jn J 61 ((jn J 36 38) - 1)))) 70 (jn J 36 39) (nI (jn J 62 ((jn J 36 38) - 1)))) 71 (jn J 36 39) (nI (jn J 54 (jn J 59 ((16 * ((4 * ((jn J 36 38) - 1)) + kind)) + place))))) 73 4 ((J 73 4) + (nI 1))) 36 39 (nI ((jn J 36 39) + 1))) := by unfold R_begin; rw [am_ite_f z89]
    exact r_vret k64_164 rfl ⟨rfl, by rw [e9], by rw [e9]; exact hT161⟩
  · refine r_iload k64_92 rfl ?_
    refine r_aload k64_93 rfl ?_
    refine r_pushn (v := nI 3) k64_94 rfl ?_
    refine j_call (ml := 2) k64_95 rfl (show 0 < d.1 by omega) (show 19 + 2 ≤ d.2 by omega) ⟨Nat.le_of_ble_eq_true rfl, Nat.le_of_ble_eq_true rfl, am_obB hB rfl, Nat.le_of_ble_eq_true rfl⟩ rfl (rest := [.int (nI (place))]) rfl (s_R_many hB hT86 3 (by omega) (hl)) (fun r h1 hq => ?_)
    obtain ⟨rfl, rfl⟩ := hq
    show am_wp _ _ _ [some (.ref 36), some (.int (nI (kind))), some (.int (nI (place))), some (.int (nI ((jn J 36 38) - 1)))] [.int (R_many (am_u2 (am_u2 (am_u2 (am_u2 (am_u2 (am_u2 (am_u2 J 64 (jn J 36 39) (nI ((jn J 36 38) - 1))) 65 (jn J 36 39) (nI kind)) 66 (jn J 36 39) (nI place)) 67 (jn J 36 39) (nI 0)) 68 (jn J 36 39) (nI 0)) 69 (jn J 36 39) (nI (jn J 61 ((jn J 36 38) - 1)))) 70 (jn J 36 39) (nI (jn J 62 ((jn J 36 38) - 1)))) 3), .int (nI (place))] _ _
    rw [show R_many (am_u2 (am_u2 (am_u2 (am_u2 (am_u2 (am_u2 (am_u2 J 64 (jn J 36 39) (nI ((jn J 36 38) - 1))) 65 (jn J 36 39) (nI kind)) 66 (jn J 36 39) (nI place)) 67 (jn J 36 39) (nI 0)) 68 (jn J 36 39) (nI 0)) 69 (jn J 36 39) (nI (jn J 61 ((jn J 36 38) - 1)))) 70 (jn J 36 39) (nI (jn J 62 ((jn J 36 38) - 1)))) 3 = nI (jn (am_u2 (am_u2 (am_u2 (am_u2 (am_u2 (am_u2 (am_u2 J 64 (jn J 36 39) (nI ((jn J 36 38) - 1))) 65 (jn J 36 39) (nI kind)) 66 (jn J 36 39) (nI place)) 67 (jn J 36 39) (nI 0)) 68 (jn J 36 39) (nI 0)) 69 (jn J 36 39) (nI (jn J 61 ((jn J 36 38) - 1)))) 70 (jn J 36 39) (nI (jn J 62 ((jn J 36 38) - 1)))) 60 ((4 * ((jn (am_u2 (am_u2 (am_u2 (am_u2 (am_u2 (am_u2 (am_u2 J 64 (jn J 36 39) (nI ((jn J 36 38) - 1))) 65 (jn J 36 39) (nI kind)) 66 (jn J 36 39) (nI place)) 67 (jn J 36 39) (nI 0)) 68 (jn J 36 39) (nI 0)) 69 (jn J 36 39) (nI (jn J 61 ((jn J 36 38) - 1)))) 70 (jn J 36 39) (nI (jn J 62 ((jn J 36 38) - 1)))) 36 38) - 1)) + 3)) from rfl]
    have b95 := ty_n hT86 (q := 60) (B := 17) (by decide) (by decide) ((4 * ((jn (am_u2 (am_u2 (am_u2 (am_u2 (am_u2 (am_u2 (am_u2 J 64 (jn J 36 39) (nI ((jn J 36 38) - 1))) 65 (jn J 36 39) (nI kind)) 66 (jn J 36 39) (nI place)) 67 (jn J 36 39) (nI 0)) 68 (jn J 36 39) (nI 0)) 69 (jn J 36 39) (nI (jn J 61 ((jn J 36 38) - 1)))) 70 (jn J 36 39) (nI (jn J 62 ((jn J 36 38) - 1)))) 36 38) - 1)) + 3)
    refine r_icmpneN (by omega) (by omega) k64_98 (fun z98 => ?_) (fun z98 => ?_)
    · refine r_aload k64_115 rfl ?_
      refine j_ref (b := 71) k64_116 hB rfl ?_
      refine r_aload k64_119 rfl ?_
      have b120 := ty_f hT (q := 36) (j := 39) (B := 321) (by decide) (by decide)
      refine j_get (j := 39) (v := (nI (jn J 36 39))) k64_120 hB rfl b120.1 ?_
      refine r_aload k64_123 rfl ?_
      refine j_ref (b := 54) k64_124 hB rfl ?_
      refine r_aload k64_127 rfl ?_
      refine j_ref (b := 59) k64_128 hB rfl ?_
      refine r_pushn (v := nI 16) k64_131 rfl ?_
      refine r_pushn (v := nI 4) k64_133 rfl ?_
      refine r_iload k64_134 rfl ?_
      refine r_imulN k64_135 ?_
      refine r_iload k64_136 rfl ?_
      refine r_iaddN k64_137 ?_
      refine r_imulN k64_138 ?_
      refine r_iload k64_139 rfl ?_
      refine r_iaddN k64_140 ?_
      have b141 := ty_n hT (q := 59) (B := 16) (by decide) (by decide) ((16 * ((4 * ((jn J 36 38) - 1)) + kind)) + place)
      refine j_ald (n := 832) (j := ((16 * ((4 * ((jn J 36 38) - 1)) + kind)) + place)) (v := (nI (jn J 59 ((16 * ((4 * ((jn J 36 38) - 1)) + kind)) + place)))) k64_141 hB rfl rfl (by omega) b141.1 ?_
      have b142 := ty_n hT (q := 54) (B := 8) (by decide) (by decide) (jn J 59 ((16 * ((4 * ((jn J 36 38) - 1)) + kind)) + place))
      refine j_ald (n := 16) (j := (jn J 59 ((16 * ((4 * ((jn J 36 38) - 1)) + kind)) + place))) (v := (nI (jn J 54 (jn J 59 ((16 * ((4 * ((jn J 36 38) - 1)) + kind)) + place))))) k64_142 hB rfl rfl (by omega) b142.1 ?_
      refine j_ast (n := 320) (j := (jn J 36 39)) k64_143 hB rfl rfl (by omega) ?_
      have hT143 : am_ty2 (am_u2 (am_u2 (am_u2 (am_u2 (am_u2 (am_u2 (am_u2 (am_u2 J 64 (jn J 36 39) (nI ((jn J 36 38) - 1))) 65 (jn J 36 39) (nI kind)) 66 (jn J 36 39) (nI place)) 67 (jn J 36 39) (nI 0)) 68 (jn J 36 39) (nI 0)) 69 (jn J 36 39) (nI (jn J 61 ((jn J 36 38) - 1)))) 70 (jn J 36 39) (nI (jn J 62 ((jn J 36 38) - 1)))) 71 (jn J 36 39) (nI (jn J 54 (jn J 59 ((16 * ((4 * ((jn J 36 38) - 1)) + kind)) + place))))) := ty_w hT86 (tw_n (B := 8) (by decide) (by decide) (by decide) (by omega))
      refine r_aload k64_144 rfl ?_
      refine j_ref (b := 73) k64_145 hB rfl ?_
      refine r_pushn (v := nI 4) k64_148 rfl ?_
      refine r_dup2 rfl rfl k64_149 ?_
      refine j_ald (n := 10) (j := 4) (v := (J 73 4)) k64_150 hB rfl rfl (by omega) rfl ?_
      refine r_pushn (v := nI 1) k64_151 rfl ?_
      refine r_iadd k64_152 ?_
      refine j_ast (n := 10) (j := 4) k64_153 hB rfl rfl (by omega) ?_
      have hT153 : am_ty2 (am_u2 (am_u2 (am_u2 (am_u2 (am_u2 (am_u2 (am_u2 (am_u2 (am_u2 J 64 (jn J 36 39) (nI ((jn J 36 38) - 1))) 65 (jn J 36 39) (nI kind)) 66 (jn J 36 39) (nI place)) 67 (jn J 36 39) (nI 0)) 68 (jn J 36 39) (nI 0)) 69 (jn J 36 39) (nI (jn J 61 ((jn J 36 38) - 1)))) 70 (jn J 36 39) (nI (jn J 62 ((jn J 36 38) - 1)))) 71 (jn J 36 39) (nI (jn J 54 (jn J 59 ((16 * ((4 * ((jn J 36 38) - 1)) + kind)) + place))))) 73 4 ((J 73 4) + (nI 1))) := ty_w hT143 (tw_a (by decide) (by decide) (by decide))
      refine r_aload k64_154 rfl ?_
      refine r_dup rfl k64_155 ?_
      have b156 := ty_f hT (q := 36) (j := 39) (B := 321) (by decide) (by decide)
      refine j_get (j := 39) (v := (nI (jn J 36 39))) k64_156 hB rfl b156.1 ?_
      refine r_pushn (v := nI 1) k64_159 rfl ?_
      refine r_iaddN k64_160 ?_
      refine j_put (j := 39) k64_161 hB rfl rfl ?_
      have hT161 : am_ty2 (am_u2 (am_u2 (am_u2 (am_u2 (am_u2 (am_u2 (am_u2 (am_u2 (am_u2 (am_u2 J 64 (jn J 36 39) (nI ((jn J 36 38) - 1))) 65 (jn J 36 39) (nI kind)) 66 (jn J 36 39) (nI place)) 67 (jn J 36 39) (nI 0)) 68 (jn J 36 39) (nI 0)) 69 (jn J 36 39) (nI (jn J 61 ((jn J 36 38) - 1)))) 70 (jn J 36 39) (nI (jn J 62 ((jn J 36 38) - 1)))) 71 (jn J 36 39) (nI (jn J 54 (jn J 59 ((16 * ((4 * ((jn J 36 38) - 1)) + kind)) + place))))) 73 4 ((J 73 4) + (nI 1))) 36 39 (nI ((jn J 36 39) + 1))) := ty_w hT153 (tw_f (B := 321) (by decide) (by decide) (by decide) (by omega))
      have e9 : R_begin J kind place = (am_u2 (am_u2 (am_u2 (am_u2 (am_u2 (am_u2 (am_u2 (am_u2 (am_u2 (am_u2 J 64 (jn J 36 39) (nI ((jn J 36 38) - 1))) 65 (jn J 36 39) (nI kind)) 66 (jn J 36 39) (nI place)) 67 (jn J 36 39) (nI 0)) 68 (jn J 36 39) (nI 0)) 69 (jn J 36 39) (nI (jn J 61 ((jn J 36 38) - 1)))) 70 (jn J 36 39) (nI (jn J 62 ((jn J 36 38) - 1)))) 71 (jn J 36 39) (nI (jn J 54 (jn J 59 ((16 * ((4 * ((jn J 36 38) - 1)) + kind)) + place))))) 73 4 ((J 73 4) + (nI 1))) 36 39 (nI ((jn J 36 39) + 1))) := by unfold R_begin; rw [am_ite_t z89, am_ite_f z98]
      exact r_vret k64_164 rfl ⟨rfl, by rw [e9], by rw [e9]; exact hT161⟩
    · refine r_aload k64_101 rfl ?_
      refine j_ref (b := 65) k64_102 hB rfl ?_
      refine r_aload k64_105 rfl ?_
      have b106 := ty_f hT (q := 36) (j := 39) (B := 321) (by decide) (by decide)
      refine j_get (j := 39) (v := (nI (jn J 36 39))) k64_106 hB rfl b106.1 ?_
      refine r_pushn (v := nI 9) k64_109 rfl ?_
      refine j_ast (n := 320) (j := (jn J 36 39)) k64_111 hB rfl rfl (by omega) ?_
      have hT111 : am_ty2 (am_u2 (am_u2 (am_u2 (am_u2 (am_u2 (am_u2 (am_u2 (am_u2 J 64 (jn J 36 39) (nI ((jn J 36 38) - 1))) 65 (jn J 36 39) (nI kind)) 66 (jn J 36 39) (nI place)) 67 (jn J 36 39) (nI 0)) 68 (jn J 36 39) (nI 0)) 69 (jn J 36 39) (nI (jn J 61 ((jn J 36 38) - 1)))) 70 (jn J 36 39) (nI (jn J 62 ((jn J 36 38) - 1)))) 65 (jn J 36 39) (nI 9)) := ty_w hT86 (tw_n (B := 10) (by decide) (by decide) (by decide) (by omega))
      refine r_goto k64_112 ?_
      refine r_aload k64_154 rfl ?_
      refine r_dup rfl k64_155 ?_
      have b156 := ty_f hT (q := 36) (j := 39) (B := 321) (by decide) (by decide)
      refine j_get (j := 39) (v := (nI (jn J 36 39))) k64_156 hB rfl b156.1 ?_
      refine r_pushn (v := nI 1) k64_159 rfl ?_
      refine r_iaddN k64_160 ?_
      refine j_put (j := 39) k64_161 hB rfl rfl ?_
      have hT161 : am_ty2 (am_u2 (am_u2 (am_u2 (am_u2 (am_u2 (am_u2 (am_u2 (am_u2 (am_u2 J 64 (jn J 36 39) (nI ((jn J 36 38) - 1))) 65 (jn J 36 39) (nI kind)) 66 (jn J 36 39) (nI place)) 67 (jn J 36 39) (nI 0)) 68 (jn J 36 39) (nI 0)) 69 (jn J 36 39) (nI (jn J 61 ((jn J 36 38) - 1)))) 70 (jn J 36 39) (nI (jn J 62 ((jn J 36 38) - 1)))) 65 (jn J 36 39) (nI 9)) 36 39 (nI ((jn J 36 39) + 1))) := ty_w hT111 (tw_f (B := 321) (by decide) (by decide) (by decide) (by omega))
      have e9 : R_begin J kind place = (am_u2 (am_u2 (am_u2 (am_u2 (am_u2 (am_u2 (am_u2 (am_u2 (am_u2 J 64 (jn J 36 39) (nI ((jn J 36 38) - 1))) 65 (jn J 36 39) (nI kind)) 66 (jn J 36 39) (nI place)) 67 (jn J 36 39) (nI 0)) 68 (jn J 36 39) (nI 0)) 69 (jn J 36 39) (nI (jn J 61 ((jn J 36 38) - 1)))) 70 (jn J 36 39) (nI (jn J 62 ((jn J 36 38) - 1)))) 65 (jn J 36 39) (nI 9)) 36 39 (nI ((jn J 36 39) + 1))) := by unfold R_begin; rw [am_ite_t z89, am_ite_t z98]
      exact r_vret k64_164 rfl ⟨rfl, by rw [e9], by rw [e9]; exact hT161⟩
theorem fr_R_begin {J : Nat → Nat → Int32} {kind : Nat} {place : Nat} (q : Nat) (hq : ¬ q = 36 ∧ ¬ q = 64 ∧ ¬ q = 65 ∧ ¬ q = 66 ∧ ¬ q = 67 ∧ ¬ q = 68 ∧ ¬ q = 69 ∧ ¬ q = 70 ∧ ¬ q = 71 ∧ ¬ q = 73) : (R_begin J kind place) q = J q := by
  unfold R_begin
  refine fr_i0 (fun _ => ?_) (fun _ => ?_)
  · refine fr_i0 (fun _ => ?_) (fun _ => ?_)
    · exact (fr_u (by omega)).trans ((fr_u (by omega)).trans ((fr_u (by omega)).trans ((fr_u (by omega)).trans ((fr_u (by omega)).trans ((fr_u (by omega)).trans ((fr_u (by omega)).trans ((fr_u (by omega)).trans (fr_u (by omega)))))))))
    · exact (fr_u (by omega)).trans ((fr_u (by omega)).trans ((fr_u (by omega)).trans ((fr_u (by omega)).trans ((fr_u (by omega)).trans ((fr_u (by omega)).trans ((fr_u (by omega)).trans ((fr_u (by omega)).trans ((fr_u (by omega)).trans (fr_u (by omega))))))))))
  · exact (fr_u (by omega)).trans ((fr_u (by omega)).trans ((fr_u (by omega)).trans ((fr_u (by omega)).trans ((fr_u (by omega)).trans ((fr_u (by omega)).trans ((fr_u (by omega)).trans ((fr_u (by omega)).trans ((fr_u (by omega)).trans (fr_u (by omega))))))))))
noncomputable def R_give (J : Nat → Nat → Int32) (v : Int32) : (Nat → Nat → Int32) := (am_ite (((jn J 36 39) - 1) = 0) (am_u2 (am_u2 J 36 39 (nI ((jn J 36 39) - 1))) 36 42 v) (am_ite ((jn J 65 (((jn J 36 39) - 1) - 1)) = 9) (am_ite ((jn J 67 (((jn J 36 39) - 1) - 1)) = ((jn (am_u2 (am_u2 J 36 39 (nI ((jn J 36 39) - 1))) 36 38 (nI ((jn J 64 (((jn J 36 39) - 1) - 1)) + 1))) 60 ((4 * ((jn (am_u2 (am_u2 J 36 39 (nI ((jn J 36 39) - 1))) 36 38 (nI ((jn J 64 (((jn J 36 39) - 1) - 1)) + 1))) 36 38) - 1)) + 1)) + 1)) (am_u2 (am_u2 (am_u2 J 36 39 (nI ((jn J 36 39) - 1))) 36 38 (nI ((jn J 64 (((jn J 36 39) - 1) - 1)) + 1))) 68 (((jn J 36 39) - 1) - 1) v) (am_u2 (am_u2 J 36 39 (nI ((jn J 36 39) - 1))) 36 38 (nI ((jn J 64 (((jn J 36 39) - 1) - 1)) + 1)))) (am_u2 (am_u2 (am_u2 J 36 39 (nI ((jn J 36 39) - 1))) 36 38 (nI ((jn J 64 (((jn J 36 39) - 1) - 1)) + 1))) 68 (((jn J 36 39) - 1) - 1) ((J 68 (((jn J 36 39) - 1) - 1)) + v))))
set_option maxRecDepth 20000 in
theorem s_R_give {d : am_D} {h : am_H} {J : Nat → Nat → Int32} (hB : am_B h) (hT : am_ty2 J) (v : Int32) (h0 : 0 < jn J 36 39) (hd : 1 ≤ d.1) (hw : 21 ≤ d.2) : am_wp d 65 0 [some (.ref 36), some (.int (v)), none] [] (am_si h J) (fun r h' => r = none ∧ h' = am_si h (R_give J v) ∧ am_ty2 (R_give J v)) := by
  refine r_aload k65_0 rfl ?_
  refine r_dup rfl k65_1 ?_
  have b2 := ty_f hT (q := 36) (j := 39) (B := 321) (by decide) (by decide)
  refine j_get (j := 39) (v := (nI (jn J 36 39))) k65_2 hB rfl b2.1 ?_
  refine r_pushn (v := nI 1) k65_5 rfl ?_
  refine r_isubN (by omega) k65_6 ?_
  refine j_put (j := 39) k65_7 hB rfl rfl ?_
  have hT7 : am_ty2 (am_u2 J 36 39 (nI ((jn J 36 39) - 1))) := ty_w hT (tw_f (B := 321) (by decide) (by decide) (by decide) (by omega))
  refine r_aload k65_10 rfl ?_
  refine j_get (j := 39) (v := (nI ((jn J 36 39) - 1))) k65_11 hB rfl (am_u2_s (J := J) (q := 36) (j := 39) (x := (nI ((jn J 36 39) - 1)))) ?_
  refine r_ifneN (by omega) k65_14 (fun z14 => ?_) (fun z14 => ?_)
  · refine r_aload k65_24 rfl ?_
    refine j_get (j := 39) (v := (nI ((jn J 36 39) - 1))) k65_25 hB rfl (am_u2_s (J := J) (q := 36) (j := 39) (x := (nI ((jn J 36 39) - 1)))) ?_
    refine r_pushn (v := nI 1) k65_28 rfl ?_
    refine r_isubN (by omega) k65_29 ?_
    refine r_istore (L' := [some (.ref 36), some (.int (v)), some (.int (nI (((jn J 36 39) - 1) - 1)))]) k65_30 (Nat.le_of_ble_eq_true rfl) rfl ?_
    refine r_aload k65_31 rfl ?_
    refine r_aload k65_32 rfl ?_
    refine j_ref (b := 64) k65_33 hB rfl ?_
    refine r_iload k65_36 rfl ?_
    have b37 := ty_n hT (q := 64) (B := 12) (by decide) (by decide) (((jn J 36 39) - 1) - 1)
    refine j_ald (n := 320) (j := (((jn J 36 39) - 1) - 1)) (v := (nI (jn J 64 (((jn J 36 39) - 1) - 1)))) k65_37 hB rfl rfl (by omega) b37.1 ?_
    refine r_pushn (v := nI 1) k65_38 rfl ?_
    refine r_iaddN k65_39 ?_
    refine j_put (j := 38) k65_40 hB rfl rfl ?_
    have hT40 : am_ty2 (am_u2 (am_u2 J 36 39 (nI ((jn J 36 39) - 1))) 36 38 (nI ((jn J 64 (((jn J 36 39) - 1) - 1)) + 1))) := ty_w hT7 (tw_f (B := 13) (by decide) (by decide) (by decide) (by omega))
    refine r_aload k65_43 rfl ?_
    refine j_ref (b := 65) k65_44 hB rfl ?_
    refine r_iload k65_47 rfl ?_
    have b48 := ty_n hT (q := 65) (B := 10) (by decide) (by decide) (((jn J 36 39) - 1) - 1)
    refine j_ald (n := 320) (j := (((jn J 36 39) - 1) - 1)) (v := (nI (jn J 65 (((jn J 36 39) - 1) - 1)))) k65_48 hB rfl rfl (by omega) b48.1 ?_
    refine r_pushn (v := nI 9) k65_49 rfl ?_
    refine r_icmpeqN (by omega) (by omega) k65_51 (fun z51 => ?_) (fun z51 => ?_)
    · refine r_aload k65_67 rfl ?_
      refine j_ref (b := 67) k65_68 hB rfl ?_
      refine r_iload k65_71 rfl ?_
      have b72 := ty_n hT (q := 67) (B := 20) (by decide) (by decide) (((jn J 36 39) - 1) - 1)
      refine j_ald (n := 320) (j := (((jn J 36 39) - 1) - 1)) (v := (nI (jn J 67 (((jn J 36 39) - 1) - 1)))) k65_72 hB rfl rfl (by omega) b72.1 ?_
      refine r_aload k65_73 rfl ?_
      refine r_pushn (v := nI 1) k65_74 rfl ?_
      refine j_call (ml := 2) k65_75 rfl (show 0 < d.1 by omega) (show 19 + 2 ≤ d.2 by omega) ⟨Nat.le_of_ble_eq_true rfl, Nat.le_of_ble_eq_true rfl, am_obB hB rfl, Nat.le_of_ble_eq_true rfl⟩ rfl (rest := [.int (nI (jn J 67 (((jn J 36 39) - 1) - 1)))]) rfl (s_R_many hB hT40 1 (by omega) (by rw [jn_u (by omega)]; omega)) (fun r h1 hq => ?_)
      obtain ⟨rfl, rfl⟩ := hq
      show am_wp _ _ _ [some (.ref 36), some (.int (v)), some (.int (nI (((jn J 36 39) - 1) - 1)))] [.int (R_many (am_u2 (am_u2 J 36 39 (nI ((jn J 36 39) - 1))) 36 38 (nI ((jn J 64 (((jn J 36 39) - 1) - 1)) + 1))) 1), .int (nI (jn J 67 (((jn J 36 39) - 1) - 1)))] _ _
      rw [show R_many (am_u2 (am_u2 J 36 39 (nI ((jn J 36 39) - 1))) 36 38 (nI ((jn J 64 (((jn J 36 39) - 1) - 1)) + 1))) 1 = nI (jn (am_u2 (am_u2 J 36 39 (nI ((jn J 36 39) - 1))) 36 38 (nI ((jn J 64 (((jn J 36 39) - 1) - 1)) + 1))) 60 ((4 * ((jn (am_u2 (am_u2 J 36 39 (nI ((jn J 36 39) - 1))) 36 38 (nI ((jn J 64 (((jn J 36 39) - 1) - 1)) + 1))) 36 38) - 1)) + 1)) from rfl]
      have b75 := ty_n hT40 (q := 60) (B := 17) (by decide) (by decide) ((4 * ((jn (am_u2 (am_u2 J 36 39 (nI ((jn J 36 39) - 1))) 36 38 (nI ((jn J 64 (((jn J 36 39) - 1) - 1)) + 1))) 36 38) - 1)) + 1)
      refine r_pushn (v := nI 1) k65_78 rfl ?_
      refine r_iaddN k65_79 ?_
      refine r_icmpneN (by omega) (by omega) k65_80 (fun z80 => ?_) (fun z80 => ?_)
      · have e9 : R_give J v = (am_u2 (am_u2 J 36 39 (nI ((jn J 36 39) - 1))) 36 38 (nI ((jn J 64 (((jn J 36 39) - 1) - 1)) + 1))) := by unfold R_give; rw [am_ite_f z14, am_ite_t z51, am_ite_f z80]
        exact r_vret k65_90 rfl ⟨rfl, by rw [e9], by rw [e9]; exact hT40⟩
      · refine r_aload k65_83 rfl ?_
        refine j_ref (b := 68) k65_84 hB rfl ?_
        refine r_iload k65_87 rfl ?_
        refine r_iload k65_88 rfl ?_
        refine j_ast (n := 320) (j := (((jn J 36 39) - 1) - 1)) k65_89 hB rfl rfl (by omega) ?_
        have hT89 : am_ty2 (am_u2 (am_u2 (am_u2 J 36 39 (nI ((jn J 36 39) - 1))) 36 38 (nI ((jn J 64 (((jn J 36 39) - 1) - 1)) + 1))) 68 (((jn J 36 39) - 1) - 1) v) := ty_w hT40 (tw_a (by decide) (by decide) (by decide))
        have e9 : R_give J v = (am_u2 (am_u2 (am_u2 J 36 39 (nI ((jn J 36 39) - 1))) 36 38 (nI ((jn J 64 (((jn J 36 39) - 1) - 1)) + 1))) 68 (((jn J 36 39) - 1) - 1) v) := by unfold R_give; rw [am_ite_f z14, am_ite_t z51, am_ite_t z80]
        exact r_vret k65_90 rfl ⟨rfl, by rw [e9], by rw [e9]; exact hT89⟩
    · refine r_aload k65_54 rfl ?_
      refine j_ref (b := 68) k65_55 hB rfl ?_
      refine r_iload k65_58 rfl ?_
      refine r_dup2 rfl rfl k65_59 ?_
      refine j_ald (n := 320) (j := (((jn J 36 39) - 1) - 1)) (v := (J 68 (((jn J 36 39) - 1) - 1))) k65_60 hB rfl rfl (by omega) rfl ?_
      refine r_iload k65_61 rfl ?_
      refine r_iadd k65_62 ?_
      refine j_ast (n := 320) (j := (((jn J 36 39) - 1) - 1)) k65_63 hB rfl rfl (by omega) ?_
      have hT63 : am_ty2 (am_u2 (am_u2 (am_u2 J 36 39 (nI ((jn J 36 39) - 1))) 36 38 (nI ((jn J 64 (((jn J 36 39) - 1) - 1)) + 1))) 68 (((jn J 36 39) - 1) - 1) ((J 68 (((jn J 36 39) - 1) - 1)) + v)) := ty_w hT40 (tw_a (by decide) (by decide) (by decide))
      refine r_goto k65_64 ?_
      have e9 : R_give J v = (am_u2 (am_u2 (am_u2 J 36 39 (nI ((jn J 36 39) - 1))) 36 38 (nI ((jn J 64 (((jn J 36 39) - 1) - 1)) + 1))) 68 (((jn J 36 39) - 1) - 1) ((J 68 (((jn J 36 39) - 1) - 1)) + v)) := by unfold R_give; rw [am_ite_f z14, am_ite_f z51]
      exact r_vret k65_90 rfl ⟨rfl, by rw [e9], by rw [e9]; exact hT63⟩
  · refine r_aload k65_17 rfl ?_
    refine r_iload k65_18 rfl ?_
    refine r_i2l k65_19 ?_
    refine j_putL (j := 42) (x := v) k65_20 hB rfl ?_
    have hT20 : am_ty2 (am_u2 (am_u2 J 36 39 (nI ((jn J 36 39) - 1))) 36 42 v) := ty_w hT7 (tw_u (by decide) (by decide) (by decide))
    have e9 : R_give J v = (am_u2 (am_u2 J 36 39 (nI ((jn J 36 39) - 1))) 36 42 v) := by unfold R_give; rw [am_ite_t z14]
    exact r_vret k65_23 rfl ⟨rfl, by rw [e9], by rw [e9]; exact hT20⟩
theorem fr_R_give {J : Nat → Nat → Int32} {v : Int32} (q : Nat) (hq : ¬ q = 36 ∧ ¬ q = 68) : (R_give J v) q = J q := by
  unfold R_give
  refine fr_i0 (fun _ => ?_) (fun _ => ?_)
  · exact (fr_u (by omega)).trans (fr_u (by omega))
  · refine fr_i0 (fun _ => ?_) (fun _ => ?_)
    · refine fr_i0 (fun _ => ?_) (fun _ => ?_)
      · exact (fr_u (by omega)).trans ((fr_u (by omega)).trans (fr_u (by omega)))
      · exact (fr_u (by omega)).trans (fr_u (by omega))
    · exact (fr_u (by omega)).trans ((fr_u (by omega)).trans (fr_u (by omega)))
noncomputable def R_mid (J : Nat → Nat → Int32) (f : Nat) : (Nat → Nat → Int32) := (am_ite ((jn J 60 ((4 * ((jn J 36 38) - 1)) + 1)) ≤ (jn J 67 f)) (am_ite ((jn J 67 f) = (jn J 60 ((4 * ((jn J 36 38) - 1)) + 1))) (R_begin (am_u2 J 67 f (nI ((jn J 67 f) + 1))) 0 0) (am_ite (((jn J 60 ((4 * ((jn J 36 38) - 1)) + 1)) + (jn J 60 ((4 * ((jn J 36 38) - 1)) + 2))) < (jn J 67 f)) (R_give (am_u2 J 67 f (nI ((jn J 67 f) + 1))) (J 68 f)) (R_begin (am_u2 J 67 f (nI ((jn J 67 f) + 1))) 2 ((jn J 60 ((4 * ((jn J 36 38) - 1)) + 2)) - ((jn J 67 f) - (jn J 60 ((4 * ((jn J 36 38) - 1)) + 1))))))) (R_begin (am_u2 J 67 f (nI ((jn J 67 f) + 1))) 1 (jn J 67 f)))
set_option maxRecDepth 20000 in
theorem s_R_mid {d : am_D} {h : am_H} {J : Nat → Nat → Int32} (hB : am_B h) (hT : am_ty2 J) (f : Nat) (hf : f < 320) (hl : 0 < jn J 36 38) (hs9 : jn J 67 f < 19) (ht : jn J 36 39 < 320) (h0 : 0 < jn J 36 39) (hd : 2 ≤ d.1) (hw : 44 ≤ d.2) : am_wp d 66 0 [some (.ref 36), some (.int (nI (f))), none, none, none] [] (am_si h J) (fun r h' => r = none ∧ h' = am_si h (R_mid J f) ∧ am_ty2 (R_mid J f)) := by
  refine r_aload k66_0 rfl ?_
  refine r_pushn (v := nI 1) k66_1 rfl ?_
  refine j_call (ml := 2) k66_2 rfl (show 0 < d.1 by omega) (show 19 + 2 ≤ d.2 by omega) ⟨Nat.le_of_ble_eq_true rfl, Nat.le_of_ble_eq_true rfl, am_obB hB rfl, Nat.le_of_ble_eq_true rfl⟩ rfl (rest := []) rfl (s_R_many hB hT 1 (by omega) (hl)) (fun r h1 hq => ?_)
  obtain ⟨rfl, rfl⟩ := hq
  show am_wp _ _ _ [some (.ref 36), some (.int (nI (f))), none, none, none] [.int (R_many J 1)] _ _
  rw [show R_many J 1 = nI (jn J 60 ((4 * ((jn J 36 38) - 1)) + 1)) from rfl]
  have b2 := ty_n hT (q := 60) (B := 17) (by decide) (by decide) ((4 * ((jn J 36 38) - 1)) + 1)
  refine r_istore (L' := [some (.ref 36), some (.int (nI (f))), some (.int (nI (jn J 60 ((4 * ((jn J 36 38) - 1)) + 1)))), none, none]) k66_5 (Nat.le_of_ble_eq_true rfl) rfl ?_
  refine r_aload k66_6 rfl ?_
  refine r_pushn (v := nI 2) k66_7 rfl ?_
  refine j_call (ml := 2) k66_8 rfl (show 0 < d.1 by omega) (show 19 + 2 ≤ d.2 by omega) ⟨Nat.le_of_ble_eq_true rfl, Nat.le_of_ble_eq_true rfl, am_obB hB rfl, Nat.le_of_ble_eq_true rfl⟩ rfl (rest := []) rfl (s_R_many hB hT 2 (by omega) (hl)) (fun r h1 hq => ?_)
  obtain ⟨rfl, rfl⟩ := hq
  show am_wp _ _ _ [some (.ref 36), some (.int (nI (f))), some (.int (nI (jn J 60 ((4 * ((jn J 36 38) - 1)) + 1)))), none, none] [.int (R_many J 2)] _ _
  rw [show R_many J 2 = nI (jn J 60 ((4 * ((jn J 36 38) - 1)) + 2)) from rfl]
  have b8 := ty_n hT (q := 60) (B := 17) (by decide) (by decide) ((4 * ((jn J 36 38) - 1)) + 2)
  refine r_istore (L' := [some (.ref 36), some (.int (nI (f))), some (.int (nI (jn J 60 ((4 * ((jn J 36 38) - 1)) + 1)))), some (.int (nI (jn J 60 ((4 * ((jn J 36 38) - 1)) + 2)))), none]) k66_11 (Nat.le_of_ble_eq_true rfl) rfl ?_
  refine r_aload k66_12 rfl ?_
  refine j_ref (b := 67) k66_13 hB rfl ?_
  refine r_iload k66_16 rfl ?_
  refine r_dup2 rfl rfl k66_17 ?_
  have b18 := ty_n hT (q := 67) (B := 20) (by decide) (by decide) f
  refine j_ald (n := 320) (j := f) (v := (nI (jn J 67 f))) k66_18 hB rfl rfl (by omega) b18.1 ?_
  refine r_dupx2 rfl rfl rfl k66_19 ?_
  refine r_pushn (v := nI 1) k66_20 rfl ?_
  refine r_iaddN k66_21 ?_
  refine j_ast (n := 320) (j := f) k66_22 hB rfl rfl (by omega) ?_
  have hT22 : am_ty2 (am_u2 J 67 f (nI ((jn J 67 f) + 1))) := ty_w hT (tw_n (B := 20) (by decide) (by decide) (by decide) (by omega))
  refine r_istore (L' := [some (.ref 36), some (.int (nI (f))), some (.int (nI (jn J 60 ((4 * ((jn J 36 38) - 1)) + 1)))), some (.int (nI (jn J 60 ((4 * ((jn J 36 38) - 1)) + 2)))), some (.int (nI (jn J 67 f)))]) k66_23 (Nat.le_of_ble_eq_true rfl) rfl ?_
  refine r_iload k66_25 rfl ?_
  refine r_iload k66_27 rfl ?_
  refine r_icmpgeN (by omega) (by omega) k66_28 (fun z28 => ?_) (fun z28 => ?_)
  · refine r_iload k66_41 rfl ?_
    refine r_iload k66_43 rfl ?_
    refine r_icmpneN (by omega) (by omega) k66_44 (fun z44 => ?_) (fun z44 => ?_)
    · refine r_iload k66_56 rfl ?_
      refine r_iload k66_58 rfl ?_
      refine r_iload k66_59 rfl ?_
      refine r_iaddN k66_60 ?_
      refine r_icmpgtN (by omega) (by omega) k66_61 (fun z61 => ?_) (fun z61 => ?_)
      · refine r_aload k66_78 rfl ?_
        refine r_aload k66_79 rfl ?_
        refine j_ref (b := 68) k66_80 hB rfl ?_
        refine r_iload k66_83 rfl ?_
        refine j_ald (n := 320) (j := f) (v := (J 68 f)) k66_84 hB rfl rfl (by omega) rfl ?_
        refine j_call (ml := 3) k66_85 rfl (show 0 < d.1 by omega) (show 19 + 3 ≤ d.2 by omega) ⟨Nat.le_of_ble_eq_true rfl, Nat.le_of_ble_eq_true rfl, am_obB hB rfl, Nat.le_of_ble_eq_true rfl⟩ rfl (rest := []) rfl (s_R_give hB hT22 (J 68 f) (h0) (show 1 ≤ d.1 - 1 by omega) (show 21 ≤ d.2 - 22 by omega)) (fun r h1 hq => ?_)
        obtain ⟨rfl, rfl, hT85⟩ := hq
        show am_wp _ _ _ [some (.ref 36), some (.int (nI (f))), some (.int (nI (jn J 60 ((4 * ((jn J 36 38) - 1)) + 1)))), some (.int (nI (jn J 60 ((4 * ((jn J 36 38) - 1)) + 2)))), some (.int (nI (jn J 67 f)))] [] _ _
        have e9 : R_mid J f = (R_give (am_u2 J 67 f (nI ((jn J 67 f) + 1))) (J 68 f)) := by unfold R_mid; rw [am_ite_t z28, am_ite_f z44, am_ite_t z61]
        exact r_vret k66_88 rfl ⟨rfl, by rw [e9], by rw [e9]; exact hT85⟩
      · refine r_aload k66_64 rfl ?_
        refine r_pushn (v := nI 2) k66_65 rfl ?_
        refine r_iload k66_66 rfl ?_
        refine r_iload k66_67 rfl ?_
        refine r_iload k66_69 rfl ?_
        refine r_isubN (by omega) k66_70 ?_
        refine r_isubN (by omega) k66_71 ?_
        refine j_call (ml := 4) k66_72 rfl (show 0 < d.1 by omega) (show 19 + 4 ≤ d.2 by omega) ⟨Nat.le_of_ble_eq_true rfl, Nat.le_of_ble_eq_true rfl, am_obB hB rfl, Nat.le_of_ble_eq_true rfl⟩ rfl (rest := []) rfl (s_R_begin hB hT22 2 ((jn J 60 ((4 * ((jn J 36 38) - 1)) + 2)) - ((jn J 67 f) - (jn J 60 ((4 * ((jn J 36 38) - 1)) + 1)))) (by omega) (by omega) (hl) (ht) (show 1 ≤ d.1 - 1 by omega) (show 21 ≤ d.2 - 23 by omega)) (fun r h1 hq => ?_)
        obtain ⟨rfl, rfl, hT72⟩ := hq
        show am_wp _ _ _ [some (.ref 36), some (.int (nI (f))), some (.int (nI (jn J 60 ((4 * ((jn J 36 38) - 1)) + 1)))), some (.int (nI (jn J 60 ((4 * ((jn J 36 38) - 1)) + 2)))), some (.int (nI (jn J 67 f)))] [] _ _
        refine r_goto k66_75 ?_
        have e9 : R_mid J f = (R_begin (am_u2 J 67 f (nI ((jn J 67 f) + 1))) 2 ((jn J 60 ((4 * ((jn J 36 38) - 1)) + 2)) - ((jn J 67 f) - (jn J 60 ((4 * ((jn J 36 38) - 1)) + 1))))) := by unfold R_mid; rw [am_ite_t z28, am_ite_f z44, am_ite_f z61]
        exact r_vret k66_88 rfl ⟨rfl, by rw [e9], by rw [e9]; exact hT72⟩
    · refine r_aload k66_47 rfl ?_
      refine r_pushn (v := nI 0) k66_48 rfl ?_
      refine r_pushn (v := nI 0) k66_49 rfl ?_
      refine j_call (ml := 4) k66_50 rfl (show 0 < d.1 by omega) (show 19 + 4 ≤ d.2 by omega) ⟨Nat.le_of_ble_eq_true rfl, Nat.le_of_ble_eq_true rfl, am_obB hB rfl, Nat.le_of_ble_eq_true rfl⟩ rfl (rest := []) rfl (s_R_begin hB hT22 0 0 (by omega) (by omega) (hl) (ht) (show 1 ≤ d.1 - 1 by omega) (show 21 ≤ d.2 - 23 by omega)) (fun r h1 hq => ?_)
      obtain ⟨rfl, rfl, hT50⟩ := hq
      show am_wp _ _ _ [some (.ref 36), some (.int (nI (f))), some (.int (nI (jn J 60 ((4 * ((jn J 36 38) - 1)) + 1)))), some (.int (nI (jn J 60 ((4 * ((jn J 36 38) - 1)) + 2)))), some (.int (nI (jn J 67 f)))] [] _ _
      refine r_goto k66_53 ?_
      have e9 : R_mid J f = (R_begin (am_u2 J 67 f (nI ((jn J 67 f) + 1))) 0 0) := by unfold R_mid; rw [am_ite_t z28, am_ite_t z44]
      exact r_vret k66_88 rfl ⟨rfl, by rw [e9], by rw [e9]; exact hT50⟩
  · refine r_aload k66_31 rfl ?_
    refine r_pushn (v := nI 1) k66_32 rfl ?_
    refine r_iload k66_33 rfl ?_
    refine j_call (ml := 4) k66_35 rfl (show 0 < d.1 by omega) (show 19 + 4 ≤ d.2 by omega) ⟨Nat.le_of_ble_eq_true rfl, Nat.le_of_ble_eq_true rfl, am_obB hB rfl, Nat.le_of_ble_eq_true rfl⟩ rfl (rest := []) rfl (s_R_begin hB hT22 1 (jn J 67 f) (by omega) (by omega) (hl) (ht) (show 1 ≤ d.1 - 1 by omega) (show 21 ≤ d.2 - 23 by omega)) (fun r h1 hq => ?_)
    obtain ⟨rfl, rfl, hT35⟩ := hq
    show am_wp _ _ _ [some (.ref 36), some (.int (nI (f))), some (.int (nI (jn J 60 ((4 * ((jn J 36 38) - 1)) + 1)))), some (.int (nI (jn J 60 ((4 * ((jn J 36 38) - 1)) + 2)))), some (.int (nI (jn J 67 f)))] [] _ _
    refine r_goto k66_38 ?_
    have e9 : R_mid J f = (R_begin (am_u2 J 67 f (nI ((jn J 67 f) + 1))) 1 (jn J 67 f)) := by unfold R_mid; rw [am_ite_f z28]
    exact r_vret k66_88 rfl ⟨rfl, by rw [e9], by rw [e9]; exact hT35⟩
theorem fr_R_mid {J : Nat → Nat → Int32} {f : Nat} (q : Nat) (hq : ¬ q = 36 ∧ ¬ q = 64 ∧ ¬ q = 65 ∧ ¬ q = 66 ∧ ¬ q = 67 ∧ ¬ q = 68 ∧ ¬ q = 69 ∧ ¬ q = 70 ∧ ¬ q = 71 ∧ ¬ q = 73) : (R_mid J f) q = J q := by
  unfold R_mid
  refine fr_i0 (fun _ => ?_) (fun _ => ?_)
  · refine fr_i0 (fun _ => ?_) (fun _ => ?_)
    · exact (fr_R_begin q (by omega)).trans (fr_u (by omega))
    · refine fr_i0 (fun _ => ?_) (fun _ => ?_)
      · exact (fr_R_give q (by omega)).trans (fr_u (by omega))
      · exact (fr_R_begin q (by omega)).trans (fr_u (by omega))
  · exact (fr_R_begin q (by omega)).trans (fr_u (by omega))
