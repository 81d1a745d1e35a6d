/-! The reference: small methods. -/
/-- a tableswitch goes to its default: x is none of the live values -/
theorem am_tsd {d : am_D} {mi pc nx : Nat} {L : am_L} {st : List Value} {h : am_H} {Q : Option Value → am_H → Prop} {dt lo hi : Int} {ts : Array Int} {x : Int32} (hat : am_at mi pc = some (.tableswitch dt lo hi ts, nx)) (h1 : ∀ v : Nat, lo ≤ v → (v : Int) ≤ hi → (¬ x = nI v) ∨ ts[((v : Int) - lo).toNat]? = some dt) (h2 : ∀ v : Nat, lo ≤ v → (v : Int) ≤ hi → True → True = True) (k : am_wp d mi dt.toNat L st h Q) (h0 : 0 ≤ lo := by decide) (h9 : hi < 1000 := by decide) : am_wp d mi pc L (.int x :: st) h Q := by
  by_cases hc : x.toInt < lo ∨ hi < x.toInt
  · exact r_tsOut hat hc k
  · have hx : ¬ x < 0 := fun z => by
      rw [Int32.lt_iff_toInt_lt] at z
      have : (0 : Int32).toInt = 0 := rfl
      omega
    obtain ⟨j, hj, rfl⟩ := nI_of hx
    rw [nI_toInt hj] at hc
    rcases h1 j (by omega) (by omega) with g | g
    · exact absurd rfl g
    · exact r_tsIn (t := dt) hat (by rw [nI_toInt hj]; exact hc) (by rw [nI_toInt hj]; exact g) k
theorem am_b_n {e : Nat} (h : e < 2) : am_b (e = 1) = nI e := by
  rcases (show e = 0 ∨ e = 1 by omega) with rfl | rfl
  · exact am_b_f (by decide)
  · exact am_b_t rfl
theorem am_b_n1 {e : Nat} (h : e < 2) : nI e &&& 1 = nI e := by
  rcases (show e = 0 ∨ e = 1 by omega) with rfl | rfl <;> decide
noncomputable def r_is (n : Int32) (lo : Int32) (hi : Int32) : Prop := (am_ite (n < lo) ((False)) (am_ite (hi < n) ((False)) ((True))))
set_option maxRecDepth 20000 in
theorem s_r_is {d : am_D} {h : am_H} (n : Int32) (lo : Int32) (hi : Int32) : am_wp d 31 0 [some (.int (n)), some (.int (lo)), some (.int (hi))] [] h (fun r h' => r = some (.int (am_b (r_is n lo hi))) ∧ h' = h) := by
  refine r_iload k31_0 rfl ?_
  refine r_iload k31_1 rfl ?_
  refine r_icmplt k31_2 (fun z2 => ?_) (fun z2 => ?_)
  · refine r_pushn (v := nI 0) k31_14 rfl ?_
    have e9 : r_is n lo hi = ((False)) := by unfold r_is; rw [am_ite_t z2]
    exact r_zret k31_15 rfl (by decide) ⟨by rw [e9, am_b_f (fun q => q)]; rfl, rfl⟩
  · refine r_iload k31_5 rfl ?_
    refine r_iload k31_6 rfl ?_
    refine r_icmpgt k31_7 (fun z7 => ?_) (fun z7 => ?_)
    · refine r_pushn (v := nI 0) k31_14 rfl ?_
      have e9 : r_is n lo hi = ((False)) := by unfold r_is; rw [am_ite_f z2, am_ite_t z7]
      exact r_zret k31_15 rfl (by decide) ⟨by rw [e9, am_b_f (fun q => q)]; rfl, rfl⟩
    · refine r_pushn (v := nI 1) k31_10 rfl ?_
      refine r_goto k31_11 ?_
      have e9 : r_is n lo hi = ((True)) := by unfold r_is; rw [am_ite_f z2, am_ite_f z7]
      exact r_zret k31_15 rfl (by decide) ⟨by rw [e9, am_b_t True.intro]; rfl, rfl⟩
noncomputable def R_class (J : Nat → Nat → Int32) (c : Int32) : Prop := (am_ite (r_is c (nI 0) (nI 11)) (am_ite ((jn J 37 (jx c)) = 0) ((False)) ((True))) ((False)))
set_option maxRecDepth 20000 in
theorem s_R_class {d : am_D} {h : am_H} {J : Nat → Nat → Int32} (hB : am_B h) (hT : am_ty2 J) (c : Int32) (hd : 1 ≤ d.1) (hw : 22 ≤ d.2) : am_wp d 32 0 [some (.ref 36), some (.int (c))] [] (am_si h J) (fun r h' => r = some (.int (am_b (R_class J c))) ∧ h' = (am_si h J)) := by
  refine r_iload k32_0 rfl ?_
  refine r_pushn (v := nI 0) k32_1 rfl ?_
  refine r_pushn (v := nI 11) k32_2 rfl ?_
  refine j_call (ml := 3) k32_4 rfl (show 0 < d.1 by omega) (show 19 + 3 ≤ d.2 by omega) ⟨Nat.le_of_ble_eq_true rfl, Nat.le_of_ble_eq_true rfl, True.intro, Nat.le_of_ble_eq_true rfl⟩ rfl (rest := []) rfl (s_r_is c (nI 0) (nI 11)) (fun r h1 hq => ?_)
  obtain ⟨rfl, rfl⟩ := hq
  show am_wp _ _ _ [some (.ref 36), some (.int (c))] [.int (am_b (r_is c (nI 0) (nI 11)))] _ _
  refine r_ifeqB k32_7 (fun z7 => ?_) (fun z7 => ?_)
  · refine r_pushn (v := nI 0) k32_23 rfl ?_
    have e9 : R_class J c = ((False)) := by unfold R_class; rw [am_ite_f z7]
    exact r_zret k32_24 rfl (by decide) ⟨by rw [e9, am_b_f (fun q => q)]; rfl, rfl⟩
  · have e_c := jx_eq (by decide) (show w_in _ _ _ from z7)
    rw [show ([some (.ref 36), some (.int (c))] : am_L) = [some (.ref 36), some (.int (nI (jx c)))] by rw [← e_c.1]]
    refine r_aload k32_10 rfl ?_
    refine j_ref (b := 37) k32_11 hB rfl ?_
    refine r_iload k32_14 rfl ?_
    have b15 := ty_n hT (q := 37) (B := 2) (by decide) (by decide) (jx c)
    refine j_zld (n := 12) (j := (jx c)) (v := (nI (jn J 37 (jx c)))) k32_15 hB rfl rfl (by omega) b15.1 ?_
    refine r_ifeqN (by omega) k32_16 (fun z16 => ?_) (fun z16 => ?_)
    · refine r_pushn (v := nI 0) k32_23 rfl ?_
      have e9 : R_class J c = ((False)) := by unfold R_class; rw [am_ite_t z7, am_ite_t z16]
      exact r_zret k32_24 rfl (by decide) ⟨by rw [e9, am_b_f (fun q => q)]; rfl, rfl⟩
    · refine r_pushn (v := nI 1) k32_19 rfl ?_
      refine r_goto k32_20 ?_
      have e9 : R_class J c = ((True)) := by unfold R_class; rw [am_ite_t z7, am_ite_f z16]
      exact r_zret k32_24 rfl (by decide) ⟨by rw [e9, am_b_t True.intro]; rfl, rfl⟩
theorem R_class_r {J : Nat → Nat → Int32} {c : Int32} (h : R_class J c) : c = nI (jx c) ∧ jx c ≤ 11 := by
  unfold R_class at h
  by_cases h1 : r_is c (nI 0) (nI 11)
  · exact jx_eq (by decide) (show w_in _ _ _ from h1)
  · rw [am_ite_f h1] at h; exact h.elim
noncomputable def R_inst (J : Nat → Nat → Int32) (i : Int32) : Prop := ((r_is i (nI 0) ((nI (jn J 36 37)) - (nI 1))))
set_option maxRecDepth 20000 in
theorem s_R_inst {d : am_D} {h : am_H} {J : Nat → Nat → Int32} (hB : am_B h) (hT : am_ty2 J) (i : Int32) (hd : 1 ≤ d.1) (hw : 22 ≤ d.2) : am_wp d 33 0 [some (.ref 36), some (.int (i))] [] (am_si h J) (fun r h' => r = some (.int (am_b (R_inst J i))) ∧ h' = (am_si h J)) := by
  refine r_iload k33_0 rfl ?_
  refine r_pushn (v := nI 0) k33_1 rfl ?_
  refine r_aload k33_2 rfl ?_
  have b3 := ty_f hT (q := 36) (j := 37) (B := 13) (by decide) (by decide)
  refine j_get (j := 37) (v := (nI (jn J 36 37))) k33_3 hB rfl b3.1 ?_
  refine r_pushn (v := nI 1) k33_6 rfl ?_
  refine r_isub k33_7 ?_
  refine j_call (ml := 3) k33_8 rfl (show 0 < d.1 by omega) (show 19 + 3 ≤ d.2 by omega) ⟨Nat.le_of_ble_eq_true rfl, Nat.le_of_ble_eq_true rfl, True.intro, Nat.le_of_ble_eq_true rfl⟩ rfl (rest := []) rfl (s_r_is i (nI 0) ((nI (jn J 36 37)) - (nI 1))) (fun r h1 hq => ?_)
  obtain ⟨rfl, rfl⟩ := hq
  show am_wp _ _ _ [some (.ref 36), some (.int (i))] [.int (am_b (r_is i (nI 0) ((nI (jn J 36 37)) - (nI 1))))] _ _
  have e9 : R_inst J i = ((r_is i (nI 0) ((nI (jn J 36 37)) - (nI 1)))) := rfl
  exact r_zret k33_11 rfl am_b_1 ⟨by rw [e9], rfl⟩
theorem R_inst_r {J : Nat → Nat → Int32} (hT : am_ty2 J) {i : Int32} (h : R_inst J i) : i = nI (jx i) ∧ jx i < jn J 36 37 ∧ jx i < 12 := by
  have b := ty_f hT (q := 36) (j := 37) (B := 13) (by decide) (by decide)
  have g := w_in_lt (by omega) (show w_in _ _ _ from h)
  exact ⟨g.1, g.2, by omega⟩
noncomputable def R_pl (c : Nat) (x : Int32) : Nat → Nat → (Nat → Nat → Int32) → Int32
  | 0, k, J => ((((-1))))
  | m + 1, k, J => (am_ite ((nI (jn J 39 ((12 * c) + k))) = x) (((nI k))) (R_pl c x m (k + 1) J))
set_option maxRecDepth 20000 in
theorem l_R_pl {d : am_D} {h : am_H} {Q : Option Value → am_H → Prop} (hB : am_B h) (c : Nat) (x : Int32) (hc : c < 12) : ∀ (m k : Nat) (J : Nat → Nat → Int32), am_ty2 J → k + m = jn J 40 c → Q (some (.int (R_pl c x m k J))) (am_si h J) → am_wp d 34 2 [some (.ref 36), some (.int (nI (c))), some (.int (x)), some (.int (nI (k)))] [] (am_si h J) Q := by
  intro m
  induction m with
  | zero =>
    intro k J hT hk HQ
    refine r_iload k34_2 rfl ?_
    refine r_aload k34_3 rfl ?_
    refine j_ref (b := 40) k34_4 hB rfl ?_
    refine r_iload k34_7 rfl ?_
    have b8 := ty_n hT (q := 40) (B := 13) (by decide) (by decide) c
    refine j_ald (n := 12) (j := c) (v := (nI (jn J 40 c))) k34_8 hB rfl rfl (by omega) b8.1 ?_
    refine r_icmpgeN (by omega) (by omega) k34_9 (fun z9 => ?_) (fun z9 => ?_)
    · refine r_pushn (v := (-1)) k34_35 rfl ?_
      have e9 : R_pl c x 0 k J = ((((-1)))) := by rw [R_pl]
      rw [e9] at HQ
      exact r_iret k34_36 rfl HQ
    · exact absurd z9 (by omega)
  | succ m ih =>
    intro k J hT hk HQ
    refine r_iload k34_2 rfl ?_
    refine r_aload k34_3 rfl ?_
    refine j_ref (b := 40) k34_4 hB rfl ?_
    refine r_iload k34_7 rfl ?_
    have b8 := ty_n hT (q := 40) (B := 13) (by decide) (by decide) c
    refine j_ald (n := 12) (j := c) (v := (nI (jn J 40 c))) k34_8 hB rfl rfl (by omega) b8.1 ?_
    refine r_icmpgeN (by omega) (by omega) k34_9 (fun z9 => ?_) (fun z9 => ?_)
    · exact absurd z9 (by omega)
    · refine r_aload k34_12 rfl ?_
      refine j_ref (b := 39) k34_13 hB rfl ?_
      refine r_pushn (v := nI 12) k34_16 rfl ?_
      refine r_iload k34_18 rfl ?_
      refine r_imulN k34_19 ?_
      refine r_iload k34_20 rfl ?_
      refine r_iaddN k34_21 ?_
      have b22 := ty_n hT (q := 39) (B := 12) (by decide) (by decide) ((12 * c) + k)
      refine j_ald (n := 144) (j := ((12 * c) + k)) (v := (nI (jn J 39 ((12 * c) + k)))) k34_22 hB rfl rfl (by omega) b22.1 ?_
      refine r_iload k34_23 rfl ?_
      refine r_icmpne k34_24 (fun z24 => ?_) (fun z24 => ?_)
      · refine r_iinc (v := (nI (k + 1))) (L' := [some (.ref 36), some (.int (nI (c))), some (.int (x)), some (.int (nI (k + 1)))]) k34_29 rfl (Nat.le_of_ble_eq_true rfl) (nI_1 _) rfl ?_
        refine r_goto k34_32 ?_
        have e9 : R_pl c x (m + 1) k J = R_pl c x m (k + 1) J := by rw [R_pl]; rw [am_ite_f z24]
        rw [e9] at HQ
        exact ih (k + 1) J hT (by omega) HQ
      · refine r_iload k34_27 rfl ?_
        have e9 : R_pl c x (m + 1) k J = (((nI k))) := by rw [R_pl]; rw [am_ite_t z24]
        rw [e9] at HQ
        exact r_iret k34_28 rfl HQ
noncomputable def R_place (J : Nat → Nat → Int32) (c : Nat) (x : Int32) : Int32 := (R_pl c x (jn J 40 c) 0 J)
set_option maxRecDepth 20000 in
theorem s_R_place {d : am_D} {h : am_H} {J : Nat → Nat → Int32} (hB : am_B h) (hT : am_ty2 J) (c : Nat) (x : Int32) (hc : c < 12) : am_wp d 34 0 [some (.ref 36), some (.int (nI (c))), some (.int (x)), none] [] (am_si h J) (fun r h' => r = some (.int (R_place J c x)) ∧ h' = (am_si h J)) := by
  refine r_pushn (v := nI 0) k34_0 rfl ?_
  refine r_istore (L' := [some (.ref 36), some (.int (nI (c))), some (.int (x)), some (.int (nI 0))]) k34_1 (Nat.le_of_ble_eq_true rfl) rfl ?_
  have e9 : R_place J c x = (R_pl c x (jn J 40 c) 0 J) := rfl
  exact (l_R_pl hB c x (by omega) (jn J 40 c) 0 J hT (by omega) ⟨by rw [e9], rfl⟩)
noncomputable def R_sub (J : Nat → Nat → Int32) (c : Nat) (x : Int32) : Prop := (am_ite ((R_place J c x) < 0) ((False)) ((True)))
set_option maxRecDepth 20000 in
theorem s_R_sub {d : am_D} {h : am_H} {J : Nat → Nat → Int32} (hB : am_B h) (hT : am_ty2 J) (c : Nat) (x : Int32) (hc : c < 12) (hd : 1 ≤ d.1) (hw : 23 ≤ d.2) : am_wp d 35 0 [some (.ref 36), some (.int (nI (c))), some (.int (x))] [] (am_si h J) (fun r h' => r = some (.int (am_b (R_sub J c x))) ∧ h' = (am_si h J)) := by
  refine r_aload k35_0 rfl ?_
  refine r_iload k35_1 rfl ?_
  refine r_iload k35_2 rfl ?_
  refine j_call (ml := 4) k35_3 rfl (show 0 < d.1 by omega) (show 19 + 4 ≤ d.2 by omega) ⟨Nat.le_of_ble_eq_true rfl, Nat.le_of_ble_eq_true rfl, am_obB hB rfl, Nat.le_of_ble_eq_true rfl⟩ rfl (rest := []) rfl (s_R_place hB hT c x (by omega)) (fun r h1 hq => ?_)
  obtain ⟨rfl, rfl⟩ := hq
  show am_wp _ _ _ [some (.ref 36), some (.int (nI (c))), some (.int (x))] [.int (R_place J c x)] _ _
  refine r_iflt k35_6 (fun z6 => ?_) (fun z6 => ?_)
  · refine r_pushn (v := nI 0) k35_13 rfl ?_
    have e9 : R_sub J c x = ((False)) := by unfold R_sub; rw [am_ite_t z6]
    exact r_zret k35_14 rfl (by decide) ⟨by rw [e9, am_b_f (fun q => q)]; rfl, rfl⟩
  · refine r_pushn (v := nI 1) k35_9 rfl ?_
    refine r_goto k35_10 ?_
    have e9 : R_sub J c x = ((True)) := by unfold R_sub; rw [am_ite_f z6]
    exact r_zret k35_14 rfl (by decide) ⟨by rw [e9, am_b_t True.intro]; rfl, rfl⟩
noncomputable def R_slot (J : Nat → Nat → Int32) (c : Int32) (nm : Int32) (how : Int32) (v : Int32) : Int32 × (Nat → Nat → Int32) := (am_ite (r_is nm (nI 0) (nI 5)) (am_ite (r_is how (nI 0) (nI 3)) (am_ite (R_class J c) (((nI 1), am_u2 (am_u2 J 43 ((6 * (jx c)) + (jx nm)) (nI (jx how))) 44 ((6 * (jx c)) + (jx nm)) v)) ((((-2)), J))) ((((-1)), J))) ((((-1)), J)))
set_option maxRecDepth 20000 in
theorem s_R_slot {d : am_D} {h : am_H} {J : Nat → Nat → Int32} (hB : am_B h) (hT : am_ty2 J) (c : Int32) (nm : Int32) (how : Int32) (v : Int32) (hd : 2 ≤ d.1) (hw : 43 ≤ d.2) : am_wp d 38 0 [some (.ref 36), some (.int (c)), some (.int (nm)), some (.int (how)), some (.int (v))] [] (am_si h J) (fun r h' => r = some (.int (R_slot J c nm how v).1) ∧ h' = am_si h (R_slot J c nm how v).2 ∧ am_ty2 (R_slot J c nm how v).2) := by
  refine r_iload k38_0 rfl ?_
  refine r_pushn (v := nI 0) k38_1 rfl ?_
  refine r_pushn (v := nI 5) k38_2 rfl ?_
  refine j_call (ml := 3) k38_3 rfl (show 0 < d.1 by omega) (show 19 + 3 ≤ d.2 by omega) ⟨Nat.le_of_ble_eq_true rfl, Nat.le_of_ble_eq_true rfl, True.intro, Nat.le_of_ble_eq_true rfl⟩ rfl (rest := []) rfl (s_r_is nm (nI 0) (nI 5)) (fun r h1 hq => ?_)
  obtain ⟨rfl, rfl⟩ := hq
  show am_wp _ _ _ [some (.ref 36), some (.int (c)), some (.int (nm)), some (.int (how)), some (.int (v))] [.int (am_b (r_is nm (nI 0) (nI 5)))] _ _
  refine r_ifeqB k38_6 (fun z6 => ?_) (fun z6 => ?_)
  · refine r_pushn (v := (-1)) k38_18 rfl ?_
    have e9 : R_slot J c nm how v = ((((-1)), J)) := by unfold R_slot; rw [am_ite_f z6]
    exact r_iret k38_19 rfl ⟨by rw [e9], by rw [e9], by rw [e9]; exact hT⟩
  · have e_nm := jx_eq (by decide) (show w_in _ _ _ from z6)
    rw [show ([some (.ref 36), some (.int (c)), some (.int (nm)), some (.int (how)), some (.int (v))] : am_L) = [some (.ref 36), some (.int (c)), some (.int (nI (jx nm))), some (.int (how)), some (.int (v))] by rw [← e_nm.1]]
    refine r_iload k38_9 rfl ?_
    refine r_pushn (v := nI 0) k38_10 rfl ?_
    refine r_pushn (v := nI 3) k38_11 rfl ?_
    refine j_call (ml := 3) k38_12 rfl (show 0 < d.1 by omega) (show 19 + 3 ≤ d.2 by omega) ⟨Nat.le_of_ble_eq_true rfl, Nat.le_of_ble_eq_true rfl, True.intro, Nat.le_of_ble_eq_true rfl⟩ rfl (rest := []) rfl (s_r_is how (nI 0) (nI 3)) (fun r h1 hq => ?_)
    obtain ⟨rfl, rfl⟩ := hq
    show am_wp _ _ _ [some (.ref 36), some (.int (c)), some (.int (nI (jx nm))), some (.int (how)), some (.int (v))] [.int (am_b (r_is how (nI 0) (nI 3)))] _ _
    refine r_ifneB k38_15 (fun z15 => ?_) (fun z15 => ?_)
    · have e_how := jx_eq (by decide) (show w_in _ _ _ from z15)
      rw [show ([some (.ref 36), some (.int (c)), some (.int (nI (jx nm))), some (.int (how)), some (.int (v))] : am_L) = [some (.ref 36), some (.int (c)), some (.int (nI (jx nm))), some (.int (nI (jx how))), some (.int (v))] by rw [← e_how.1]]
      refine r_aload k38_20 rfl ?_
      refine r_iload k38_21 rfl ?_
      refine j_call (ml := 2) k38_22 rfl (show 0 < d.1 by omega) (show 19 + 2 ≤ d.2 by omega) ⟨Nat.le_of_ble_eq_true rfl, Nat.le_of_ble_eq_true rfl, am_obB hB rfl, Nat.le_of_ble_eq_true rfl⟩ rfl (rest := []) rfl (s_R_class hB hT c (show 1 ≤ d.1 - 1 by omega) (show 22 ≤ d.2 - 21 by omega)) (fun r h1 hq => ?_)
      obtain ⟨rfl, rfl⟩ := hq
      show am_wp _ _ _ [some (.ref 36), some (.int (c)), some (.int (nI (jx nm))), some (.int (nI (jx how))), some (.int (v))] [.int (am_b (R_class J c))] _ _
      refine r_ifneB k38_25 (fun z25 => ?_) (fun z25 => ?_)
      · have e_c := R_class_r z25
        rw [show ([some (.ref 36), some (.int (c)), some (.int (nI (jx nm))), some (.int (nI (jx how))), some (.int (v))] : am_L) = [some (.ref 36), some (.int (nI (jx c))), some (.int (nI (jx nm))), some (.int (nI (jx how))), some (.int (v))] by rw [← e_c.1]]
        refine r_aload k38_31 rfl ?_
        refine j_ref (b := 43) k38_32 hB rfl ?_
        refine r_pushn (v := nI 6) k38_35 rfl ?_
        refine r_iload k38_37 rfl ?_
        refine r_imulN k38_38 ?_
        refine r_iload k38_39 rfl ?_
        refine r_iaddN k38_40 ?_
        refine r_iload k38_41 rfl ?_
        refine j_ast (n := 72) (j := ((6 * (jx c)) + (jx nm))) k38_42 hB rfl rfl (by omega) ?_
        have hT42 : am_ty2 (am_u2 J 43 ((6 * (jx c)) + (jx nm)) (nI (jx how))) := ty_w hT (tw_n (B := 4) (by decide) (by decide) (by decide) (by omega))
        refine r_aload k38_43 rfl ?_
        refine j_ref (b := 44) k38_44 hB rfl ?_
        refine r_pushn (v := nI 6) k38_47 rfl ?_
        refine r_iload k38_49 rfl ?_
        refine r_imulN k38_50 ?_
        refine r_iload k38_51 rfl ?_
        refine r_iaddN k38_52 ?_
        refine r_iload k38_53 rfl ?_
        refine j_ast (n := 72) (j := ((6 * (jx c)) + (jx nm))) k38_55 hB rfl rfl (by omega) ?_
        have hT55 : am_ty2 (am_u2 (am_u2 J 43 ((6 * (jx c)) + (jx nm)) (nI (jx how))) 44 ((6 * (jx c)) + (jx nm)) v) := ty_w hT42 (tw_a (by decide) (by decide) (by decide))
        refine r_pushn (v := nI 1) k38_56 rfl ?_
        have e9 : R_slot J c nm how v = (((nI 1), am_u2 (am_u2 J 43 ((6 * (jx c)) + (jx nm)) (nI (jx how))) 44 ((6 * (jx c)) + (jx nm)) v)) := by unfold R_slot; rw [am_ite_t z6, am_ite_t z15, am_ite_t z25]
        exact r_iret k38_57 rfl ⟨by rw [e9], by rw [e9], by rw [e9]; exact hT55⟩
      · refine r_pushn (v := (-2)) k38_28 rfl ?_
        have e9 : R_slot J c nm how v = ((((-2)), J)) := by unfold R_slot; rw [am_ite_t z6, am_ite_t z15, am_ite_f z25]
        exact r_iret k38_30 rfl ⟨by rw [e9], by rw [e9], by rw [e9]; exact hT⟩
    · refine r_pushn (v := (-1)) k38_18 rfl ?_
      have e9 : R_slot J c nm how v = ((((-1)), J)) := by unfold R_slot; rw [am_ite_t z6, am_ite_f z15]
      exact r_iret k38_19 rfl ⟨by rw [e9], by rw [e9], by rw [e9]; exact hT⟩
theorem fr_R_slot {J : Nat → Nat → Int32} {c : Int32} {nm : Int32} {how : Int32} {v : Int32} (q : Nat) (hq : ¬ q = 43 ∧ ¬ q = 44) : (R_slot J c nm how v).2 q = J q := by
  unfold R_slot
  refine fr_i2 (fun _ => ?_) (fun _ => ?_)
  · refine fr_i2 (fun _ => ?_) (fun _ => ?_)
    · refine fr_i2 (fun _ => ?_) (fun _ => ?_)
      · exact (fr_u (by omega)).trans (fr_u (by omega))
      · exact rfl
    · exact rfl
  · exact rfl
noncomputable def R_sl (c : Nat) (nm : Nat) : Nat → Nat → (Nat → Nat → Int32) → Int32
  | 0, k, J => ((((-1))))
  | m + 1, k, J => (am_ite ((jn J 43 ((6 * (jn J 39 ((12 * c) + k))) + nm)) = 0) (R_sl c nm m (k + 1) J) (((nI ((6 * (jn J 39 ((12 * c) + k))) + nm)))))
set_option maxRecDepth 20000 in
theorem l_R_sl {d : am_D} {h : am_H} {Q : Option Value → am_H → Prop} (hB : am_B h) (c : Nat) (nm : Nat) (hc : c < 12) (hn : nm < 6) : ∀ (m k : Nat) (J : Nat → Nat → Int32), am_ty2 J → k + m = jn J 40 c → Q (some (.int (R_sl c nm m k J))) (am_si h J) → am_wp d 39 2 [some (.ref 36), some (.int (nI (c))), some (.int (nI (nm))), some (.int (nI (k))), none] [] (am_si h J) Q := by
  intro m
  induction m with
  | zero =>
    intro k J hT hk HQ
    refine r_iload k39_2 rfl ?_
    refine r_aload k39_3 rfl ?_
    refine j_ref (b := 40) k39_4 hB rfl ?_
    refine r_iload k39_7 rfl ?_
    have b8 := ty_n hT (q := 40) (B := 13) (by decide) (by decide) c
    refine j_ald (n := 12) (j := c) (v := (nI (jn J 40 c))) k39_8 hB rfl rfl (by omega) b8.1 ?_
    refine r_icmpgeN (by omega) (by omega) k39_9 (fun z9 => ?_) (fun z9 => ?_)
    · refine r_pushn (v := (-1)) k39_49 rfl ?_
      have e9 : R_sl c nm 0 k J = ((((-1)))) := by rw [R_sl]
      rw [e9] at HQ
      exact r_iret k39_50 rfl HQ
    · exact absurd z9 (by omega)
  | succ m ih =>
    intro k J hT hk HQ
    refine r_iload k39_2 rfl ?_
    refine r_aload k39_3 rfl ?_
    refine j_ref (b := 40) k39_4 hB rfl ?_
    refine r_iload k39_7 rfl ?_
    have b8 := ty_n hT (q := 40) (B := 13) (by decide) (by decide) c
    refine j_ald (n := 12) (j := c) (v := (nI (jn J 40 c))) k39_8 hB rfl rfl (by omega) b8.1 ?_
    refine r_icmpgeN (by omega) (by omega) k39_9 (fun z9 => ?_) (fun z9 => ?_)
    · exact absurd z9 (by omega)
    · refine r_pushn (v := nI 6) k39_12 rfl ?_
      refine r_aload k39_14 rfl ?_
      refine j_ref (b := 39) k39_15 hB rfl ?_
      refine r_pushn (v := nI 12) k39_18 rfl ?_
      refine r_iload k39_20 rfl ?_
      refine r_imulN k39_21 ?_
      refine r_iload k39_22 rfl ?_
      refine r_iaddN k39_23 ?_
      have b24 := ty_n hT (q := 39) (B := 12) (by decide) (by decide) ((12 * c) + k)
      refine j_ald (n := 144) (j := ((12 * c) + k)) (v := (nI (jn J 39 ((12 * c) + k)))) k39_24 hB rfl rfl (by omega) b24.1 ?_
      refine r_imulN k39_25 ?_
      refine r_iload k39_26 rfl ?_
      refine r_iaddN k39_27 ?_
      refine r_istore (L' := [some (.ref 36), some (.int (nI (c))), some (.int (nI (nm))), some (.int (nI (k))), some (.int (nI ((6 * (jn J 39 ((12 * c) + k))) + nm)))]) k39_28 (Nat.le_of_ble_eq_true rfl) rfl ?_
      refine r_aload k39_30 rfl ?_
      refine j_ref (b := 43) k39_31 hB rfl ?_
      refine r_iload k39_34 rfl ?_
      have b36 := ty_n hT (q := 43) (B := 4) (by decide) (by decide) ((6 * (jn J 39 ((12 * c) + k))) + nm)
      refine j_ald (n := 72) (j := ((6 * (jn J 39 ((12 * c) + k))) + nm)) (v := (nI (jn J 43 ((6 * (jn J 39 ((12 * c) + k))) + nm)))) k39_36 hB rfl rfl (by omega) b36.1 ?_
      refine r_ifleN (by omega) k39_37 (fun z37 => ?_) (fun z37 => ?_)
      · refine r_iinc (v := (nI (k + 1))) (L' := [some (.ref 36), some (.int (nI (c))), some (.int (nI (nm))), some (.int (nI (k + 1))), some (.int (nI ((6 * (jn J 39 ((12 * c) + k))) + nm)))]) k39_43 rfl (Nat.le_of_ble_eq_true rfl) (nI_1 _) rfl ?_
        refine r_goto k39_46 ?_
        have e9 : R_sl c nm (m + 1) k J = R_sl c nm m (k + 1) J := by rw [R_sl]; rw [am_ite_t z37]
        rw [e9] at HQ
        exact wp_L (L := [some (.ref 36), some (.int (nI (c))), some (.int (nI (nm))), some (.int (nI (k + 1))), none]) (⟨Or.inr rfl, Or.inr rfl, Or.inr rfl, Or.inr rfl, Or.inl rfl, True.intro⟩) (ih (k + 1) J hT (by omega) HQ)
      · refine r_iload k39_40 rfl ?_
        have e9 : R_sl c nm (m + 1) k J = (((nI ((6 * (jn J 39 ((12 * c) + k))) + nm)))) := by rw [R_sl]; rw [am_ite_f z37]
        rw [e9] at HQ
        exact r_iret k39_42 rfl HQ
noncomputable def R_slotOf (J : Nat → Nat → Int32) (c : Nat) (nm : Nat) : Int32 := (R_sl c nm (jn J 40 c) 0 J)
set_option maxRecDepth 20000 in
theorem s_R_slotOf {d : am_D} {h : am_H} {J : Nat → Nat → Int32} (hB : am_B h) (hT : am_ty2 J) (c : Nat) (nm : Nat) (hc : c < 12) (hn : nm < 6) : am_wp d 39 0 [some (.ref 36), some (.int (nI (c))), some (.int (nI (nm))), none, none] [] (am_si h J) (fun r h' => r = some (.int (R_slotOf J c nm)) ∧ h' = (am_si h J)) := by
  refine r_pushn (v := nI 0) k39_0 rfl ?_
  refine r_istore (L' := [some (.ref 36), some (.int (nI (c))), some (.int (nI (nm))), some (.int (nI 0)), none]) k39_1 (Nat.le_of_ble_eq_true rfl) rfl ?_
  have e9 : R_slotOf J c nm = (R_sl c nm (jn J 40 c) 0 J) := rfl
  exact (l_R_sl hB c nm (by omega) (by omega) (jn J 40 c) 0 J hT (by omega) ⟨by rw [e9], rfl⟩)
noncomputable def R_fail (J : Nat → Nat → Int32) (x : Int32) : Int64 × (Nat → Nat → Int32) := (((Int64.ofInt 1099511627776) + (x.toInt64), am_u2 J 36 40 x))
set_option maxRecDepth 20000 in
theorem s_R_fail {d : am_D} {h : am_H} {J : Nat → Nat → Int32} (hB : am_B h) (hT : am_ty2 J) (x : Int32) : am_wp d 45 0 [some (.ref 36), some (.int (x))] [] (am_si h J) (fun r h' => r = some (.long (R_fail J x).1) ∧ h' = am_si h (R_fail J x).2 ∧ am_ty2 (R_fail J x).2) := by
  refine r_aload k45_0 rfl ?_
  refine r_iload k45_1 rfl ?_
  refine j_put (j := 40) k45_2 hB rfl rfl ?_
  have hT2 : am_ty2 (am_u2 J 36 40 x) := ty_w hT (tw_u (by decide) (by decide) (by decide))
  refine r_pushl k45_5 ?_
  refine r_iload k45_8 rfl ?_
  refine r_i2l k45_9 ?_
  refine r_ladd k45_10 ?_
  have e9 : R_fail J x = (((Int64.ofInt 1099511627776) + (x.toInt64), am_u2 J 36 40 x)) := rfl
  exact r_lret k45_11 rfl ⟨by rw [e9], by rw [e9], by rw [e9]; exact hT2⟩
theorem fr_R_fail {J : Nat → Nat → Int32} {x : Int32} (q : Nat) (hq : ¬ q = 36) : (R_fail J x).2 q = J q := by
  unfold R_fail
  exact fr_u (by omega)
noncomputable def R_spec (J : Nat → Nat → Int32) (n : Int32) : Prop := (am_ite (r_is n (nI 0) (nI 11)) ((True)) (am_ite (r_is n (nI 16) (nI 27)) ((True)) ((False))))
set_option maxRecDepth 20000 in
theorem s_R_spec {d : am_D} {h : am_H} {J : Nat → Nat → Int32} (hB : am_B h) (hT : am_ty2 J) (n : Int32) (hd : 1 ≤ d.1) (hw : 22 ≤ d.2) : am_wp d 52 0 [some (.ref 36), some (.int (n))] [] (am_si h J) (fun r h' => r = some (.int (am_b (R_spec J n))) ∧ h' = (am_si h J)) := by
  refine r_iload k52_0 rfl ?_
  refine r_pushn (v := nI 0) k52_1 rfl ?_
  refine r_pushn (v := nI 11) k52_2 rfl ?_
  refine j_call (ml := 3) k52_4 rfl (show 0 < d.1 by omega) (show 19 + 3 ≤ d.2 by omega) ⟨Nat.le_of_ble_eq_true rfl, Nat.le_of_ble_eq_true rfl, True.intro, Nat.le_of_ble_eq_true rfl⟩ rfl (rest := []) rfl (s_r_is n (nI 0) (nI 11)) (fun r h1 hq => ?_)
  obtain ⟨rfl, rfl⟩ := hq
  show am_wp _ _ _ [some (.ref 36), some (.int (n))] [.int (am_b (r_is n (nI 0) (nI 11)))] _ _
  refine r_ifneB k52_7 (fun z7 => ?_) (fun z7 => ?_)
  · have e_n := jx_eq (by decide) (show w_in _ _ _ from z7)
    rw [show ([some (.ref 36), some (.int (n))] : am_L) = [some (.ref 36), some (.int (nI (jx n)))] by rw [← e_n.1]]
    refine r_pushn (v := nI 1) k52_21 rfl ?_
    refine r_goto k52_22 ?_
    have e9 : R_spec J n = ((True)) := by unfold R_spec; rw [am_ite_t z7]
    exact r_zret k52_26 rfl (by decide) ⟨by rw [e9, am_b_t True.intro]; rfl, rfl⟩
  · refine r_iload k52_10 rfl ?_
    refine r_pushn (v := nI 16) k52_11 rfl ?_
    refine r_pushn (v := nI 27) k52_13 rfl ?_
    refine j_call (ml := 3) k52_15 rfl (show 0 < d.1 by omega) (show 19 + 3 ≤ d.2 by omega) ⟨Nat.le_of_ble_eq_true rfl, Nat.le_of_ble_eq_true rfl, True.intro, Nat.le_of_ble_eq_true rfl⟩ rfl (rest := []) rfl (s_r_is n (nI 16) (nI 27)) (fun r h1 hq => ?_)
    obtain ⟨rfl, rfl⟩ := hq
    show am_wp _ _ _ [some (.ref 36), some (.int (n))] [.int (am_b (r_is n (nI 16) (nI 27)))] _ _
    refine r_ifeqB k52_18 (fun z18 => ?_) (fun z18 => ?_)
    · refine r_pushn (v := nI 0) k52_25 rfl ?_
      have e9 : R_spec J n = ((False)) := by unfold R_spec; rw [am_ite_f z7, am_ite_f z18]
      exact r_zret k52_26 rfl (by decide) ⟨by rw [e9, am_b_f (fun q => q)]; rfl, rfl⟩
    · refine r_pushn (v := nI 1) k52_21 rfl ?_
      refine r_goto k52_22 ?_
      have e9 : R_spec J n = ((True)) := by unfold R_spec; rw [am_ite_f z7, am_ite_t z18]
      exact r_zret k52_26 rfl (by decide) ⟨by rw [e9, am_b_t True.intro]; rfl, rfl⟩
noncomputable def R_clear (J : Nat → Nat → Int32) (b : Int32) : Int32 × (Nat → Nat → Int32) := (am_ite (r_is b (nI 0) (nI 7)) (((nI (jn J 57 (jx b))), am_u2 J 57 (jx b) (nI 0))) ((((-1)), J)))
set_option maxRecDepth 20000 in
theorem s_R_clear {d : am_D} {h : am_H} {J : Nat → Nat → Int32} (hB : am_B h) (hT : am_ty2 J) (b : Int32) (hd : 1 ≤ d.1) (hw : 22 ≤ d.2) : am_wp d 57 0 [some (.ref 36), some (.int (b)), none] [] (am_si h J) (fun r h' => r = some (.int (R_clear J b).1) ∧ h' = am_si h (R_clear J b).2 ∧ am_ty2 (R_clear J b).2) := by
  refine r_iload k57_0 rfl ?_
  refine r_pushn (v := nI 0) k57_1 rfl ?_
  refine r_pushn (v := nI 7) k57_2 rfl ?_
  refine j_call (ml := 3) k57_4 rfl (show 0 < d.1 by omega) (show 19 + 3 ≤ d.2 by omega) ⟨Nat.le_of_ble_eq_true rfl, Nat.le_of_ble_eq_true rfl, True.intro, Nat.le_of_ble_eq_true rfl⟩ rfl (rest := []) rfl (s_r_is b (nI 0) (nI 7)) (fun r h1 hq => ?_)
  obtain ⟨rfl, rfl⟩ := hq
  show am_wp _ _ _ [some (.ref 36), some (.int (b)), none] [.int (am_b (r_is b (nI 0) (nI 7)))] _ _
  refine r_ifneB k57_7 (fun z7 => ?_) (fun z7 => ?_)
  · have e_b := jx_eq (by decide) (show w_in _ _ _ from z7)
    rw [show ([some (.ref 36), some (.int (b)), none] : am_L) = [some (.ref 36), some (.int (nI (jx b))), none] by rw [← e_b.1]]
    refine r_aload k57_12 rfl ?_
    refine j_ref (b := 57) k57_13 hB rfl ?_
    refine r_iload k57_16 rfl ?_
    have b17 := ty_n hT (q := 57) (B := 9) (by decide) (by decide) (jx b)
    refine j_ald (n := 8) (j := (jx b)) (v := (nI (jn J 57 (jx b)))) k57_17 hB rfl rfl (by omega) b17.1 ?_
    refine r_istore (L' := [some (.ref 36), some (.int (nI (jx b))), some (.int (nI (jn J 57 (jx b))))]) k57_18 (Nat.le_of_ble_eq_true rfl) rfl ?_
    refine r_aload k57_19 rfl ?_
    refine j_ref (b := 57) k57_20 hB rfl ?_
    refine r_iload k57_23 rfl ?_
    refine r_pushn (v := nI 0) k57_24 rfl ?_
    refine j_ast (n := 8) (j := (jx b)) k57_25 hB rfl rfl (by omega) ?_
    have hT25 : am_ty2 (am_u2 J 57 (jx b) (nI 0)) := ty_w hT (tw_n (B := 9) (by decide) (by decide) (by decide) (by omega))
    refine r_iload k57_26 rfl ?_
    have e9 : R_clear J b = (((nI (jn J 57 (jx b))), am_u2 J 57 (jx b) (nI 0))) := by unfold R_clear; rw [am_ite_t z7]
    exact r_iret k57_27 rfl ⟨by rw [e9], by rw [e9], by rw [e9]; exact hT25⟩
  · refine r_pushn (v := (-1)) k57_10 rfl ?_
    have e9 : R_clear J b = ((((-1)), J)) := by unfold R_clear; rw [am_ite_f z7]
    exact r_iret k57_11 rfl ⟨by rw [e9], by rw [e9], by rw [e9]; exact hT⟩
theorem fr_R_clear {J : Nat → Nat → Int32} {b : Int32} (q : Nat) (hq : ¬ q = 57) : (R_clear J b).2 q = J q := by
  unfold R_clear
  refine fr_i2 (fun _ => ?_) (fun _ => ?_)
  · exact fr_u (by omega)
  · exact rfl
noncomputable def R_stop (J : Nat → Nat → Int32) (x : Int32) : Int32 × (Nat → Nat → Int32) := (((nI 0), am_u2 J 36 40 x))
set_option maxRecDepth 20000 in
theorem s_R_stop {d : am_D} {h : am_H} {J : Nat → Nat → Int32} (hB : am_B h) (hT : am_ty2 J) (x : Int32) : am_wp d 68 0 [some (.ref 36), some (.int (x))] [] (am_si h J) (fun r h' => r = some (.int (R_stop J x).1) ∧ h' = am_si h (R_stop J x).2 ∧ am_ty2 (R_stop J x).2) := by
  refine r_aload k68_0 rfl ?_
  refine r_iload k68_1 rfl ?_
  refine j_put (j := 40) k68_2 hB rfl rfl ?_
  have hT2 : am_ty2 (am_u2 J 36 40 x) := ty_w hT (tw_u (by decide) (by decide) (by decide))
  refine r_pushn (v := nI 0) k68_5 rfl ?_
  have e9 : R_stop J x = (((nI 0), am_u2 J 36 40 x)) := rfl
  exact r_zret k68_6 rfl (by decide) ⟨by rw [e9], by rw [e9], by rw [e9]; exact hT2⟩
theorem fr_R_stop {J : Nat → Nat → Int32} {x : Int32} (q : Nat) (hq : ¬ q = 36) : (R_stop J x).2 q = J q := by
  unfold R_stop
  exact fr_u (by omega)
noncomputable def R_look (J : Nat → Nat → Int32) (i : Int32) (what : Int32) : Int32 := (am_ite (R_inst J i) (am_ite (what = (nI 0)) (((nI (jn J 45 (jx i))))) (am_ite (what = (nI 1)) (((J 46 (jx i)))) (am_ite (what = (nI 2)) (((J 47 (jx i)))) ((((-2))))))) ((((-2)))))
set_option maxRecDepth 20000 in
theorem s_R_look {d : am_D} {h : am_H} {J : Nat → Nat → Int32} (hB : am_B h) (hT : am_ty2 J) (i : Int32) (what : Int32) (hd : 2 ≤ d.1) (hw : 43 ≤ d.2) : am_wp d 73 0 [some (.ref 36), some (.int (i)), some (.int (what))] [] (am_si h J) (fun r h' => r = some (.int (R_look J i what)) ∧ h' = (am_si h J)) := by
  refine r_aload k73_0 rfl ?_
  refine r_iload k73_1 rfl ?_
  refine j_call (ml := 2) k73_2 rfl (show 0 < d.1 by omega) (show 19 + 2 ≤ d.2 by omega) ⟨Nat.le_of_ble_eq_true rfl, Nat.le_of_ble_eq_true rfl, am_obB hB rfl, Nat.le_of_ble_eq_true rfl⟩ rfl (rest := []) rfl (s_R_inst hB hT i (show 1 ≤ d.1 - 1 by omega) (show 22 ≤ d.2 - 21 by omega)) (fun r h1 hq => ?_)
  obtain ⟨rfl, rfl⟩ := hq
  show am_wp _ _ _ [some (.ref 36), some (.int (i)), some (.int (what))] [.int (am_b (R_inst J i))] _ _
  refine r_ifneB k73_5 (fun z5 => ?_) (fun z5 => ?_)
  · have e_i := R_inst_r hT z5
    rw [show ([some (.ref 36), some (.int (i)), some (.int (what))] : am_L) = [some (.ref 36), some (.int (nI (jx i))), some (.int (what))] by rw [← e_i.1]]
    refine r_iload k73_11 rfl ?_
    by_cases y12_0 : what = (nI 0)
    · refine r_tsIn k73_12 (by rw [y12_0]; decide) (t := 40) (by rw [y12_0]; rfl) ?_
      rw [show ([some (.ref 36), some (.int (nI (jx i))), some (.int (what))] : am_L) = [some (.ref 36), some (.int (nI (jx i))), some (.int (nI 0))] by rw [y12_0]]
      refine r_aload k73_40 rfl ?_
      refine j_ref (b := 45) k73_41 hB rfl ?_
      refine r_iload k73_44 rfl ?_
      have b45 := ty_n hT (q := 45) (B := 12) (by decide) (by decide) (jx i)
      refine j_ald (n := 12) (j := (jx i)) (v := (nI (jn J 45 (jx i)))) k73_45 hB rfl rfl (by omega) b45.1 ?_
      have e9 : R_look J i what = (((nI (jn J 45 (jx i))))) := by unfold R_look; rw [am_ite_t z5, am_ite_t y12_0]
      exact r_iret k73_46 rfl ⟨by rw [e9], rfl⟩
    · by_cases y12_1 : what = (nI 1)
      · refine r_tsIn k73_12 (by rw [y12_1]; decide) (t := 47) (by rw [y12_1]; rfl) ?_
        rw [show ([some (.ref 36), some (.int (nI (jx i))), some (.int (what))] : am_L) = [some (.ref 36), some (.int (nI (jx i))), some (.int (nI 1))] by rw [y12_1]]
        refine r_aload k73_47 rfl ?_
        refine j_ref (b := 46) k73_48 hB rfl ?_
        refine r_iload k73_51 rfl ?_
        refine j_ald (n := 12) (j := (jx i)) (v := (J 46 (jx i))) k73_52 hB rfl rfl (by omega) rfl ?_
        have e9 : R_look J i what = (((J 46 (jx i)))) := by unfold R_look; rw [am_ite_t z5, am_ite_f y12_0, am_ite_t y12_1]
        exact r_iret k73_53 rfl ⟨by rw [e9], rfl⟩
      · by_cases y12_2 : what = (nI 2)
        · refine r_tsIn k73_12 (by rw [y12_2]; decide) (t := 54) (by rw [y12_2]; rfl) ?_
          rw [show ([some (.ref 36), some (.int (nI (jx i))), some (.int (what))] : am_L) = [some (.ref 36), some (.int (nI (jx i))), some (.int (nI 2))] by rw [y12_2]]
          refine r_aload k73_54 rfl ?_
          refine j_ref (b := 47) k73_55 hB rfl ?_
          refine r_iload k73_58 rfl ?_
          refine j_ald (n := 12) (j := (jx i)) (v := (J 47 (jx i))) k73_59 hB rfl rfl (by omega) rfl ?_
          have e9 : R_look J i what = (((J 47 (jx i)))) := by unfold R_look; rw [am_ite_t z5, am_ite_f y12_0, am_ite_f y12_1, am_ite_t y12_2]
          exact r_iret k73_60 rfl ⟨by rw [e9], rfl⟩
        · refine am_tsd k73_12 (fun v h1 h2 => ?_) (fun v h1 h2 e1 => ?_) ?_
          · rcases (show v = 0 ∨ v = 1 ∨ v = 2 by omega) with rfl | rfl | rfl
            · exact Or.inl (fun q => y12_0 q)
            · exact Or.inl (fun q => y12_1 q)
            · exact Or.inl (fun q => y12_2 q)
          · exact rfl
          · refine r_pushn (v := (-2)) k73_61 rfl ?_
            have e9 : R_look J i what = ((((-2)))) := by unfold R_look; rw [am_ite_t z5, am_ite_f y12_0, am_ite_f y12_1, am_ite_f y12_2]
            exact r_iret k73_63 rfl ⟨by rw [e9], rfl⟩
  · refine r_pushn (v := (-2)) k73_8 rfl ?_
    have e9 : R_look J i what = ((((-2)))) := by unfold R_look; rw [am_ite_f z5]
    exact r_iret k73_10 rfl ⟨by rw [e9], rfl⟩
noncomputable def D_look (J : Nat → Nat → Int32) (i : Int32) (what : Int32) : Int32 := (am_ite (I_there J i) (am_ite (what = (nI 0)) (((nI (jn J 11 (jx i))))) (am_ite (what = (nI 1)) (((I_layout J (jx i)))) (am_ite (what = (nI 2)) (((I_bound J (jx i)))) ((((-2))))))) ((((-2)))))
set_option maxRecDepth 20000 in
theorem s_D_look {d : am_D} {h : am_H} {J : Nat → Nat → Int32} (hB : am_B h) (hT : am_ty2 J) (i : Int32) (what : Int32) (hd : 2 ≤ d.1) (hw : 43 ≤ d.2) : am_wp d 17 0 [some (.ref 1), some (.int (i)), some (.int (what))] [] (am_si h J) (fun r h' => r = some (.int (D_look J i what)) ∧ h' = (am_si h J)) := by
  refine r_aload k17_0 rfl ?_
  refine j_ref (b := 10) k17_1 hB rfl ?_
  refine r_iload k17_4 rfl ?_
  refine j_call (ml := 2) k17_5 rfl (show 0 < d.1 by omega) (show 19 + 2 ≤ d.2 by omega) ⟨Nat.le_of_ble_eq_true rfl, Nat.le_of_ble_eq_true rfl, am_obB hB rfl, Nat.le_of_ble_eq_true rfl⟩ rfl (rest := []) rfl (s_I_there hB hT i (show 1 ≤ d.1 - 1 by omega) (show 22 ≤ d.2 - 21 by omega)) (fun r h1 hq => ?_)
  obtain ⟨rfl, rfl⟩ := hq
  show am_wp _ _ _ [some (.ref 1), some (.int (i)), some (.int (what))] [.int (am_b (I_there J i))] _ _
  refine r_ifneB k17_8 (fun z8 => ?_) (fun z8 => ?_)
  · have e_i := I_there_r hT z8
    rw [show ([some (.ref 1), some (.int (i)), some (.int (what))] : am_L) = [some (.ref 1), some (.int (nI (jx i))), some (.int (what))] by rw [← e_i.1]]
    refine r_iload k17_14 rfl ?_
    by_cases y15_0 : what = (nI 0)
    · refine r_tsIn k17_15 (by rw [y15_0]; decide) (t := 40) (by rw [y15_0]; rfl) ?_
      rw [show ([some (.ref 1), some (.int (nI (jx i))), some (.int (what))] : am_L) = [some (.ref 1), some (.int (nI (jx i))), some (.int (nI 0))] by rw [y15_0]]
      refine r_aload k17_40 rfl ?_
      refine j_ref (b := 10) k17_41 hB rfl ?_
      refine r_iload k17_44 rfl ?_
      refine j_call (ml := 2) k17_45 rfl (show 0 < d.1 by omega) (show 19 + 2 ≤ d.2 by omega) ⟨Nat.le_of_ble_eq_true rfl, Nat.le_of_ble_eq_true rfl, am_obB hB rfl, Nat.le_of_ble_eq_true rfl⟩ rfl (rest := []) rfl (s_I_class hB hT (jx i) (by omega)) (fun r h1 hq => ?_)
      obtain ⟨rfl, rfl⟩ := hq
      show am_wp _ _ _ [some (.ref 1), some (.int (nI (jx i))), some (.int (nI 0))] [.int (I_class J (jx i))] _ _
      rw [show I_class J (jx i) = nI (jn J 11 (jx i)) from rfl]
      have b45 := ty_n hT (q := 11) (B := 12) (by decide) (by decide) (jx i)
      have e9 : D_look J i what = (((nI (jn J 11 (jx i))))) := by unfold D_look; rw [am_ite_t z8, am_ite_t y15_0]
      exact r_iret k17_48 rfl ⟨by rw [e9], rfl⟩
    · by_cases y15_1 : what = (nI 1)
      · refine r_tsIn k17_15 (by rw [y15_1]; decide) (t := 49) (by rw [y15_1]; rfl) ?_
        rw [show ([some (.ref 1), some (.int (nI (jx i))), some (.int (what))] : am_L) = [some (.ref 1), some (.int (nI (jx i))), some (.int (nI 1))] by rw [y15_1]]
        refine r_aload k17_49 rfl ?_
        refine j_ref (b := 10) k17_50 hB rfl ?_
        refine r_iload k17_53 rfl ?_
        refine j_call (ml := 2) k17_54 rfl (show 0 < d.1 by omega) (show 19 + 2 ≤ d.2 by omega) ⟨Nat.le_of_ble_eq_true rfl, Nat.le_of_ble_eq_true rfl, am_obB hB rfl, Nat.le_of_ble_eq_true rfl⟩ rfl (rest := []) rfl (s_I_layout hB hT (jx i) (by omega)) (fun r h1 hq => ?_)
        obtain ⟨rfl, rfl⟩ := hq
        show am_wp _ _ _ [some (.ref 1), some (.int (nI (jx i))), some (.int (nI 1))] [.int (I_layout J (jx i))] _ _
        have e9 : D_look J i what = (((I_layout J (jx i)))) := by unfold D_look; rw [am_ite_t z8, am_ite_f y15_0, am_ite_t y15_1]
        exact r_iret k17_57 rfl ⟨by rw [e9], rfl⟩
      · by_cases y15_2 : what = (nI 2)
        · refine r_tsIn k17_15 (by rw [y15_2]; decide) (t := 58) (by rw [y15_2]; rfl) ?_
          rw [show ([some (.ref 1), some (.int (nI (jx i))), some (.int (what))] : am_L) = [some (.ref 1), some (.int (nI (jx i))), some (.int (nI 2))] by rw [y15_2]]
          refine r_aload k17_58 rfl ?_
          refine j_ref (b := 10) k17_59 hB rfl ?_
          refine r_iload k17_62 rfl ?_
          refine j_call (ml := 2) k17_63 rfl (show 0 < d.1 by omega) (show 19 + 2 ≤ d.2 by omega) ⟨Nat.le_of_ble_eq_true rfl, Nat.le_of_ble_eq_true rfl, am_obB hB rfl, Nat.le_of_ble_eq_true rfl⟩ rfl (rest := []) rfl (s_I_bound hB hT (jx i) (by omega)) (fun r h1 hq => ?_)
          obtain ⟨rfl, rfl⟩ := hq
          show am_wp _ _ _ [some (.ref 1), some (.int (nI (jx i))), some (.int (nI 2))] [.int (I_bound J (jx i))] _ _
          have e9 : D_look J i what = (((I_bound J (jx i)))) := by unfold D_look; rw [am_ite_t z8, am_ite_f y15_0, am_ite_f y15_1, am_ite_t y15_2]
          exact r_iret k17_66 rfl ⟨by rw [e9], rfl⟩
        · refine am_tsd k17_15 (fun v h1 h2 => ?_) (fun v h1 h2 e1 => ?_) ?_
          · rcases (show v = 0 ∨ v = 1 ∨ v = 2 by omega) with rfl | rfl | rfl
            · exact Or.inl (fun q => y15_0 q)
            · exact Or.inl (fun q => y15_1 q)
            · exact Or.inl (fun q => y15_2 q)
          · exact rfl
          · refine r_pushn (v := (-2)) k17_67 rfl ?_
            have e9 : D_look J i what = ((((-2)))) := by unfold D_look; rw [am_ite_t z8, am_ite_f y15_0, am_ite_f y15_1, am_ite_f y15_2]
            exact r_iret k17_69 rfl ⟨by rw [e9], rfl⟩
  · refine r_pushn (v := (-2)) k17_11 rfl ?_
    have e9 : D_look J i what = ((((-2)))) := by unfold D_look; rw [am_ite_f z8]
    exact r_iret k17_13 rfl ⟨by rw [e9], rfl⟩
