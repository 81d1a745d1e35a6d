/-! The class: small methods (functions by program out of the code). -/
theorem fr_u {J : Nat → Nat → Int32} {c i q : Nat} {v : Int32} (h : ¬ q = c) : am_u2 J c i v q = J q := funext fun b => if_neg h
theorem fr_r {J : Nat → Nat → Int32} {c q : Nat} {r : Nat → Int32} (h : ¬ q = c) : am_row J c r q = J q := funext fun b => if_neg h
theorem fr_i0 {p : Prop} {A B : Nat → Nat → Int32} {q : Nat} {r : Nat → Int32} (ha : p → A q = r) (hb : ¬ p → B q = r) : (am_ite p A B) q = r := by
  by_cases z : p
  · rw [am_ite_t z]; exact ha z
  · rw [am_ite_f z]; exact hb z
theorem fr_i2 {α : Type} {p : Prop} {A B : α × (Nat → Nat → Int32)} {q : Nat} {r : Nat → Int32} (ha : p → A.2 q = r) (hb : ¬ p → B.2 q = r) : (am_ite p A B).2 q = r := by
  by_cases z : p
  · rw [am_ite_t z]; exact ha z
  · rw [am_ite_f z]; exact hb z
theorem fr_i1 {α : Type} {p : Prop} {A B : (Nat → Nat → Int32) × α} {q : Nat} {r : Nat → Int32} (ha : p → A.1 q = r) (hb : ¬ p → B.1 q = r) : (am_ite p A B).1 q = r := by
  by_cases z : p
  · rw [am_ite_t z]; exact ha z
  · rw [am_ite_f z]; exact hb z
theorem am_u2_s {J : Nat → Nat → Int32} {q j : Nat} {x : Int32} : am_u2 J q j x q j = x := by
  show (if q = q then (if j = j then x else J q j) else J q j) = x
  rw [if_pos rfl, if_pos rfl]
theorem tw_a {q j : Nat} {x : Int32} (h1 : am_tn.all (fun t => t.1 != q) = true) (h2 : am_tm.all (fun t => t.1 != q) = true) (h3 : am_tf.all (fun t => t.1 != q) = true) : am_tw2 q j x := by
  refine ⟨fun t ht e => ?_, fun t ht e => ?_, fun t ht e => ?_⟩
  · have g := List.all_eq_true.mp h1 t ht
    simp [e] at g
  · have g := List.all_eq_true.mp h2 t ht
    simp [e] at g
  · have g := List.all_eq_true.mp h3 t ht
    simp [e.1] at g
def jx (x : Int32) : Nat := x.toNatClampNeg
noncomputable def w_in (n : Int32) (lo : Int32) (hi : Int32) : Prop := (am_ite (n < lo) ((False)) (am_ite (hi < n) ((False)) ((True))))
set_option maxRecDepth 20000 in
theorem s_w_in {d : am_D} {h : am_H} (n : Int32) (lo : Int32) (hi : Int32) : am_wp d 27 0 [some (.int (n)), some (.int (lo)), some (.int (hi))] [] h (fun r h' => r = some (.int (am_b (w_in n lo hi))) ∧ h' = h) := by
  refine r_iload k27_0 rfl ?_
  refine r_iload k27_1 rfl ?_
  refine r_icmplt k27_2 (fun z2 => ?_) (fun z2 => ?_)
  · refine r_pushn (v := nI 0) k27_14 rfl ?_
    have e9 : w_in n lo hi = ((False)) := by unfold w_in; rw [am_ite_t z2]
    exact r_zret k27_15 rfl (by decide) ⟨by rw [e9, am_b_f (fun q => q)]; rfl, rfl⟩
  · refine r_iload k27_5 rfl ?_
    refine r_iload k27_6 rfl ?_
    refine r_icmpgt k27_7 (fun z7 => ?_) (fun z7 => ?_)
    · refine r_pushn (v := nI 0) k27_14 rfl ?_
      have e9 : w_in n lo hi = ((False)) := by unfold w_in; rw [am_ite_f z2, am_ite_t z7]
      exact r_zret k27_15 rfl (by decide) ⟨by rw [e9, am_b_f (fun q => q)]; rfl, rfl⟩
    · refine r_pushn (v := nI 1) k27_10 rfl ?_
      refine r_goto k27_11 ?_
      have e9 : w_in n lo hi = ((True)) := by unfold w_in; rw [am_ite_f z2, am_ite_f z7]
      exact r_zret k27_15 rfl (by decide) ⟨by rw [e9, am_b_t True.intro]; rfl, rfl⟩
theorem w_in_iff {n lo hi : Int32} : w_in n lo hi ↔ lo.toInt ≤ n.toInt ∧ n.toInt ≤ hi.toInt := by
  unfold w_in
  by_cases h1 : n < lo
  · rw [am_ite_t h1]
    rw [Int32.lt_iff_toInt_lt] at h1
    constructor
    · intro z; exact z.elim
    · intro z; omega
  · rw [am_ite_f h1]
    rw [Int32.lt_iff_toInt_lt] at h1
    by_cases h2 : hi < n
    · rw [am_ite_t h2]
      rw [Int32.lt_iff_toInt_lt] at h2
      constructor
      · intro z; exact z.elim
      · intro z; omega
    · rw [am_ite_f h2]
      rw [Int32.lt_iff_toInt_lt] at h2
      constructor
      · intro z; omega
      · intro z; trivial
theorem jx_nI {n : Nat} (h : n < 2 ^ 31) : jx (nI n) = n := nI_clamp h
theorem jx_eq {x : Int32} {k : Nat} (hk : k < 2 ^ 31) (h : w_in x (nI 0) (nI k)) : x = nI (jx x) ∧ jx x ≤ k := by
  obtain ⟨n, hn, rfl⟩ := am_rng hk (w_in_iff.mp h)
  rw [jx_nI (by omega)]; exact ⟨rfl, hn⟩
theorem w_in_nI {n k : Nat} (h : n ≤ k) (hk : k < 2 ^ 31) : w_in (nI n) (nI 0) (nI k) := w_in_iff.mpr (am_rng_of h hk)
theorem ty_ml {J : Nat → Nat → Int32} (hT : am_ty2 J) {q B : Nat} (hm : (q, B) ∈ am_tm) (hb : B < 5000) (j : Nat) (h : ¬ J q j < 0) : J q j = nI (jn J q j) ∧ jn J q j < B := ty_m hT hm hb j (fun e => h (by rw [e]; decide))
theorem ty_mg {J : Nat → Nat → Int32} (hT : am_ty2 J) {q B : Nat} (hm : (q, B) ∈ am_tm) (hb : B < 5000) (j : Nat) (h : 0 ≤ J q j) : J q j = nI (jn J q j) ∧ jn J q j < B := ty_m hT hm hb j (fun e => by rw [e] at h; exact absurd h (by decide))
noncomputable def w_name (n : Int32) : Prop := ((w_in n (nI 0) (nI 5)))
set_option maxRecDepth 20000 in
theorem s_w_name {d : am_D} {h : am_H} (n : Int32) (hd : 1 ≤ d.1) (hw : 22 ≤ d.2) : am_wp d 24 0 [some (.int (n))] [] h (fun r h' => r = some (.int (am_b (w_name n))) ∧ h' = h) := by
  refine r_iload k24_0 rfl ?_
  refine r_pushn (v := nI 0) k24_1 rfl ?_
  refine r_pushn (v := nI 5) k24_2 rfl ?_
  refine j_call (ml := 3) k24_3 rfl (show 0 < d.1 by omega) (show 19 + 3 ≤ d.2 by omega) ⟨Nat.le_of_ble_eq_true rfl, Nat.le_of_ble_eq_true rfl, True.intro, Nat.le_of_ble_eq_true rfl⟩ rfl (rest := []) rfl (s_w_in n (nI 0) (nI 5)) (fun r h1 hq => ?_)
  obtain ⟨rfl, rfl⟩ := hq
  show am_wp _ _ _ [some (.int (n))] [.int (am_b (w_in n (nI 0) (nI 5)))] _ _
  have e9 : w_name n = ((w_in n (nI 0) (nI 5))) := rfl
  exact r_zret k24_6 rfl am_b_1 ⟨by rw [e9], rfl⟩
noncomputable def w_gen (n : Int32) : Prop := ((w_in n (nI 0) (nI 4)))
set_option maxRecDepth 20000 in
theorem s_w_gen {d : am_D} {h : am_H} (n : Int32) (hd : 1 ≤ d.1) (hw : 22 ≤ d.2) : am_wp d 25 0 [some (.int (n))] [] h (fun r h' => r = some (.int (am_b (w_gen n))) ∧ h' = h) := by
  refine r_iload k25_0 rfl ?_
  refine r_pushn (v := nI 0) k25_1 rfl ?_
  refine r_pushn (v := nI 4) k25_2 rfl ?_
  refine j_call (ml := 3) k25_3 rfl (show 0 < d.1 by omega) (show 19 + 3 ≤ d.2 by omega) ⟨Nat.le_of_ble_eq_true rfl, Nat.le_of_ble_eq_true rfl, True.intro, Nat.le_of_ble_eq_true rfl⟩ rfl (rest := []) rfl (s_w_in n (nI 0) (nI 4)) (fun r h1 hq => ?_)
  obtain ⟨rfl, rfl⟩ := hq
  show am_wp _ _ _ [some (.int (n))] [.int (am_b (w_in n (nI 0) (nI 4)))] _ _
  have e9 : w_gen n = ((w_in n (nI 0) (nI 4))) := rfl
  exact r_zret k25_6 rfl am_b_1 ⟨by rw [e9], rfl⟩
noncomputable def w_body (n : Int32) : Prop := ((w_in n (nI 0) (nI 7)))
set_option maxRecDepth 20000 in
theorem s_w_body {d : am_D} {h : am_H} (n : Int32) (hd : 1 ≤ d.1) (hw : 22 ≤ d.2) : am_wp d 26 0 [some (.int (n))] [] h (fun r h' => r = some (.int (am_b (w_body n))) ∧ h' = h) := by
  refine r_iload k26_0 rfl ?_
  refine r_pushn (v := nI 0) k26_1 rfl ?_
  refine r_pushn (v := nI 7) k26_2 rfl ?_
  refine j_call (ml := 3) k26_4 rfl (show 0 < d.1 by omega) (show 19 + 3 ≤ d.2 by omega) ⟨Nat.le_of_ble_eq_true rfl, Nat.le_of_ble_eq_true rfl, True.intro, Nat.le_of_ble_eq_true rfl⟩ rfl (rest := []) rfl (s_w_in n (nI 0) (nI 7)) (fun r h1 hq => ?_)
  obtain ⟨rfl, rfl⟩ := hq
  show am_wp _ _ _ [some (.int (n))] [.int (am_b (w_in n (nI 0) (nI 7)))] _ _
  have e9 : w_body n = ((w_in n (nI 0) (nI 7))) := rfl
  exact r_zret k26_7 rfl am_b_1 ⟨by rw [e9], rfl⟩
noncomputable def w_spec (n : Int32) : Prop := (am_ite (w_in n (nI 0) (nI 11)) ((True)) (am_ite (w_in n (nI 16) (nI 27)) ((True)) ((False))))
set_option maxRecDepth 20000 in
theorem s_w_spec {d : am_D} {h : am_H} (n : Int32) (hd : 1 ≤ d.1) (hw : 22 ≤ d.2) : am_wp d 22 0 [some (.int (n))] [] h (fun r h' => r = some (.int (am_b (w_spec n))) ∧ h' = h) := by
  refine r_iload k22_0 rfl ?_
  refine r_pushn (v := nI 0) k22_1 rfl ?_
  refine r_pushn (v := nI 11) k22_2 rfl ?_
  refine j_call (ml := 3) k22_4 rfl (show 0 < d.1 by omega) (show 19 + 3 ≤ d.2 by omega) ⟨Nat.le_of_ble_eq_true rfl, Nat.le_of_ble_eq_true rfl, True.intro, Nat.le_of_ble_eq_true rfl⟩ rfl (rest := []) rfl (s_w_in n (nI 0) (nI 11)) (fun r h1 hq => ?_)
  obtain ⟨rfl, rfl⟩ := hq
  show am_wp _ _ _ [some (.int (n))] [.int (am_b (w_in n (nI 0) (nI 11)))] _ _
  refine r_ifneB k22_7 (fun z7 => ?_) (fun z7 => ?_)
  · have e_n := jx_eq (by decide) z7
    rw [show ([some (.int (n))] : am_L) = [some (.int (nI (jx n)))] by rw [← e_n.1]]
    refine r_pushn (v := nI 1) k22_21 rfl ?_
    refine r_goto k22_22 ?_
    have e9 : w_spec n = ((True)) := by unfold w_spec; rw [am_ite_t z7]
    exact r_zret k22_26 rfl (by decide) ⟨by rw [e9, am_b_t True.intro]; rfl, rfl⟩
  · refine r_iload k22_10 rfl ?_
    refine r_pushn (v := nI 16) k22_11 rfl ?_
    refine r_pushn (v := nI 27) k22_13 rfl ?_
    refine j_call (ml := 3) k22_15 rfl (show 0 < d.1 by omega) (show 19 + 3 ≤ d.2 by omega) ⟨Nat.le_of_ble_eq_true rfl, Nat.le_of_ble_eq_true rfl, True.intro, Nat.le_of_ble_eq_true rfl⟩ rfl (rest := []) rfl (s_w_in n (nI 16) (nI 27)) (fun r h1 hq => ?_)
    obtain ⟨rfl, rfl⟩ := hq
    show am_wp _ _ _ [some (.int (n))] [.int (am_b (w_in n (nI 16) (nI 27)))] _ _
    refine r_ifeqB k22_18 (fun z18 => ?_) (fun z18 => ?_)
    · refine r_pushn (v := nI 0) k22_25 rfl ?_
      have e9 : w_spec n = ((False)) := by unfold w_spec; rw [am_ite_f z7, am_ite_f z18]
      exact r_zret k22_26 rfl (by decide) ⟨by rw [e9, am_b_f (fun q => q)]; rfl, rfl⟩
    · refine r_pushn (v := nI 1) k22_21 rfl ?_
      refine r_goto k22_22 ?_
      have e9 : w_spec n = ((True)) := by unfold w_spec; rw [am_ite_f z7, am_ite_t z18]
      exact r_zret k22_26 rfl (by decide) ⟨by rw [e9, am_b_t True.intro]; rfl, rfl⟩
noncomputable def w_err (n : Int64) : Prop := (am_ite ((lg_cmp n (Int64.ofInt 2147483647)) ≤ 0) ((False)) ((True)))
set_option maxRecDepth 20000 in
theorem s_w_err {d : am_D} {h : am_H} (n : Int64) : am_wp d 28 0 [some (.long (n)), none] [] h (fun r h' => r = some (.int (am_b (w_err n))) ∧ h' = h) := by
  refine r_lload k28_0 rfl ?_
  refine r_pushl k28_1 ?_
  refine r_lcmp k28_4 ?_
  refine r_ifle k28_5 (fun z5 => ?_) (fun z5 => ?_)
  · refine r_pushn (v := nI 0) k28_12 rfl ?_
    have e9 : w_err n = ((False)) := by unfold w_err; rw [am_ite_t z5]
    exact r_zret k28_13 rfl (by decide) ⟨by rw [e9, am_b_f (fun q => q)]; rfl, rfl⟩
  · refine r_pushn (v := nI 1) k28_8 rfl ?_
    refine r_goto k28_9 ?_
    have e9 : w_err n = ((True)) := by unfold w_err; rw [am_ite_f z5]
    exact r_zret k28_13 rfl (by decide) ⟨by rw [e9, am_b_t True.intro]; rfl, rfl⟩
noncomputable def C_total (J : Nat → Nat → Int32) : Int32 := (((J 2 5)))
set_option maxRecDepth 20000 in
theorem s_C_total {d : am_D} {h : am_H} {J : Nat → Nat → Int32} (hB : am_B h) (hT : am_ty2 J) : am_wp d 84 0 [some (.ref 2)] [] (am_si h J) (fun r h' => r = some (.int (C_total J)) ∧ h' = (am_si h J)) := by
  refine r_aload k84_0 rfl ?_
  refine j_get (j := 5) (v := (J 2 5)) k84_1 hB rfl rfl ?_
  have e9 : C_total J = (((J 2 5))) := rfl
  exact r_iret k84_4 rfl ⟨by rw [e9], rfl⟩
noncomputable def C_there (J : Nat → Nat → Int32) (c : Int32) : Prop := (am_ite (w_in c (nI 0) (nI 11)) (am_ite ((jn J 5 (jx c)) = 0) ((False)) ((True))) ((False)))
set_option maxRecDepth 20000 in
theorem s_C_there {d : am_D} {h : am_H} {J : Nat → Nat → Int32} (hB : am_B h) (hT : am_ty2 J) (c : Int32) (hd : 1 ≤ d.1) (hw : 22 ≤ d.2) : am_wp d 85 0 [some (.ref 2), some (.int (c))] [] (am_si h J) (fun r h' => r = some (.int (am_b (C_there J c))) ∧ h' = (am_si h J)) := by
  refine r_iload k85_0 rfl ?_
  refine r_pushn (v := nI 0) k85_1 rfl ?_
  refine r_pushn (v := nI 11) k85_2 rfl ?_
  refine j_call (ml := 3) k85_4 rfl (show 0 < d.1 by omega) (show 19 + 3 ≤ d.2 by omega) ⟨Nat.le_of_ble_eq_true rfl, Nat.le_of_ble_eq_true rfl, True.intro, Nat.le_of_ble_eq_true rfl⟩ rfl (rest := []) rfl (s_w_in c (nI 0) (nI 11)) (fun r h1 hq => ?_)
  obtain ⟨rfl, rfl⟩ := hq
  show am_wp _ _ _ [some (.ref 2), some (.int (c))] [.int (am_b (w_in c (nI 0) (nI 11)))] _ _
  refine r_ifeqB k85_7 (fun z7 => ?_) (fun z7 => ?_)
  · refine r_pushn (v := nI 0) k85_23 rfl ?_
    have e9 : C_there J c = ((False)) := by unfold C_there; rw [am_ite_f z7]
    exact r_zret k85_24 rfl (by decide) ⟨by rw [e9, am_b_f (fun q => q)]; rfl, rfl⟩
  · have e_c := jx_eq (by decide) z7
    rw [show ([some (.ref 2), some (.int (c))] : am_L) = [some (.ref 2), some (.int (nI (jx c)))] by rw [← e_c.1]]
    refine r_aload k85_10 rfl ?_
    refine j_ref (b := 5) k85_11 hB rfl ?_
    refine r_iload k85_14 rfl ?_
    have b15 := ty_n hT (q := 5) (B := 13) (by decide) (by decide) (jx c)
    refine j_ald (n := 12) (j := (jx c)) (v := (nI (jn J 5 (jx c)))) k85_15 hB rfl rfl (by omega) b15.1 ?_
    refine r_ifleN (by omega) k85_16 (fun z16 => ?_) (fun z16 => ?_)
    · refine r_pushn (v := nI 0) k85_23 rfl ?_
      have e9 : C_there J c = ((False)) := by unfold C_there; rw [am_ite_t z7, am_ite_t z16]
      exact r_zret k85_24 rfl (by decide) ⟨by rw [e9, am_b_f (fun q => q)]; rfl, rfl⟩
    · refine r_pushn (v := nI 1) k85_19 rfl ?_
      refine r_goto k85_20 ?_
      have e9 : C_there J c = ((True)) := by unfold C_there; rw [am_ite_t z7, am_ite_f z16]
      exact r_zret k85_24 rfl (by decide) ⟨by rw [e9, am_b_t True.intro]; rfl, rfl⟩
theorem C_there_r {J : Nat → Nat → Int32} {c : Int32} (h : C_there J c) : c = nI (jx c) ∧ jx c ≤ 11 := by
  unfold C_there at h
  by_cases h1 : w_in c (nI 0) (nI 11)
  · exact jx_eq (by decide) h1
  · rw [am_ite_f h1] at h; exact h.elim
noncomputable def C_named (J : Nat → Nat → Int32) (c : Nat) (a : Int32) : Prop := (am_ite (a = ((-1))) ((True)) (am_ite (a = (nI c)) ((True)) (am_ite (C_there J a) ((True)) ((False)))))
set_option maxRecDepth 20000 in
theorem s_C_named {d : am_D} {h : am_H} {J : Nat → Nat → Int32} (hB : am_B h) (hT : am_ty2 J) (c : Nat) (a : Int32) (hc : c < 12) (hd : 2 ≤ d.1) (hw : 43 ≤ d.2) : am_wp d 87 0 [some (.ref 2), some (.int (nI (c))), some (.int (a))] [] (am_si h J) (fun r h' => r = some (.int (am_b (C_named J c a))) ∧ h' = (am_si h J)) := by
  refine r_iload k87_0 rfl ?_
  refine r_pushn (v := (-1)) k87_1 rfl ?_
  refine r_icmpeq k87_2 (fun z2 => ?_) (fun z2 => ?_)
  · refine r_pushn (v := nI 1) k87_18 rfl ?_
    refine r_goto k87_19 ?_
    have e9 : C_named J c a = ((True)) := by unfold C_named; rw [am_ite_t z2]
    exact r_zret k87_23 rfl (by decide) ⟨by rw [e9, am_b_t True.intro]; rfl, rfl⟩
  · refine r_iload k87_5 rfl ?_
    refine r_iload k87_6 rfl ?_
    refine r_icmpeq k87_7 (fun z7 => ?_) (fun z7 => ?_)
    · refine r_pushn (v := nI 1) k87_18 rfl ?_
      refine r_goto k87_19 ?_
      have e9 : C_named J c a = ((True)) := by unfold C_named; rw [am_ite_f z2, am_ite_t z7]
      exact r_zret k87_23 rfl (by decide) ⟨by rw [e9, am_b_t True.intro]; rfl, rfl⟩
    · refine r_aload k87_10 rfl ?_
      refine r_iload k87_11 rfl ?_
      refine j_call (ml := 2) k87_12 rfl (show 0 < d.1 by omega) (show 19 + 2 ≤ d.2 by omega) ⟨Nat.le_of_ble_eq_true rfl, Nat.le_of_ble_eq_true rfl, am_obB hB rfl, Nat.le_of_ble_eq_true rfl⟩ rfl (rest := []) rfl (s_C_there hB hT a (show 1 ≤ d.1 - 1 by omega) (show 22 ≤ d.2 - 21 by omega)) (fun r h1 hq => ?_)
      obtain ⟨rfl, rfl⟩ := hq
      show am_wp _ _ _ [some (.ref 2), some (.int (nI (c))), some (.int (a))] [.int (am_b (C_there J a))] _ _
      refine r_ifeqB k87_15 (fun z15 => ?_) (fun z15 => ?_)
      · refine r_pushn (v := nI 0) k87_22 rfl ?_
        have e9 : C_named J c a = ((False)) := by unfold C_named; rw [am_ite_f z2, am_ite_f z7, am_ite_f z15]
        exact r_zret k87_23 rfl (by decide) ⟨by rw [e9, am_b_f (fun q => q)]; rfl, rfl⟩
      · have e_a := C_there_r z15
        rw [show ([some (.ref 2), some (.int (nI (c))), some (.int (a))] : am_L) = [some (.ref 2), some (.int (nI (c))), some (.int (nI (jx a)))] by rw [← e_a.1]]
        refine r_pushn (v := nI 1) k87_18 rfl ?_
        refine r_goto k87_19 ?_
        have e9 : C_named J c a = ((True)) := by unfold C_named; rw [am_ite_f z2, am_ite_f z7, am_ite_t z15]
        exact r_zret k87_23 rfl (by decide) ⟨by rw [e9, am_b_t True.intro]; rfl, rfl⟩
noncomputable def C_setSlot (J : Nat → Nat → Int32) (c : Nat) (nm : Nat) (how : Nat) (v : Int32) : (Nat → Nat → Int32) := (am_u2 (am_u2 J 6 ((c * 6) + nm) (nI how)) 7 ((c * 6) + nm) v)
set_option maxRecDepth 20000 in
theorem s_C_setSlot {d : am_D} {h : am_H} {J : Nat → Nat → Int32} (hB : am_B h) (hT : am_ty2 J) (c : Nat) (nm : Nat) (how : Nat) (v : Int32) (hc : c < 12) (hn : nm < 6) (hh : how < 4) : am_wp d 100 0 [some (.ref 2), some (.int (nI (c))), some (.int (nI (nm))), some (.int (nI (how))), some (.int (v))] [] (am_si h J) (fun r h' => r = none ∧ h' = am_si h (C_setSlot J c nm how v) ∧ am_ty2 (C_setSlot J c nm how v)) := by
  refine r_aload k100_0 rfl ?_
  refine j_ref (b := 6) k100_1 hB rfl ?_
  refine r_iload k100_4 rfl ?_
  refine r_pushn (v := nI 6) k100_5 rfl ?_
  refine r_imulN k100_7 ?_
  refine r_iload k100_8 rfl ?_
  refine r_iaddN k100_9 ?_
  refine r_iload k100_10 rfl ?_
  refine j_ast (n := 72) (j := ((c * 6) + nm)) k100_11 hB rfl rfl (by omega) ?_
  have hT11 : am_ty2 (am_u2 J 6 ((c * 6) + nm) (nI how)) := ty_w hT (tw_n (B := 4) (by decide) (by decide) (by decide) (by omega))
  refine r_aload k100_12 rfl ?_
  refine j_ref (b := 7) k100_13 hB rfl ?_
  refine r_iload k100_16 rfl ?_
  refine r_pushn (v := nI 6) k100_17 rfl ?_
  refine r_imulN k100_19 ?_
  refine r_iload k100_20 rfl ?_
  refine r_iaddN k100_21 ?_
  refine r_iload k100_22 rfl ?_
  refine j_ast (n := 72) (j := ((c * 6) + nm)) k100_24 hB rfl rfl (by omega) ?_
  have hT24 : am_ty2 (am_u2 (am_u2 J 6 ((c * 6) + nm) (nI how)) 7 ((c * 6) + nm) v) := ty_w hT11 (tw_a (by decide) (by decide) (by decide))
  have e9 : C_setSlot J c nm how v = (am_u2 (am_u2 J 6 ((c * 6) + nm) (nI how)) 7 ((c * 6) + nm) v) := rfl
  exact r_vret k100_25 rfl ⟨rfl, by rw [e9], by rw [e9]; exact hT24⟩
theorem fr_C_setSlot {J : Nat → Nat → Int32} {c : Nat} {nm : Nat} {how : Nat} {v : Int32} (q : Nat) (hq : ¬ q = 6 ∧ ¬ q = 7) : (C_setSlot J c nm how v) q = J q := by
  unfold C_setSlot
  exact (fr_u (by omega)).trans (fr_u (by omega))
noncomputable def C_shared (J : Nat → Nat → Int32) (c : Nat) (nm : Nat) : Prop := (am_ite ((jn J 6 ((c * 6) + nm)) = 3) ((True)) ((False)))
set_option maxRecDepth 20000 in
theorem s_C_shared {d : am_D} {h : am_H} {J : Nat → Nat → Int32} (hB : am_B h) (hT : am_ty2 J) (c : Nat) (nm : Nat) (hc : c < 12) (hn : nm < 6) : am_wp d 102 0 [some (.ref 2), some (.int (nI (c))), some (.int (nI (nm)))] [] (am_si h J) (fun r h' => r = some (.int (am_b (C_shared J c nm))) ∧ h' = (am_si h J)) := by
  refine r_aload k102_0 rfl ?_
  refine j_ref (b := 6) k102_1 hB rfl ?_
  refine r_iload k102_4 rfl ?_
  refine r_pushn (v := nI 6) k102_5 rfl ?_
  refine r_imulN k102_7 ?_
  refine r_iload k102_8 rfl ?_
  refine r_iaddN k102_9 ?_
  have b10 := ty_n hT (q := 6) (B := 4) (by decide) (by decide) ((c * 6) + nm)
  refine j_ald (n := 72) (j := ((c * 6) + nm)) (v := (nI (jn J 6 ((c * 6) + nm)))) k102_10 hB rfl rfl (by omega) b10.1 ?_
  refine r_pushn (v := nI 3) k102_11 rfl ?_
  refine r_icmpneN (by omega) (by omega) k102_12 (fun z12 => ?_) (fun z12 => ?_)
  · refine r_pushn (v := nI 0) k102_19 rfl ?_
    have e9 : C_shared J c nm = ((False)) := by unfold C_shared; rw [am_ite_f z12]
    exact r_zret k102_20 rfl (by decide) ⟨by rw [e9, am_b_f (fun q => q)]; rfl, rfl⟩
  · refine r_pushn (v := nI 1) k102_15 rfl ?_
    refine r_goto k102_16 ?_
    have e9 : C_shared J c nm = ((True)) := by unfold C_shared; rw [am_ite_t z12]
    exact r_zret k102_20 rfl (by decide) ⟨by rw [e9, am_b_t True.intro]; rfl, rfl⟩
noncomputable def C_init (J : Nat → Nat → Int32) (c : Nat) (nm : Nat) : Prop := (am_ite ((jn J 6 ((c * 6) + nm)) = 1) ((True)) ((False)))
set_option maxRecDepth 20000 in
theorem s_C_init {d : am_D} {h : am_H} {J : Nat → Nat → Int32} (hB : am_B h) (hT : am_ty2 J) (c : Nat) (nm : Nat) (hc : c < 12) (hn : nm < 6) : am_wp d 103 0 [some (.ref 2), some (.int (nI (c))), some (.int (nI (nm)))] [] (am_si h J) (fun r h' => r = some (.int (am_b (C_init J c nm))) ∧ h' = (am_si h J)) := by
  refine r_aload k103_0 rfl ?_
  refine j_ref (b := 6) k103_1 hB rfl ?_
  refine r_iload k103_4 rfl ?_
  refine r_pushn (v := nI 6) k103_5 rfl ?_
  refine r_imulN k103_7 ?_
  refine r_iload k103_8 rfl ?_
  refine r_iaddN k103_9 ?_
  have b10 := ty_n hT (q := 6) (B := 4) (by decide) (by decide) ((c * 6) + nm)
  refine j_ald (n := 72) (j := ((c * 6) + nm)) (v := (nI (jn J 6 ((c * 6) + nm)))) k103_10 hB rfl rfl (by omega) b10.1 ?_
  refine r_pushn (v := nI 1) k103_11 rfl ?_
  refine r_icmpneN (by omega) (by omega) k103_12 (fun z12 => ?_) (fun z12 => ?_)
  · refine r_pushn (v := nI 0) k103_19 rfl ?_
    have e9 : C_init J c nm = ((False)) := by unfold C_init; rw [am_ite_f z12]
    exact r_zret k103_20 rfl (by decide) ⟨by rw [e9, am_b_f (fun q => q)]; rfl, rfl⟩
  · refine r_pushn (v := nI 1) k103_15 rfl ?_
    refine r_goto k103_16 ?_
    have e9 : C_init J c nm = ((True)) := by unfold C_init; rw [am_ite_t z12]
    exact r_zret k103_20 rfl (by decide) ⟨by rw [e9, am_b_t True.intro]; rfl, rfl⟩
noncomputable def C_int (J : Nat → Nat → Int32) (c : Nat) (nm : Nat) : Int32 := (((J 7 ((c * 6) + nm))))
set_option maxRecDepth 20000 in
theorem s_C_int {d : am_D} {h : am_H} {J : Nat → Nat → Int32} (hB : am_B h) (hT : am_ty2 J) (c : Nat) (nm : Nat) (hc : c < 12) (hn : nm < 6) : am_wp d 104 0 [some (.ref 2), some (.int (nI (c))), some (.int (nI (nm)))] [] (am_si h J) (fun r h' => r = some (.int (C_int J c nm)) ∧ h' = (am_si h J)) := by
  refine r_aload k104_0 rfl ?_
  refine j_ref (b := 7) k104_1 hB rfl ?_
  refine r_iload k104_4 rfl ?_
  refine r_pushn (v := nI 6) k104_5 rfl ?_
  refine r_imulN k104_7 ?_
  refine r_iload k104_8 rfl ?_
  refine r_iaddN k104_9 ?_
  refine j_ald (n := 72) (j := ((c * 6) + nm)) (v := (J 7 ((c * 6) + nm))) k104_10 hB rfl rfl (by omega) rfl ?_
  have e9 : C_int J c nm = (((J 7 ((c * 6) + nm)))) := rfl
  exact r_iret k104_11 rfl ⟨by rw [e9], rfl⟩
noncomputable def C_setInt (J : Nat → Nat → Int32) (c : Nat) (nm : Nat) (v : Int32) : (Nat → Nat → Int32) := (am_u2 J 7 ((c * 6) + nm) v)
set_option maxRecDepth 20000 in
theorem s_C_setInt {d : am_D} {h : am_H} {J : Nat → Nat → Int32} (hB : am_B h) (hT : am_ty2 J) (c : Nat) (nm : Nat) (v : Int32) (hc : c < 12) (hn : nm < 6) : am_wp d 105 0 [some (.ref 2), some (.int (nI (c))), some (.int (nI (nm))), some (.int (v))] [] (am_si h J) (fun r h' => r = none ∧ h' = am_si h (C_setInt J c nm v) ∧ am_ty2 (C_setInt J c nm v)) := by
  refine r_aload k105_0 rfl ?_
  refine j_ref (b := 7) k105_1 hB rfl ?_
  refine r_iload k105_4 rfl ?_
  refine r_pushn (v := nI 6) k105_5 rfl ?_
  refine r_imulN k105_7 ?_
  refine r_iload k105_8 rfl ?_
  refine r_iaddN k105_9 ?_
  refine r_iload k105_10 rfl ?_
  refine j_ast (n := 72) (j := ((c * 6) + nm)) k105_11 hB rfl rfl (by omega) ?_
  have hT11 : am_ty2 (am_u2 J 7 ((c * 6) + nm) v) := ty_w hT (tw_a (by decide) (by decide) (by decide))
  have e9 : C_setInt J c nm v = (am_u2 J 7 ((c * 6) + nm) v) := rfl
  exact r_vret k105_12 rfl ⟨rfl, by rw [e9], by rw [e9]; exact hT11⟩
theorem fr_C_setInt {J : Nat → Nat → Int32} {c : Nat} {nm : Nat} {v : Int32} (q : Nat) (hq : ¬ q = 7) : (C_setInt J c nm v) q = J q := by
  unfold C_setInt
  exact fr_u (by omega)
