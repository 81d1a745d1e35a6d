/-! The class: the rest of Classes, Instances, Methods, Bodies, Notes without the order. -/
theorem C_hl_r {J : Nat → Nat → Int32} (hT : am_ty2 J) {c nm : Nat} : ∀ m k, C_hl c nm m k J = -1 ∨ ∃ n, n < 12 ∧ C_hl c nm m k J = nI n := by
  intro m
  induction m with
  | zero => intro k; exact Or.inl rfl
  | succ m ih =>
    intro k
    rw [C_hl]
    have b := ty_n hT (q := 4) (B := 12) (by decide) (by decide) ((c * 12) + k)
    by_cases h1 : (jn J 6 (((jn J 4 ((c * 12) + k)) * 6) + nm)) = 0
    · rw [am_ite_t h1]; exact ih (k + 1)
    · rw [am_ite_f h1]; exact Or.inr ⟨_, b.2, rfl⟩
theorem C_holder_n {J : Nat → Nat → Int32} (hT : am_ty2 J) {c nm : Nat} (_ : True) (z : ¬ C_holder J c nm = -1) : C_holder J c nm = nI (jx (C_holder J c nm)) ∧ jx (C_holder J c nm) < 12 := am_mn (by decide) (C_hl_r hT _ _) z
noncomputable def C_prec (J : Nat → Nat → Int32) (c : Nat) (k : Int32) : Int32 := (am_ite (w_in k (nI 0) ((nI (jn J 5 c)) - (nI 1))) (((nI (jn J 4 ((c * 12) + (jx k)))))) ((((-2)))))
set_option maxRecDepth 20000 in
theorem s_C_prec {d : am_D} {h : am_H} {J : Nat → Nat → Int32} (hB : am_B h) (hT : am_ty2 J) (c : Nat) (k : Int32) (hc : c < 12) (hd : 1 ≤ d.1) (hw : 22 ≤ d.2) : am_wp d 98 0 [some (.ref 2), some (.int (nI (c))), some (.int (k))] [] (am_si h J) (fun r h' => r = some (.int (C_prec J c k)) ∧ h' = (am_si h J)) := by
  refine r_iload k98_0 rfl ?_
  refine r_pushn (v := nI 0) k98_1 rfl ?_
  refine r_aload k98_2 rfl ?_
  refine j_ref (b := 5) k98_3 hB rfl ?_
  refine r_iload k98_6 rfl ?_
  have b7 := ty_n hT (q := 5) (B := 13) (by decide) (by decide) c
  refine j_ald (n := 12) (j := c) (v := (nI (jn J 5 c))) k98_7 hB rfl rfl (by omega) b7.1 ?_
  refine r_pushn (v := nI 1) k98_8 rfl ?_
  refine r_isub k98_9 ?_
  refine j_call (ml := 3) k98_10 rfl (show 0 < d.1 by omega) (show 19 + 3 ≤ d.2 by omega) ⟨Nat.le_of_ble_eq_true rfl, Nat.le_of_ble_eq_true rfl, True.intro, Nat.le_of_ble_eq_true rfl⟩ rfl (rest := []) rfl (s_w_in k (nI 0) ((nI (jn J 5 c)) - (nI 1))) (fun r h1 hq => ?_)
  obtain ⟨rfl, rfl⟩ := hq
  show am_wp _ _ _ [some (.ref 2), some (.int (nI (c))), some (.int (k))] [.int (am_b (w_in k (nI 0) ((nI (jn J 5 c)) - (nI 1))))] _ _
  refine r_ifeqB k98_13 (fun z13 => ?_) (fun z13 => ?_)
  · refine r_pushn (v := (-2)) k98_30 rfl ?_
    have e9 : C_prec J c k = ((((-2)))) := by unfold C_prec; rw [am_ite_f z13]
    exact r_iret k98_32 rfl ⟨by rw [e9], rfl⟩
  · have e_k := w_in_lt (by omega) (show w_in _ _ _ from z13)
    rw [show ([some (.ref 2), some (.int (nI (c))), some (.int (k))] : am_L) = [some (.ref 2), some (.int (nI (c))), some (.int (nI (jx k)))] by rw [← e_k.1]]
    refine r_aload k98_16 rfl ?_
    refine j_ref (b := 4) k98_17 hB rfl ?_
    refine r_iload k98_20 rfl ?_
    refine r_pushn (v := nI 12) k98_21 rfl ?_
    refine r_imulN k98_23 ?_
    refine r_iload k98_24 rfl ?_
    refine r_iaddN k98_25 ?_
    have b26 := ty_n hT (q := 4) (B := 12) (by decide) (by decide) ((c * 12) + (jx k))
    refine j_ald (n := 144) (j := ((c * 12) + (jx k))) (v := (nI (jn J 4 ((c * 12) + (jx k))))) k98_26 hB rfl rfl (by omega) b26.1 ?_
    refine r_goto k98_27 ?_
    have e9 : C_prec J c k = (((nI (jn J 4 ((c * 12) + (jx k)))))) := by unfold C_prec; rw [am_ite_t z13]
    exact r_iret k98_32 rfl ⟨by rw [e9], rfl⟩
noncomputable def w_sup (s : Int32) (t : Int32) (u : Int32) : Prop := (am_ite (w_in s (nI 0) (nI 11)) (am_ite (w_in t ((-1)) (nI 11)) (am_ite (w_in u ((-1)) (nI 11)) (am_ite (t = ((-1))) ((True)) (am_ite ((nI (jx s)) = t) ((False)) (am_ite ((nI (jx s)) = u) ((False)) (am_ite (t = u) ((False)) ((True)))))) ((False))) ((False))) ((False)))
set_option maxRecDepth 20000 in
theorem s_w_sup {d : am_D} {h : am_H} (s : Int32) (t : Int32) (u : Int32) (hd : 1 ≤ d.1) (hw : 22 ≤ d.2) : am_wp d 83 0 [some (.int (s)), some (.int (t)), some (.int (u))] [] h (fun r h' => r = some (.int (am_b (w_sup s t u))) ∧ h' = h) := by
  refine r_iload k83_0 rfl ?_
  refine r_pushn (v := nI 0) k83_1 rfl ?_
  refine r_pushn (v := nI 11) k83_2 rfl ?_
  refine j_call (ml := 3) k83_4 rfl (show 0 < d.1 by omega) (show 19 + 3 ≤ d.2 by omega) ⟨Nat.le_of_ble_eq_true rfl, Nat.le_of_ble_eq_true rfl, True.intro, Nat.le_of_ble_eq_true rfl⟩ rfl (rest := []) rfl (s_w_in s (nI 0) (nI 11)) (fun r h1 hq => ?_)
  obtain ⟨rfl, rfl⟩ := hq
  show am_wp _ _ _ [some (.int (s)), some (.int (t)), some (.int (u))] [.int (am_b (w_in s (nI 0) (nI 11)))] _ _
  refine r_ifeqB k83_7 (fun z7 => ?_) (fun z7 => ?_)
  · refine r_pushn (v := nI 0) k83_30 rfl ?_
    have e9 : w_sup s t u = ((False)) := by unfold w_sup; rw [am_ite_f z7]
    exact r_zret k83_31 rfl (by decide) ⟨by rw [e9, am_b_f (fun q => q)]; rfl, rfl⟩
  · have e_s := jx_eq (by decide) z7
    rw [show ([some (.int (s)), some (.int (t)), some (.int (u))] : am_L) = [some (.int (nI (jx s))), some (.int (t)), some (.int (u))] by rw [← e_s.1]]
    refine r_iload k83_10 rfl ?_
    refine r_pushn (v := (-1)) k83_11 rfl ?_
    refine r_pushn (v := nI 11) k83_12 rfl ?_
    refine j_call (ml := 3) k83_14 rfl (show 0 < d.1 by omega) (show 19 + 3 ≤ d.2 by omega) ⟨Nat.le_of_ble_eq_true rfl, Nat.le_of_ble_eq_true rfl, True.intro, Nat.le_of_ble_eq_true rfl⟩ rfl (rest := []) rfl (s_w_in t ((-1)) (nI 11)) (fun r h1 hq => ?_)
    obtain ⟨rfl, rfl⟩ := hq
    show am_wp _ _ _ [some (.int (nI (jx s))), some (.int (t)), some (.int (u))] [.int (am_b (w_in t ((-1)) (nI 11)))] _ _
    refine r_ifeqB k83_17 (fun z17 => ?_) (fun z17 => ?_)
    · refine r_pushn (v := nI 0) k83_30 rfl ?_
      have e9 : w_sup s t u = ((False)) := by unfold w_sup; rw [am_ite_t z7, am_ite_f z17]
      exact r_zret k83_31 rfl (by decide) ⟨by rw [e9, am_b_f (fun q => q)]; rfl, rfl⟩
    · refine r_iload k83_20 rfl ?_
      refine r_pushn (v := (-1)) k83_21 rfl ?_
      refine r_pushn (v := nI 11) k83_22 rfl ?_
      refine j_call (ml := 3) k83_24 rfl (show 0 < d.1 by omega) (show 19 + 3 ≤ d.2 by omega) ⟨Nat.le_of_ble_eq_true rfl, Nat.le_of_ble_eq_true rfl, True.intro, Nat.le_of_ble_eq_true rfl⟩ rfl (rest := []) rfl (s_w_in u ((-1)) (nI 11)) (fun r h1 hq => ?_)
      obtain ⟨rfl, rfl⟩ := hq
      show am_wp _ _ _ [some (.int (nI (jx s))), some (.int (t)), some (.int (u))] [.int (am_b (w_in u ((-1)) (nI 11)))] _ _
      refine r_ifneB k83_27 (fun z27 => ?_) (fun z27 => ?_)
      · refine r_iload k83_32 rfl ?_
        refine r_pushn (v := (-1)) k83_33 rfl ?_
        refine r_icmpeq k83_34 (fun z34 => ?_) (fun z34 => ?_)
        · refine r_pushn (v := nI 1) k83_52 rfl ?_
          refine r_goto k83_53 ?_
          have e9 : w_sup s t u = ((True)) := by unfold w_sup; rw [am_ite_t z7, am_ite_t z17, am_ite_t z27, am_ite_t z34]
          exact r_zret k83_57 rfl (by decide) ⟨by rw [e9, am_b_t True.intro]; rfl, rfl⟩
        · refine r_iload k83_37 rfl ?_
          refine r_iload k83_38 rfl ?_
          refine r_icmpeq k83_39 (fun z39 => ?_) (fun z39 => ?_)
          · refine r_pushn (v := nI 0) k83_56 rfl ?_
            have e9 : w_sup s t u = ((False)) := by unfold w_sup; rw [am_ite_t z7, am_ite_t z17, am_ite_t z27, am_ite_f z34, am_ite_t z39]
            exact r_zret k83_57 rfl (by decide) ⟨by rw [e9, am_b_f (fun q => q)]; rfl, rfl⟩
          · refine r_iload k83_42 rfl ?_
            refine r_iload k83_43 rfl ?_
            refine r_icmpeq k83_44 (fun z44 => ?_) (fun z44 => ?_)
            · refine r_pushn (v := nI 0) k83_56 rfl ?_
              have e9 : w_sup s t u = ((False)) := by unfold w_sup; rw [am_ite_t z7, am_ite_t z17, am_ite_t z27, am_ite_f z34, am_ite_f z39, am_ite_t z44]
              exact r_zret k83_57 rfl (by decide) ⟨by rw [e9, am_b_f (fun q => q)]; rfl, rfl⟩
            · refine r_iload k83_47 rfl ?_
              refine r_iload k83_48 rfl ?_
              refine r_icmpeq k83_49 (fun z49 => ?_) (fun z49 => ?_)
              · refine r_pushn (v := nI 0) k83_56 rfl ?_
                have e9 : w_sup s t u = ((False)) := by unfold w_sup; rw [am_ite_t z7, am_ite_t z17, am_ite_t z27, am_ite_f z34, am_ite_f z39, am_ite_f z44, am_ite_t z49]
                exact r_zret k83_57 rfl (by decide) ⟨by rw [e9, am_b_f (fun q => q)]; rfl, rfl⟩
              · refine r_pushn (v := nI 1) k83_52 rfl ?_
                refine r_goto k83_53 ?_
                have e9 : w_sup s t u = ((True)) := by unfold w_sup; rw [am_ite_t z7, am_ite_t z17, am_ite_t z27, am_ite_f z34, am_ite_f z39, am_ite_f z44, am_ite_f z49]
                exact r_zret k83_57 rfl (by decide) ⟨by rw [e9, am_b_t True.intro]; rfl, rfl⟩
      · refine r_pushn (v := nI 0) k83_30 rfl ?_
        have e9 : w_sup s t u = ((False)) := by unfold w_sup; rw [am_ite_t z7, am_ite_t z17, am_ite_f z27]
        exact r_zret k83_31 rfl (by decide) ⟨by rw [e9, am_b_f (fun q => q)]; rfl, rfl⟩
noncomputable def C_below (J : Nat → Nat → Int32) (x : Int32) (c : Nat) : Prop := (am_ite (x = (nI c)) ((True)) (am_ite (C_there J x) (am_ite ((C_place J (jx x) (nI c)) < 0) ((False)) ((True))) ((False))))
set_option maxRecDepth 20000 in
theorem s_C_below {d : am_D} {h : am_H} {J : Nat → Nat → Int32} (hB : am_B h) (hT : am_ty2 J) (x : Int32) (c : Nat) (hc : c < 12) (hd : 2 ≤ d.1) (hw : 43 ≤ d.2) : am_wp d 91 0 [some (.ref 2), some (.int (x)), some (.int (nI (c)))] [] (am_si h J) (fun r h' => r = some (.int (am_b (C_below J x c))) ∧ h' = (am_si h J)) := by
  refine r_iload k91_0 rfl ?_
  refine r_iload k91_1 rfl ?_
  refine r_icmpeq k91_2 (fun z2 => ?_) (fun z2 => ?_)
  · refine r_pushn (v := nI 1) k91_22 rfl ?_
    refine r_goto k91_23 ?_
    have e9 : C_below J x c = ((True)) := by unfold C_below; rw [am_ite_t z2]
    exact r_zret k91_27 rfl (by decide) ⟨by rw [e9, am_b_t True.intro]; rfl, rfl⟩
  · refine r_aload k91_5 rfl ?_
    refine r_iload k91_6 rfl ?_
    refine j_call (ml := 2) k91_7 rfl (show 0 < d.1 by omega) (show 19 + 2 ≤ d.2 by omega) ⟨Nat.le_of_ble_eq_true rfl, Nat.le_of_ble_eq_true rfl, am_obB hB rfl, Nat.le_of_ble_eq_true rfl⟩ rfl (rest := []) rfl (s_C_there hB hT x (show 1 ≤ d.1 - 1 by omega) (show 22 ≤ d.2 - 21 by omega)) (fun r h1 hq => ?_)
    obtain ⟨rfl, rfl⟩ := hq
    show am_wp _ _ _ [some (.ref 2), some (.int (x)), some (.int (nI (c)))] [.int (am_b (C_there J x))] _ _
    refine r_ifeqB k91_10 (fun z10 => ?_) (fun z10 => ?_)
    · refine r_pushn (v := nI 0) k91_26 rfl ?_
      have e9 : C_below J x c = ((False)) := by unfold C_below; rw [am_ite_f z2, am_ite_f z10]
      exact r_zret k91_27 rfl (by decide) ⟨by rw [e9, am_b_f (fun q => q)]; rfl, rfl⟩
    · have e_x := C_there_r z10
      rw [show ([some (.ref 2), some (.int (x)), some (.int (nI (c)))] : am_L) = [some (.ref 2), some (.int (nI (jx x))), some (.int (nI (c)))] by rw [← e_x.1]]
      refine r_aload k91_13 rfl ?_
      refine r_iload k91_14 rfl ?_
      refine r_iload k91_15 rfl ?_
      refine j_call (ml := 4) k91_16 rfl (show 0 < d.1 by omega) (show 19 + 4 ≤ d.2 by omega) ⟨Nat.le_of_ble_eq_true rfl, Nat.le_of_ble_eq_true rfl, am_obB hB rfl, Nat.le_of_ble_eq_true rfl⟩ rfl (rest := []) rfl (s_C_place hB hT (jx x) (nI c) (by omega)) (fun r h1 hq => ?_)
      obtain ⟨rfl, rfl⟩ := hq
      show am_wp _ _ _ [some (.ref 2), some (.int (nI (jx x))), some (.int (nI (c)))] [.int (C_place J (jx x) (nI c))] _ _
      refine r_iflt k91_19 (fun z19 => ?_) (fun z19 => ?_)
      · refine r_pushn (v := nI 0) k91_26 rfl ?_
        have e9 : C_below J x c = ((False)) := by unfold C_below; rw [am_ite_f z2, am_ite_t z10, am_ite_t z19]
        exact r_zret k91_27 rfl (by decide) ⟨by rw [e9, am_b_f (fun q => q)]; rfl, rfl⟩
      · refine r_pushn (v := nI 1) k91_22 rfl ?_
        refine r_goto k91_23 ?_
        have e9 : C_below J x c = ((True)) := by unfold C_below; rw [am_ite_f z2, am_ite_t z10, am_ite_f z19]
        exact r_zret k91_27 rfl (by decide) ⟨by rw [e9, am_b_t True.intro]; rfl, rfl⟩
noncomputable def M_al (g : Nat) (kind : Nat) (s : Nat) (t : Int32) : Nat → Nat → (Nat → Nat → Int32) → Int32
  | 0, k, J => ((((-1))))
  | m + 1, k, J => (am_ite (M_isOf J k g) (am_ite ((jn J 18 k) = kind) (am_ite ((jn J 19 k) = s) (am_ite ((J 20 k) = t) (((nI k))) (M_al g kind s t m (k + 1) J)) (M_al g kind s t m (k + 1) J)) (M_al g kind s t m (k + 1) J)) (M_al g kind s t m (k + 1) J))
set_option maxRecDepth 20000 in
theorem l_M_al {d : am_D} {h : am_H} {Q : Option Value → am_H → Prop} (hB : am_B h) (g : Nat) (kind : Nat) (s : Nat) (t : Int32) (hg : g < 5) (hk9 : kind < 4) (hs : s < 28) (hd : 1 ≤ d.1) (hw : 22 ≤ d.2) : ∀ (m k : Nat) (J : Nat → Nat → Int32), am_ty2 J → k + m = 16 → Q (some (.int (M_al g kind s t m k J))) (am_si h J) → am_wp d 169 3 [some (.ref 15), some (.int (nI (g))), some (.int (nI (kind))), some (.int (nI (s))), some (.int (t)), some (.int (nI (k)))] [] (am_si h J) Q := by
  intro m
  induction m with
  | zero =>
    intro k J hT hk HQ
    refine r_iload k169_3 rfl ?_
    refine r_pushn (v := nI 16) k169_5 rfl ?_
    refine r_icmpgeN (by omega) (by omega) k169_7 (fun z7 => ?_) (fun z7 => ?_)
    · refine r_pushn (v := (-1)) k169_63 rfl ?_
      have e9 : M_al g kind s t 0 k J = ((((-1)))) := by rw [M_al]
      rw [e9] at HQ
      exact r_iret k169_64 rfl HQ
    · exact absurd z7 (by omega)
  | succ m ih =>
    intro k J hT hk HQ
    refine r_iload k169_3 rfl ?_
    refine r_pushn (v := nI 16) k169_5 rfl ?_
    refine r_icmpgeN (by omega) (by omega) k169_7 (fun z7 => ?_) (fun z7 => ?_)
    · exact absurd z7 (by omega)
    · refine r_aload k169_10 rfl ?_
      refine r_iload k169_11 rfl ?_
      refine r_iload k169_13 rfl ?_
      refine j_call (ml := 3) k169_14 rfl (show 0 < d.1 by omega) (show 19 + 3 ≤ d.2 by omega) ⟨Nat.le_of_ble_eq_true rfl, Nat.le_of_ble_eq_true rfl, am_obB hB rfl, Nat.le_of_ble_eq_true rfl⟩ rfl (rest := []) rfl (s_M_isOf hB hT k g (by omega) (by omega)) (fun r h1 hq => ?_)
      obtain ⟨rfl, rfl⟩ := hq
      show am_wp _ _ _ [some (.ref 15), some (.int (nI (g))), some (.int (nI (kind))), some (.int (nI (s))), some (.int (t)), some (.int (nI (k)))] [.int (am_b (M_isOf J k g))] _ _
      refine r_ifeqB k169_17 (fun z17 => ?_) (fun z17 => ?_)
      · refine r_iinc (v := (nI (k + 1))) (L' := [some (.ref 15), some (.int (nI (g))), some (.int (nI (kind))), some (.int (nI (s))), some (.int (t)), some (.int (nI (k + 1)))]) k169_57 rfl (Nat.le_of_ble_eq_true rfl) (nI_1 _) rfl ?_
        refine r_goto k169_60 ?_
        have e9 : M_al g kind s t (m + 1) k J = M_al g kind s t m (k + 1) J := by rw [M_al]; rw [am_ite_f z17]
        rw [e9] at HQ
        exact ih (k + 1) J hT (by omega) HQ
      · refine r_aload k169_20 rfl ?_
        refine j_ref (b := 18) k169_21 hB rfl ?_
        refine r_iload k169_24 rfl ?_
        have b26 := ty_n hT (q := 18) (B := 4) (by decide) (by decide) k
        refine j_ald (n := 16) (j := k) (v := (nI (jn J 18 k))) k169_26 hB rfl rfl (by omega) b26.1 ?_
        refine r_iload k169_27 rfl ?_
        refine r_icmpneN (by omega) (by omega) k169_28 (fun z28 => ?_) (fun z28 => ?_)
        · refine r_iinc (v := (nI (k + 1))) (L' := [some (.ref 15), some (.int (nI (g))), some (.int (nI (kind))), some (.int (nI (s))), some (.int (t)), some (.int (nI (k + 1)))]) k169_57 rfl (Nat.le_of_ble_eq_true rfl) (nI_1 _) rfl ?_
          refine r_goto k169_60 ?_
          have e9 : M_al g kind s t (m + 1) k J = M_al g kind s t m (k + 1) J := by rw [M_al]; rw [am_ite_t z17, am_ite_f z28]
          rw [e9] at HQ
          exact ih (k + 1) J hT (by omega) HQ
        · refine r_aload k169_31 rfl ?_
          refine j_ref (b := 19) k169_32 hB rfl ?_
          refine r_iload k169_35 rfl ?_
          have b37 := ty_n hT (q := 19) (B := 28) (by decide) (by decide) k
          refine j_ald (n := 16) (j := k) (v := (nI (jn J 19 k))) k169_37 hB rfl rfl (by omega) b37.1 ?_
          refine r_iload k169_38 rfl ?_
          refine r_icmpneN (by omega) (by omega) k169_39 (fun z39 => ?_) (fun z39 => ?_)
          · refine r_iinc (v := (nI (k + 1))) (L' := [some (.ref 15), some (.int (nI (g))), some (.int (nI (kind))), some (.int (nI (s))), some (.int (t)), some (.int (nI (k + 1)))]) k169_57 rfl (Nat.le_of_ble_eq_true rfl) (nI_1 _) rfl ?_
            refine r_goto k169_60 ?_
            have e9 : M_al g kind s t (m + 1) k J = M_al g kind s t m (k + 1) J := by rw [M_al]; rw [am_ite_t z17, am_ite_t z28, am_ite_f z39]
            rw [e9] at HQ
            exact ih (k + 1) J hT (by omega) HQ
          · refine r_aload k169_42 rfl ?_
            refine j_ref (b := 20) k169_43 hB rfl ?_
            refine r_iload k169_46 rfl ?_
            refine j_ald (n := 16) (j := k) (v := (J 20 k)) k169_48 hB rfl rfl (by omega) rfl ?_
            refine r_iload k169_49 rfl ?_
            refine r_icmpne k169_51 (fun z51 => ?_) (fun z51 => ?_)
            · refine r_iinc (v := (nI (k + 1))) (L' := [some (.ref 15), some (.int (nI (g))), some (.int (nI (kind))), some (.int (nI (s))), some (.int (t)), some (.int (nI (k + 1)))]) k169_57 rfl (Nat.le_of_ble_eq_true rfl) (nI_1 _) rfl ?_
              refine r_goto k169_60 ?_
              have e9 : M_al g kind s t (m + 1) k J = M_al g kind s t m (k + 1) J := by rw [M_al]; rw [am_ite_t z17, am_ite_t z28, am_ite_t z39, am_ite_f z51]
              rw [e9] at HQ
              exact ih (k + 1) J hT (by omega) HQ
            · refine r_iload k169_54 rfl ?_
              have e9 : M_al g kind s t (m + 1) k J = (((nI k))) := by rw [M_al]; rw [am_ite_t z17, am_ite_t z28, am_ite_t z39, am_ite_t z51]
              rw [e9] at HQ
              exact r_iret k169_56 rfl HQ
noncomputable def M_alike (J : Nat → Nat → Int32) (g : Nat) (kind : Nat) (s : Nat) (t : Int32) : Int32 := (M_al g kind s t 16 0 J)
set_option maxRecDepth 20000 in
theorem s_M_alike {d : am_D} {h : am_H} {J : Nat → Nat → Int32} (hB : am_B h) (hT : am_ty2 J) (g : Nat) (kind : Nat) (s : Nat) (t : Int32) (hg : g < 5) (hk9 : kind < 4) (hs : s < 28) (hd : 1 ≤ d.1) (hw : 22 ≤ d.2) : am_wp d 169 0 [some (.ref 15), some (.int (nI (g))), some (.int (nI (kind))), some (.int (nI (s))), some (.int (t)), none] [] (am_si h J) (fun r h' => r = some (.int (M_alike J g kind s t)) ∧ h' = (am_si h J)) := by
  refine r_pushn (v := nI 0) k169_0 rfl ?_
  refine r_istore (L' := [some (.ref 15), some (.int (nI (g))), some (.int (nI (kind))), some (.int (nI (s))), some (.int (t)), some (.int (nI 0))]) k169_1 (Nat.le_of_ble_eq_true rfl) rfl ?_
  have e9 : M_alike J g kind s t = (M_al g kind s t 16 0 J) := rfl
  exact (l_M_al hB g kind s t (by omega) (by omega) (by omega) hd hw 16 0 J hT (by omega) ⟨by rw [e9], rfl⟩)
noncomputable def M_lf : Nat → Nat → (Nat → Nat → Int32) → Int32
  | 0, k, J => ((((-1))))
  | m + 1, k, J => (am_ite ((J 17 k) = ((-1))) (((nI k))) (M_lf m (k + 1) J))
set_option maxRecDepth 20000 in
theorem l_M_lf {d : am_D} {h : am_H} {Q : Option Value → am_H → Prop} (hB : am_B h) : ∀ (m k : Nat) (J : Nat → Nat → Int32), am_ty2 J → k + m = 16 → Q (some (.int (M_lf m k J))) (am_si h J) → am_wp d 170 2 [some (.ref 15), some (.int (nI (k)))] [] (am_si h J) Q := by
  intro m
  induction m with
  | zero =>
    intro k J hT hk HQ
    refine r_iload k170_2 rfl ?_
    refine r_pushn (v := nI 16) k170_3 rfl ?_
    refine r_icmpgeN (by omega) (by omega) k170_5 (fun z5 => ?_) (fun z5 => ?_)
    · refine r_pushn (v := (-1)) k170_26 rfl ?_
      have e9 : M_lf 0 k J = ((((-1)))) := by rw [M_lf]
      rw [e9] at HQ
      exact r_iret k170_27 rfl HQ
    · exact absurd z5 (by omega)
  | succ m ih =>
    intro k J hT hk HQ
    refine r_iload k170_2 rfl ?_
    refine r_pushn (v := nI 16) k170_3 rfl ?_
    refine r_icmpgeN (by omega) (by omega) k170_5 (fun z5 => ?_) (fun z5 => ?_)
    · exact absurd z5 (by omega)
    · refine r_aload k170_8 rfl ?_
      refine j_ref (b := 17) k170_9 hB rfl ?_
      refine r_iload k170_12 rfl ?_
      refine j_ald (n := 16) (j := k) (v := (J 17 k)) k170_13 hB rfl rfl (by omega) rfl ?_
      refine r_pushn (v := (-1)) k170_14 rfl ?_
      refine r_icmpne k170_15 (fun z15 => ?_) (fun z15 => ?_)
      · have c15 := ty_m hT (q := 17) (B := 5) (by decide) (by decide) k z15
        refine r_iinc (v := (nI (k + 1))) (L' := [some (.ref 15), some (.int (nI (k + 1)))]) k170_20 rfl (Nat.le_of_ble_eq_true rfl) (nI_1 _) rfl ?_
        refine r_goto k170_23 ?_
        have e9 : M_lf (m + 1) k J = M_lf m (k + 1) J := by rw [M_lf]; rw [am_ite_f z15]
        rw [e9] at HQ
        exact ih (k + 1) J hT (by omega) HQ
      · refine r_iload k170_18 rfl ?_
        have e9 : M_lf (m + 1) k J = (((nI k))) := by rw [M_lf]; rw [am_ite_t z15]
        rw [e9] at HQ
        exact r_iret k170_19 rfl HQ
noncomputable def M_least (J : Nat → Nat → Int32) : Int32 := (M_lf 16 0 J)
set_option maxRecDepth 20000 in
theorem s_M_least {d : am_D} {h : am_H} {J : Nat → Nat → Int32} (hB : am_B h) (hT : am_ty2 J) : am_wp d 170 0 [some (.ref 15), none] [] (am_si h J) (fun r h' => r = some (.int (M_least J)) ∧ h' = (am_si h J)) := by
  refine r_pushn (v := nI 0) k170_0 rfl ?_
  refine r_istore (L' := [some (.ref 15), some (.int (nI 0))]) k170_1 (Nat.le_of_ble_eq_true rfl) rfl ?_
  have e9 : M_least J = (M_lf 16 0 J) := rfl
  exact (l_M_lf hB 16 0 J hT (by omega) ⟨by rw [e9], rfl⟩)
theorem M_al_r {g kind s : Nat} {t : Int32} {J : Nat → Nat → Int32} : ∀ m k, k + m = 16 → M_al g kind s t m k J = -1 ∨ ∃ n, n < 16 ∧ M_al g kind s t m k J = nI n := by
  intro m
  induction m with
  | zero => intro k _; exact Or.inl rfl
  | succ m ih =>
    intro k hk
    rw [M_al]
    by_cases z1 : M_isOf J k g
    · rw [am_ite_t z1]
      by_cases z2 : (jn J 18 k) = kind
      · rw [am_ite_t z2]
        by_cases z3 : (jn J 19 k) = s
        · rw [am_ite_t z3]
          by_cases z4 : J 20 k = t
          · rw [am_ite_t z4]; exact Or.inr ⟨k, by omega, rfl⟩
          · rw [am_ite_f z4]; exact ih (k + 1) (by omega)
        · rw [am_ite_f z3]; exact ih (k + 1) (by omega)
      · rw [am_ite_f z2]; exact ih (k + 1) (by omega)
    · rw [am_ite_f z1]; exact ih (k + 1) (by omega)
theorem M_lf_r {J : Nat → Nat → Int32} : ∀ m k, k + m = 16 → M_lf m k J = -1 ∨ ∃ n, n < 16 ∧ M_lf m k J = nI n := by
  intro m
  induction m with
  | zero => intro k _; exact Or.inl rfl
  | succ m ih =>
    intro k hk
    rw [M_lf]
    by_cases z1 : J 17 k = ((-1))
    · rw [am_ite_t z1]; exact Or.inr ⟨k, by omega, rfl⟩
    · rw [am_ite_f z1]; exact ih (k + 1) (by omega)
theorem M_alike_n {J : Nat → Nat → Int32} (hT : am_ty2 J) {g kind s : Nat} {t : Int32} (_ : True) (z : ¬ M_alike J g kind s t = -1) : M_alike J g kind s t = nI (jx (M_alike J g kind s t)) ∧ jx (M_alike J g kind s t) < 16 := am_mn (by decide) (M_al_r _ _ (by omega)) z
theorem M_alike_ng {J : Nat → Nat → Int32} (hT : am_ty2 J) {g kind s : Nat} {t : Int32} (h : True) (z : 0 ≤ M_alike J g kind s t) : M_alike J g kind s t = nI (jx (M_alike J g kind s t)) ∧ jx (M_alike J g kind s t) < 16 := M_alike_n hT h (fun e => by rw [e] at z; exact absurd z (by decide))
theorem M_least_n {J : Nat → Nat → Int32} (hT : am_ty2 J) (_ : True) (z : ¬ M_least J = -1) : M_least J = nI (jx (M_least J)) ∧ jx (M_least J) < 16 := am_mn (by decide) (M_lf_r _ _ (by omega)) z
theorem M_least_ng {J : Nat → Nat → Int32} (hT : am_ty2 J) (h : True) (z : 0 ≤ M_least J) : M_least J = nI (jx (M_least J)) ∧ jx (M_least J) < 16 := M_least_n hT h (fun e => by rw [e] at z; exact absurd z (by decide))
noncomputable def M_take (J : Nat → Nat → Int32) (m : Nat) : Int32 × (Nat → Nat → Int32) := (((J 17 m), am_u2 (am_u2 J 17 m ((-1))) 15 6 ((J 15 6) - (nI 1))))
set_option maxRecDepth 20000 in
theorem s_M_take {d : am_D} {h : am_H} {J : Nat → Nat → Int32} (hB : am_B h) (hT : am_ty2 J) (m : Nat) (hm : m < 16) : am_wp d 171 0 [some (.ref 15), some (.int (nI (m))), none] [] (am_si h J) (fun r h' => r = some (.int (M_take J m).1) ∧ h' = am_si h (M_take J m).2 ∧ am_ty2 (M_take J m).2) := by
  refine r_aload k171_0 rfl ?_
  refine j_ref (b := 17) k171_1 hB rfl ?_
  refine r_iload k171_4 rfl ?_
  refine j_ald (n := 16) (j := m) (v := (J 17 m)) k171_5 hB rfl rfl (by omega) rfl ?_
  refine r_istore (L' := [some (.ref 15), some (.int (nI (m))), some (.int (J 17 m))]) k171_6 (Nat.le_of_ble_eq_true rfl) rfl ?_
  refine r_aload k171_7 rfl ?_
  refine j_ref (b := 17) k171_8 hB rfl ?_
  refine r_iload k171_11 rfl ?_
  refine r_pushn (v := (-1)) k171_12 rfl ?_
  refine j_ast (n := 16) (j := m) k171_13 hB rfl rfl (by omega) ?_
  have hT13 : am_ty2 (am_u2 J 17 m ((-1))) := ty_w hT (tw_m (B := 5) (by decide) (by decide) (by decide) (Or.inl rfl))
  refine r_aload k171_14 rfl ?_
  refine r_dup rfl k171_15 ?_
  refine j_get (j := 6) (v := (J 15 6)) k171_16 hB rfl rfl ?_
  refine r_pushn (v := nI 1) k171_19 rfl ?_
  refine r_isub k171_20 ?_
  refine j_put (j := 6) k171_21 hB rfl rfl ?_
  have hT21 : am_ty2 (am_u2 (am_u2 J 17 m ((-1))) 15 6 ((J 15 6) - (nI 1))) := ty_w hT13 (tw_u (by decide) (by decide) (by decide))
  refine r_iload k171_24 rfl ?_
  have e9 : M_take J m = (((J 17 m), am_u2 (am_u2 J 17 m ((-1))) 15 6 ((J 15 6) - (nI 1)))) := rfl
  exact r_iret k171_25 rfl ⟨by rw [e9], by rw [e9], by rw [e9]; exact hT21⟩
theorem fr_M_take {J : Nat → Nat → Int32} {m : Nat} (q : Nat) (hq : ¬ q = 15 ∧ ¬ q = 17) : (M_take J m).2 q = J q := by
  unfold M_take
  exact (fr_u (by omega)).trans (fr_u (by omega))
noncomputable def M_settle (J : Nat → Nat → Int32) (g : Nat) (kind : Nat) (s : Nat) (t : Int32) (body : Nat) : Int32 × (Nat → Nat → Int32) := (am_ite (0 ≤ (M_alike J g kind s t)) (((nI (jx (M_alike J g kind s t))), am_u2 (am_u2 (am_u2 (am_u2 (am_u2 J 17 (jx (M_alike J g kind s t)) (nI g)) 18 (jx (M_alike J g kind s t)) (nI kind)) 19 (jx (M_alike J g kind s t)) (nI s)) 20 (jx (M_alike J g kind s t)) t) 21 (jx (M_alike J g kind s t)) (nI body))) (am_ite (0 ≤ (M_least J)) (((nI (jx (M_least J))), am_u2 (am_u2 (am_u2 (am_u2 (am_u2 (am_u2 J 15 6 ((J 15 6) + (nI 1))) 17 (jx (M_least J)) (nI g)) 18 (jx (M_least J)) (nI kind)) 19 (jx (M_least J)) (nI s)) 20 (jx (M_least J)) t) 21 (jx (M_least J)) (nI body))) ((((-3)), J))))
set_option maxRecDepth 20000 in
theorem s_M_settle {d : am_D} {h : am_H} {J : Nat → Nat → Int32} (hB : am_B h) (hT : am_ty2 J) (g : Nat) (kind : Nat) (s : Nat) (t : Int32) (body : Nat) (hg : g < 5) (hk9 : kind < 4) (hs : s < 28) (h_t : t = -1 ∨ ∃ n, n < 28 ∧ t = nI n) (hb : body < 8) (hd : 2 ≤ d.1) (hw : 47 ≤ d.2) : am_wp d 168 0 [some (.ref 15), some (.int (nI (g))), some (.int (nI (kind))), some (.int (nI (s))), some (.int (t)), some (.int (nI (body))), none] [] (am_si h J) (fun r h' => r = some (.int (M_settle J g kind s t body).1) ∧ h' = am_si h (M_settle J g kind s t body).2 ∧ am_ty2 (M_settle J g kind s t body).2) := by
  refine r_aload k168_0 rfl ?_
  refine r_iload k168_1 rfl ?_
  refine r_iload k168_2 rfl ?_
  refine r_iload k168_3 rfl ?_
  refine r_iload k168_4 rfl ?_
  refine j_call (ml := 6) k168_6 rfl (show 0 < d.1 by omega) (show 19 + 6 ≤ d.2 by omega) ⟨Nat.le_of_ble_eq_true rfl, Nat.le_of_ble_eq_true rfl, am_obB hB rfl, Nat.le_of_ble_eq_true rfl⟩ rfl (rest := []) rfl (s_M_alike hB hT g kind s t (by omega) (by omega) (by omega) (show 1 ≤ d.1 - 1 by omega) (show 22 ≤ d.2 - 25 by omega)) (fun r h1 hq => ?_)
  obtain ⟨rfl, rfl⟩ := hq
  show am_wp _ _ _ [some (.ref 15), some (.int (nI (g))), some (.int (nI (kind))), some (.int (nI (s))), some (.int (t)), some (.int (nI (body))), none] [.int (M_alike J g kind s t)] _ _
  refine r_istore (L' := [some (.ref 15), some (.int (nI (g))), some (.int (nI (kind))), some (.int (nI (s))), some (.int (t)), some (.int (nI (body))), some (.int (M_alike J g kind s t))]) k168_9 (Nat.le_of_ble_eq_true rfl) rfl ?_
  refine r_iload k168_11 rfl ?_
  refine r_ifge k168_13 (fun z13 => ?_) (fun z13 => ?_)
  · have c13 := M_alike_ng hT True.intro z13
    rw [show ([some (.ref 15), some (.int (nI (g))), some (.int (nI (kind))), some (.int (nI (s))), some (.int (t)), some (.int (nI (body))), some (.int (M_alike J g kind s t))] : am_L) = [some (.ref 15), some (.int (nI (g))), some (.int (nI (kind))), some (.int (nI (s))), some (.int (t)), some (.int (nI (body))), some (.int (nI (jx (M_alike J g kind s t))))] by rw [← c13.1]]
    refine r_aload k168_40 rfl ?_
    refine j_ref (b := 17) k168_41 hB rfl ?_
    refine r_iload k168_44 rfl ?_
    refine r_iload k168_46 rfl ?_
    refine j_ast (n := 16) (j := (jx (M_alike J g kind s t))) k168_47 hB rfl rfl (by omega) ?_
    have hT47 : am_ty2 (am_u2 J 17 (jx (M_alike J g kind s t)) (nI g)) := ty_w hT (tw_m (B := 5) (by decide) (by decide) (by decide) (Or.inr ⟨_, by omega, rfl⟩))
    refine r_aload k168_48 rfl ?_
    refine j_ref (b := 18) k168_49 hB rfl ?_
    refine r_iload k168_52 rfl ?_
    refine r_iload k168_54 rfl ?_
    refine j_ast (n := 16) (j := (jx (M_alike J g kind s t))) k168_55 hB rfl rfl (by omega) ?_
    have hT55 : am_ty2 (am_u2 (am_u2 J 17 (jx (M_alike J g kind s t)) (nI g)) 18 (jx (M_alike J g kind s t)) (nI kind)) := ty_w hT47 (tw_n (B := 4) (by decide) (by decide) (by decide) (by omega))
    refine r_aload k168_56 rfl ?_
    refine j_ref (b := 19) k168_57 hB rfl ?_
    refine r_iload k168_60 rfl ?_
    refine r_iload k168_62 rfl ?_
    refine j_ast (n := 16) (j := (jx (M_alike J g kind s t))) k168_63 hB rfl rfl (by omega) ?_
    have hT63 : am_ty2 (am_u2 (am_u2 (am_u2 J 17 (jx (M_alike J g kind s t)) (nI g)) 18 (jx (M_alike J g kind s t)) (nI kind)) 19 (jx (M_alike J g kind s t)) (nI s)) := ty_w hT55 (tw_n (B := 28) (by decide) (by decide) (by decide) (by omega))
    refine r_aload k168_64 rfl ?_
    refine j_ref (b := 20) k168_65 hB rfl ?_
    refine r_iload k168_68 rfl ?_
    refine r_iload k168_70 rfl ?_
    refine j_ast (n := 16) (j := (jx (M_alike J g kind s t))) k168_72 hB rfl rfl (by omega) ?_
    have hT72 : am_ty2 (am_u2 (am_u2 (am_u2 (am_u2 J 17 (jx (M_alike J g kind s t)) (nI g)) 18 (jx (M_alike J g kind s t)) (nI kind)) 19 (jx (M_alike J g kind s t)) (nI s)) 20 (jx (M_alike J g kind s t)) t) := ty_w hT63 (tw_m (B := 28) (by decide) (by decide) (by decide) h_t)
    refine r_aload k168_73 rfl ?_
    refine j_ref (b := 21) k168_74 hB rfl ?_
    refine r_iload k168_77 rfl ?_
    refine r_iload k168_79 rfl ?_
    refine j_ast (n := 16) (j := (jx (M_alike J g kind s t))) k168_81 hB rfl rfl (by omega) ?_
    have hT81 : am_ty2 (am_u2 (am_u2 (am_u2 (am_u2 (am_u2 J 17 (jx (M_alike J g kind s t)) (nI g)) 18 (jx (M_alike J g kind s t)) (nI kind)) 19 (jx (M_alike J g kind s t)) (nI s)) 20 (jx (M_alike J g kind s t)) t) 21 (jx (M_alike J g kind s t)) (nI body)) := ty_w hT72 (tw_n (B := 8) (by decide) (by decide) (by decide) (by omega))
    refine r_iload k168_82 rfl ?_
    have e9 : M_settle J g kind s t body = (((nI (jx (M_alike J g kind s t))), am_u2 (am_u2 (am_u2 (am_u2 (am_u2 J 17 (jx (M_alike J g kind s t)) (nI g)) 18 (jx (M_alike J g kind s t)) (nI kind)) 19 (jx (M_alike J g kind s t)) (nI s)) 20 (jx (M_alike J g kind s t)) t) 21 (jx (M_alike J g kind s t)) (nI body))) := by unfold M_settle; rw [am_ite_t z13]
    exact r_iret k168_84 rfl ⟨by rw [e9], by rw [e9], by rw [e9]; exact hT81⟩
  · refine r_aload k168_16 rfl ?_
    refine j_call (ml := 2) k168_17 rfl (show 0 < d.1 by omega) (show 19 + 2 ≤ d.2 by omega) ⟨Nat.le_of_ble_eq_true rfl, Nat.le_of_ble_eq_true rfl, am_obB hB rfl, Nat.le_of_ble_eq_true rfl⟩ rfl (rest := []) rfl (s_M_least hB hT) (fun r h1 hq => ?_)
    obtain ⟨rfl, rfl⟩ := hq
    show am_wp _ _ _ [some (.ref 15), some (.int (nI (g))), some (.int (nI (kind))), some (.int (nI (s))), some (.int (t)), some (.int (nI (body))), some (.int (M_alike J g kind s t))] [.int (M_least J)] _ _
    refine r_istore (L' := [some (.ref 15), some (.int (nI (g))), some (.int (nI (kind))), some (.int (nI (s))), some (.int (t)), some (.int (nI (body))), some (.int (M_least J))]) k168_20 (Nat.le_of_ble_eq_true rfl) rfl ?_
    refine r_iload k168_22 rfl ?_
    refine r_ifge k168_24 (fun z24 => ?_) (fun z24 => ?_)
    · have c24 := M_least_ng hT True.intro z24
      rw [show ([some (.ref 15), some (.int (nI (g))), some (.int (nI (kind))), some (.int (nI (s))), some (.int (t)), some (.int (nI (body))), some (.int (M_least J))] : am_L) = [some (.ref 15), some (.int (nI (g))), some (.int (nI (kind))), some (.int (nI (s))), some (.int (t)), some (.int (nI (body))), some (.int (nI (jx (M_least J))))] by rw [← c24.1]]
      refine r_aload k168_30 rfl ?_
      refine r_dup rfl k168_31 ?_
      refine j_get (j := 6) (v := (J 15 6)) k168_32 hB rfl rfl ?_
      refine r_pushn (v := nI 1) k168_35 rfl ?_
      refine r_iadd k168_36 ?_
      refine j_put (j := 6) k168_37 hB rfl rfl ?_
      have hT37 : am_ty2 (am_u2 J 15 6 ((J 15 6) + (nI 1))) := ty_w hT (tw_u (by decide) (by decide) (by decide))
      refine r_aload k168_40 rfl ?_
      refine j_ref (b := 17) k168_41 hB rfl ?_
      refine r_iload k168_44 rfl ?_
      refine r_iload k168_46 rfl ?_
      refine j_ast (n := 16) (j := (jx (M_least J))) k168_47 hB rfl rfl (by omega) ?_
      have hT47 : am_ty2 (am_u2 (am_u2 J 15 6 ((J 15 6) + (nI 1))) 17 (jx (M_least J)) (nI g)) := ty_w hT37 (tw_m (B := 5) (by decide) (by decide) (by decide) (Or.inr ⟨_, by omega, rfl⟩))
      refine r_aload k168_48 rfl ?_
      refine j_ref (b := 18) k168_49 hB rfl ?_
      refine r_iload k168_52 rfl ?_
      refine r_iload k168_54 rfl ?_
      refine j_ast (n := 16) (j := (jx (M_least J))) k168_55 hB rfl rfl (by omega) ?_
      have hT55 : am_ty2 (am_u2 (am_u2 (am_u2 J 15 6 ((J 15 6) + (nI 1))) 17 (jx (M_least J)) (nI g)) 18 (jx (M_least J)) (nI kind)) := ty_w hT47 (tw_n (B := 4) (by decide) (by decide) (by decide) (by omega))
      refine r_aload k168_56 rfl ?_
      refine j_ref (b := 19) k168_57 hB rfl ?_
      refine r_iload k168_60 rfl ?_
      refine r_iload k168_62 rfl ?_
      refine j_ast (n := 16) (j := (jx (M_least J))) k168_63 hB rfl rfl (by omega) ?_
      have hT63 : am_ty2 (am_u2 (am_u2 (am_u2 (am_u2 J 15 6 ((J 15 6) + (nI 1))) 17 (jx (M_least J)) (nI g)) 18 (jx (M_least J)) (nI kind)) 19 (jx (M_least J)) (nI s)) := ty_w hT55 (tw_n (B := 28) (by decide) (by decide) (by decide) (by omega))
      refine r_aload k168_64 rfl ?_
      refine j_ref (b := 20) k168_65 hB rfl ?_
      refine r_iload k168_68 rfl ?_
      refine r_iload k168_70 rfl ?_
      refine j_ast (n := 16) (j := (jx (M_least J))) k168_72 hB rfl rfl (by omega) ?_
      have hT72 : am_ty2 (am_u2 (am_u2 (am_u2 (am_u2 (am_u2 J 15 6 ((J 15 6) + (nI 1))) 17 (jx (M_least J)) (nI g)) 18 (jx (M_least J)) (nI kind)) 19 (jx (M_least J)) (nI s)) 20 (jx (M_least J)) t) := ty_w hT63 (tw_m (B := 28) (by decide) (by decide) (by decide) h_t)
      refine r_aload k168_73 rfl ?_
      refine j_ref (b := 21) k168_74 hB rfl ?_
      refine r_iload k168_77 rfl ?_
      refine r_iload k168_79 rfl ?_
      refine j_ast (n := 16) (j := (jx (M_least J))) k168_81 hB rfl rfl (by omega) ?_
      have hT81 : am_ty2 (am_u2 (am_u2 (am_u2 (am_u2 (am_u2 (am_u2 J 15 6 ((J 15 6) + (nI 1))) 17 (jx (M_least J)) (nI g)) 18 (jx (M_least J)) (nI kind)) 19 (jx (M_least J)) (nI s)) 20 (jx (M_least J)) t) 21 (jx (M_least J)) (nI body)) := ty_w hT72 (tw_n (B := 8) (by decide) (by decide) (by decide) (by omega))
      refine r_iload k168_82 rfl ?_
      have e9 : M_settle J g kind s t body = (((nI (jx (M_least J))), am_u2 (am_u2 (am_u2 (am_u2 (am_u2 (am_u2 J 15 6 ((J 15 6) + (nI 1))) 17 (jx (M_least J)) (nI g)) 18 (jx (M_least J)) (nI kind)) 19 (jx (M_least J)) (nI s)) 20 (jx (M_least J)) t) 21 (jx (M_least J)) (nI body))) := by unfold M_settle; rw [am_ite_f z13, am_ite_t z24]
      exact r_iret k168_84 rfl ⟨by rw [e9], by rw [e9], by rw [e9]; exact hT81⟩
    · refine r_pushn (v := (-3)) k168_27 rfl ?_
      have e9 : M_settle J g kind s t body = ((((-3)), J)) := by unfold M_settle; rw [am_ite_f z13, am_ite_f z24]
      exact r_iret k168_29 rfl ⟨by rw [e9], by rw [e9], by rw [e9]; exact hT⟩
theorem fr_M_settle {J : Nat → Nat → Int32} {g : Nat} {kind : Nat} {s : Nat} {t : Int32} {body : Nat} (q : Nat) (hq : ¬ q = 15 ∧ ¬ q = 17 ∧ ¬ q = 18 ∧ ¬ q = 19 ∧ ¬ q = 20 ∧ ¬ q = 21) : (M_settle J g kind s t body).2 q = J q := by
  unfold M_settle
  refine fr_i2 (fun _ => ?_) (fun _ => ?_)
  · exact (fr_u (by omega)).trans ((fr_u (by omega)).trans ((fr_u (by omega)).trans ((fr_u (by omega)).trans (fr_u (by omega)))))
  · refine fr_i2 (fun _ => ?_) (fun _ => ?_)
    · exact (fr_u (by omega)).trans ((fr_u (by omega)).trans ((fr_u (by omega)).trans ((fr_u (by omega)).trans ((fr_u (by omega)).trans (fr_u (by omega))))))
    · exact rfl
noncomputable def M_sg (g : Nat) (n : Nat) : Nat → Nat → (Nat → Nat → Int32) → Nat → (Nat → Nat → Int32) × Nat
  | 0, k, J, had => (J, had)
  | m + 1, k, J, had => (am_ite (M_isOf J k g) (M_sg g n m (k + 1) ((M_take J k).2) (had + 1)) (M_sg g n m (k + 1) J had))
set_option maxRecDepth 20000 in
theorem l_M_sg {d : am_D} {h : am_H} {Q : Option Value → am_H → Prop} (hB : am_B h) (g : Nat) (n : Nat) (hg : g < 5) (hd : 1 ≤ d.1) (hw : 22 ≤ d.2) : ∀ (m k : Nat) (J : Nat → Nat → Int32), am_ty2 J → k + m = 16 → ∀ (had : Nat), (am_ty2 (M_sg g n m k J had).1 → am_wp d 167 38 [some (.ref 15), some (.int (nI (g))), some (.int (nI (n))), some (.int (nI ((M_sg g n m k J had).2))), none] [] (am_si h (M_sg g n m k J had).1) Q) → am_wp d 167 5 [some (.ref 15), some (.int (nI (g))), some (.int (nI (n))), some (.int (nI (had))), some (.int (nI (k)))] [] (am_si h J) Q := by
  intro m
  induction m with
  | zero =>
    intro k J hT hk had HQ
    refine r_iload k167_5 rfl ?_
    refine r_pushn (v := nI 16) k167_7 rfl ?_
    refine r_icmpgeN (by omega) (by omega) k167_9 (fun z9 => ?_) (fun z9 => ?_)
    · have e9 : M_sg g n 0 k J had = (J, had) := by rw [M_sg]
      rw [e9] at HQ
      exact wp_L (L := [some (.ref 15), some (.int (nI (g))), some (.int (nI (n))), some (.int (nI (had))), none]) (⟨Or.inr rfl, Or.inr rfl, Or.inr rfl, Or.inr rfl, Or.inl rfl, True.intro⟩) (HQ hT)
    · exact absurd z9 (by omega)
  | succ m ih =>
    intro k J hT hk had HQ
    refine r_iload k167_5 rfl ?_
    refine r_pushn (v := nI 16) k167_7 rfl ?_
    refine r_icmpgeN (by omega) (by omega) k167_9 (fun z9 => ?_) (fun z9 => ?_)
    · exact absurd z9 (by omega)
    · refine r_aload k167_12 rfl ?_
      refine r_iload k167_13 rfl ?_
      refine r_iload k167_15 rfl ?_
      refine j_call (ml := 3) k167_16 rfl (show 0 < d.1 by omega) (show 19 + 3 ≤ d.2 by omega) ⟨Nat.le_of_ble_eq_true rfl, Nat.le_of_ble_eq_true rfl, am_obB hB rfl, Nat.le_of_ble_eq_true rfl⟩ rfl (rest := []) rfl (s_M_isOf hB hT k g (by omega) (by omega)) (fun r h1 hq => ?_)
      obtain ⟨rfl, rfl⟩ := hq
      show am_wp _ _ _ [some (.ref 15), some (.int (nI (g))), some (.int (nI (n))), some (.int (nI (had))), some (.int (nI (k)))] [.int (am_b (M_isOf J k g))] _ _
      refine r_ifeqB k167_19 (fun z19 => ?_) (fun z19 => ?_)
      · refine r_iinc (v := (nI (k + 1))) (L' := [some (.ref 15), some (.int (nI (g))), some (.int (nI (n))), some (.int (nI (had))), some (.int (nI (k + 1)))]) k167_32 rfl (Nat.le_of_ble_eq_true rfl) (nI_1 _) rfl ?_
        refine r_goto k167_35 ?_
        have e9 : M_sg g n (m + 1) k J had = M_sg g n m (k + 1) J had := by rw [M_sg]; rw [am_ite_f z19]
        rw [e9] at HQ
        exact ih (k + 1) J hT (by omega) had HQ
      · refine r_aload k167_22 rfl ?_
        refine r_iload k167_23 rfl ?_
        refine j_call (ml := 3) k167_25 rfl (show 0 < d.1 by omega) (show 19 + 3 ≤ d.2 by omega) ⟨Nat.le_of_ble_eq_true rfl, Nat.le_of_ble_eq_true rfl, am_obB hB rfl, Nat.le_of_ble_eq_true rfl⟩ rfl (rest := []) rfl (s_M_take hB hT k (by omega)) (fun r h1 hq => ?_)
        obtain ⟨rfl, rfl, hT25⟩ := hq
        show am_wp _ _ _ [some (.ref 15), some (.int (nI (g))), some (.int (nI (n))), some (.int (nI (had))), some (.int (nI (k)))] [.int ((M_take J k).1)] _ _
        refine r_pop rfl k167_28 ?_
        refine r_iinc (v := (nI (had + 1))) (L' := [some (.ref 15), some (.int (nI (g))), some (.int (nI (n))), some (.int (nI (had + 1))), some (.int (nI (k)))]) k167_29 rfl (Nat.le_of_ble_eq_true rfl) (nI_1 _) rfl ?_
        refine r_iinc (v := (nI (k + 1))) (L' := [some (.ref 15), some (.int (nI (g))), some (.int (nI (n))), some (.int (nI (had + 1))), some (.int (nI (k + 1)))]) k167_32 rfl (Nat.le_of_ble_eq_true rfl) (nI_1 _) rfl ?_
        refine r_goto k167_35 ?_
        have e9 : M_sg g n (m + 1) k J had = M_sg g n m (k + 1) ((M_take J k).2) (had + 1) := by rw [M_sg]; rw [am_ite_t z19]
        rw [e9] at HQ
        exact ih (k + 1) ((M_take J k).2) hT25 (by omega) (had + 1) HQ
theorem fl_M_sg {g : Nat} {n : Nat} (q : Nat) (hq : ¬ q = 15 ∧ ¬ q = 17) : ∀ (m k : Nat) (J : Nat → Nat → Int32) (had : Nat), (M_sg g n m k J had).1 q = J q := by
  intro m
  induction m with
  | zero =>
    intro k J had
    rw [M_sg]
    first | done | exact rfl
  | succ m ih =>
    intro k J had
    rw [M_sg]
    refine fr_i1 (fun _ => ?_) (fun _ => ?_)
    · exact (ih (k + 1) ((M_take J k).2) (had + 1)).trans (fr_M_take q (by omega))
    · exact ih (k + 1) J had
noncomputable def M_start (J : Nat → Nat → Int32) (g : Nat) (n : Nat) : Int32 × (Nat → Nat → Int32) := (((nI ((M_sg g n 16 0 J 0).2)), am_u2 ((M_sg g n 16 0 J 0).1) 16 g (nI n)))
set_option maxRecDepth 20000 in
theorem s_M_start {d : am_D} {h : am_H} {J : Nat → Nat → Int32} (hB : am_B h) (hT : am_ty2 J) (g : Nat) (n : Nat) (hg : g < 5) (hn : n < 3) (hd : 1 ≤ d.1) (hw : 22 ≤ d.2) : am_wp d 167 0 [some (.ref 15), some (.int (nI (g))), some (.int (nI (n))), none, none] [] (am_si h J) (fun r h' => r = some (.int (M_start J g n).1) ∧ h' = am_si h (M_start J g n).2 ∧ am_ty2 (M_start J g n).2) := by
  refine r_pushn (v := nI 0) k167_0 rfl ?_
  refine r_istore (L' := [some (.ref 15), some (.int (nI (g))), some (.int (nI (n))), some (.int (nI 0)), none]) k167_1 (Nat.le_of_ble_eq_true rfl) rfl ?_
  refine r_pushn (v := nI 0) k167_2 rfl ?_
  refine r_istore (L' := [some (.ref 15), some (.int (nI (g))), some (.int (nI (n))), some (.int (nI 0)), some (.int (nI 0))]) k167_3 (Nat.le_of_ble_eq_true rfl) rfl ?_
  refine (l_M_sg hB g n (by omega) hd hw 16 0 J hT (by omega) 0 (fun hT9M_sg => ?_))
  refine r_aload k167_38 rfl ?_
  refine j_ref (b := 16) k167_39 hB rfl ?_
  refine r_iload k167_42 rfl ?_
  refine r_iload k167_43 rfl ?_
  refine j_ast (n := 5) (j := g) k167_44 hB rfl rfl (by omega) ?_
  have hT44 : am_ty2 (am_u2 ((M_sg g n 16 0 J 0).1) 16 g (nI n)) := ty_w hT9M_sg (tw_n (B := 3) (by decide) (by decide) (by decide) (by omega))
  refine r_iload k167_45 rfl ?_
  have e9 : M_start J g n = (((nI ((M_sg g n 16 0 J 0).2)), am_u2 ((M_sg g n 16 0 J 0).1) 16 g (nI n))) := rfl
  exact r_iret k167_46 rfl ⟨by rw [e9], by rw [e9], by rw [e9]; exact hT44⟩
theorem fr_M_start {J : Nat → Nat → Int32} {g : Nat} {n : Nat} (q : Nat) (hq : ¬ q = 15 ∧ ¬ q = 16 ∧ ¬ q = 17) : (M_start J g n).2 q = J q := by
  unfold M_start
  exact (fr_u (by omega)).trans (fl_M_sg q (by omega) _ _ _ _)
noncomputable def B_append (J : Nat → Nat → Int32) (b : Nat) (op : Nat) (a : Int32) : Int32 × (Nat → Nat → Int32) := (am_ite ((jn J 28 b) = 8) ((((-3)), J)) (((nI ((jn J 28 b) + 1)), am_u2 (am_u2 (am_u2 J 29 ((b * 8) + (jn J 28 b)) (nI op)) 30 ((b * 8) + (jn J 28 b)) a) 28 b (nI ((jn J 28 b) + 1)))))
set_option maxRecDepth 20000 in
theorem s_B_append {d : am_D} {h : am_H} {J : Nat → Nat → Int32} (hB : am_B h) (hT : am_ty2 J) (b : Nat) (op : Nat) (a : Int32) (hb : b < 8) (hop : op < 10) : am_wp d 77 0 [some (.ref 27), some (.int (nI (b))), some (.int (nI (op))), some (.int (a))] [] (am_si h J) (fun r h' => r = some (.int (B_append J b op a).1) ∧ h' = am_si h (B_append J b op a).2 ∧ am_ty2 (B_append J b op a).2) := by
  refine r_aload k77_0 rfl ?_
  refine j_ref (b := 28) k77_1 hB rfl ?_
  refine r_iload k77_4 rfl ?_
  have b5 := ty_n hT (q := 28) (B := 9) (by decide) (by decide) b
  refine j_ald (n := 8) (j := b) (v := (nI (jn J 28 b))) k77_5 hB rfl rfl (by omega) b5.1 ?_
  refine r_pushn (v := nI 8) k77_6 rfl ?_
  refine r_icmpneN (by omega) (by omega) k77_8 (fun z8 => ?_) (fun z8 => ?_)
  · refine r_aload k77_14 rfl ?_
    refine j_ref (b := 29) k77_15 hB rfl ?_
    refine r_iload k77_18 rfl ?_
    refine r_pushn (v := nI 8) k77_19 rfl ?_
    refine r_imulN k77_21 ?_
    refine r_aload k77_22 rfl ?_
    refine j_ref (b := 28) k77_23 hB rfl ?_
    refine r_iload k77_26 rfl ?_
    have b27 := ty_n hT (q := 28) (B := 9) (by decide) (by decide) b
    refine j_ald (n := 8) (j := b) (v := (nI (jn J 28 b))) k77_27 hB rfl rfl (by omega) b27.1 ?_
    refine r_iaddN k77_28 ?_
    refine r_iload k77_29 rfl ?_
    refine j_ast (n := 64) (j := ((b * 8) + (jn J 28 b))) k77_30 hB rfl rfl (by omega) ?_
    have hT30 : am_ty2 (am_u2 J 29 ((b * 8) + (jn J 28 b)) (nI op)) := ty_w hT (tw_n (B := 10) (by decide) (by decide) (by decide) (by omega))
    refine r_aload k77_31 rfl ?_
    refine j_ref (b := 30) k77_32 hB rfl ?_
    refine r_iload k77_35 rfl ?_
    refine r_pushn (v := nI 8) k77_36 rfl ?_
    refine r_imulN k77_38 ?_
    refine r_aload k77_39 rfl ?_
    refine j_ref (b := 28) k77_40 hB rfl ?_
    refine r_iload k77_43 rfl ?_
    have b44 := ty_n hT (q := 28) (B := 9) (by decide) (by decide) b
    refine j_ald (n := 8) (j := b) (v := (nI (jn J 28 b))) k77_44 hB rfl rfl (by omega) b44.1 ?_
    refine r_iaddN k77_45 ?_
    refine r_iload k77_46 rfl ?_
    refine j_ast (n := 64) (j := ((b * 8) + (jn J 28 b))) k77_47 hB rfl rfl (by omega) ?_
    have hT47 : am_ty2 (am_u2 (am_u2 J 29 ((b * 8) + (jn J 28 b)) (nI op)) 30 ((b * 8) + (jn J 28 b)) a) := ty_w hT30 (tw_a (by decide) (by decide) (by decide))
    refine r_aload k77_48 rfl ?_
    refine j_ref (b := 28) k77_49 hB rfl ?_
    refine r_iload k77_52 rfl ?_
    refine r_dup2 rfl rfl k77_53 ?_
    have b54 := ty_n hT (q := 28) (B := 9) (by decide) (by decide) b
    refine j_ald (n := 8) (j := b) (v := (nI (jn J 28 b))) k77_54 hB rfl rfl (by omega) b54.1 ?_
    refine r_pushn (v := nI 1) k77_55 rfl ?_
    refine r_iaddN k77_56 ?_
    refine j_ast (n := 8) (j := b) k77_57 hB rfl rfl (by omega) ?_
    have hT57 : am_ty2 (am_u2 (am_u2 (am_u2 J 29 ((b * 8) + (jn J 28 b)) (nI op)) 30 ((b * 8) + (jn J 28 b)) a) 28 b (nI ((jn J 28 b) + 1))) := ty_w hT47 (tw_n (B := 9) (by decide) (by decide) (by decide) (by omega))
    refine r_aload k77_58 rfl ?_
    refine j_ref (b := 28) k77_59 hB rfl ?_
    refine r_iload k77_62 rfl ?_
    refine j_ald (n := 8) (j := b) (v := (nI ((jn J 28 b) + 1))) k77_63 hB rfl rfl (by omega) (am_u2_s (J := am_u2 (am_u2 J 29 ((b * 8) + (jn J 28 b)) (nI op)) 30 ((b * 8) + (jn J 28 b)) a) (q := 28) (j := b) (x := (nI ((jn J 28 b) + 1)))) ?_
    have e9 : B_append J b op a = (((nI ((jn J 28 b) + 1)), am_u2 (am_u2 (am_u2 J 29 ((b * 8) + (jn J 28 b)) (nI op)) 30 ((b * 8) + (jn J 28 b)) a) 28 b (nI ((jn J 28 b) + 1)))) := by unfold B_append; rw [am_ite_f z8]
    exact r_iret k77_64 rfl ⟨by rw [e9], by rw [e9], by rw [e9]; exact hT57⟩
  · refine r_pushn (v := (-3)) k77_11 rfl ?_
    have e9 : B_append J b op a = ((((-3)), J)) := by unfold B_append; rw [am_ite_t z8]
    exact r_iret k77_13 rfl ⟨by rw [e9], by rw [e9], by rw [e9]; exact hT⟩
theorem fr_B_append {J : Nat → Nat → Int32} {b : Nat} {op : Nat} {a : Int32} (q : Nat) (hq : ¬ q = 28 ∧ ¬ q = 29 ∧ ¬ q = 30) : (B_append J b op a).2 q = J q := by
  unfold B_append
  refine fr_i2 (fun _ => ?_) (fun _ => ?_)
  · exact rfl
  · exact (fr_u (by omega)).trans ((fr_u (by omega)).trans (fr_u (by omega)))
noncomputable def T_take (J : Nat → Nat → Int32) (a : Int32) : (Nat → Nat → Int32) := (am_u2 (am_u2 (am_u2 (am_u2 J 32 (jn J 31 1) a) 31 1 (nI (((jn J 31 1) + 1) % 20))) 31 2 (nI (min ((jn J 31 2) + 1) 20))) 31 3 ((J 31 3) + (nI 1)))
set_option maxRecDepth 20000 in
theorem s_T_take {d : am_D} {h : am_H} {J : Nat → Nat → Int32} (hB : am_B h) (hT : am_ty2 J) (a : Int32) (hd : 1 ≤ d.1) (hw : 26 ≤ d.2) : am_wp d 174 0 [some (.ref 31), some (.int (a))] [] (am_si h J) (fun r h' => r = none ∧ h' = am_si h (T_take J a) ∧ am_ty2 (T_take J a)) := by
  refine r_aload k174_0 rfl ?_
  refine j_ref (b := 32) k174_1 hB rfl ?_
  refine r_aload k174_4 rfl ?_
  have b5 := ty_f hT (q := 31) (j := 1) (B := 20) (by decide) (by decide)
  refine j_get (j := 1) (v := (nI (jn J 31 1))) k174_5 hB rfl b5.1 ?_
  refine r_iload k174_8 rfl ?_
  refine j_ast (n := 20) (j := (jn J 31 1)) k174_9 hB rfl rfl (by omega) ?_
  have hT9 : am_ty2 (am_u2 J 32 (jn J 31 1) a) := ty_w hT (tw_a (by decide) (by decide) (by decide))
  refine r_aload k174_10 rfl ?_
  refine r_aload k174_11 rfl ?_
  have b12 := ty_f hT (q := 31) (j := 1) (B := 20) (by decide) (by decide)
  refine j_get (j := 1) (v := (nI (jn J 31 1))) k174_12 hB rfl b12.1 ?_
  refine r_pushn (v := nI 1) k174_15 rfl ?_
  refine r_iaddN k174_16 ?_
  refine r_pushn (v := nI 20) k174_17 rfl ?_
  refine r_iremN (by omega) (by omega) (by omega) k174_19 ?_
  refine j_put (j := 1) k174_20 hB rfl rfl ?_
  have hT20 : am_ty2 (am_u2 (am_u2 J 32 (jn J 31 1) a) 31 1 (nI (((jn J 31 1) + 1) % 20))) := ty_w hT9 (tw_f (B := 20) (by decide) (by decide) (by decide) (by omega))
  refine r_aload k174_23 rfl ?_
  refine r_aload k174_24 rfl ?_
  have b25 := ty_f hT (q := 31) (j := 2) (B := 21) (by decide) (by decide)
  refine j_get (j := 2) (v := (nI (jn J 31 2))) k174_25 hB rfl b25.1 ?_
  refine r_pushn (v := nI 1) k174_28 rfl ?_
  refine r_iaddN k174_29 ?_
  refine r_pushn (v := nI 20) k174_30 rfl ?_
  refine r_minN (by omega) (by omega) k174_32 (show 0 < d.1 by omega) (show 26 ≤ d.2 by omega) (Nat.le_of_ble_eq_true rfl) ?_
  refine j_put (j := 2) k174_35 hB rfl rfl ?_
  have hT35 : am_ty2 (am_u2 (am_u2 (am_u2 J 32 (jn J 31 1) a) 31 1 (nI (((jn J 31 1) + 1) % 20))) 31 2 (nI (min ((jn J 31 2) + 1) 20))) := ty_w hT20 (tw_f (B := 21) (by decide) (by decide) (by decide) (by omega))
  refine r_aload k174_38 rfl ?_
  refine r_dup rfl k174_39 ?_
  refine j_get (j := 3) (v := (J 31 3)) k174_40 hB rfl rfl ?_
  refine r_pushn (v := nI 1) k174_43 rfl ?_
  refine r_iadd k174_44 ?_
  refine j_put (j := 3) k174_45 hB rfl rfl ?_
  have hT45 : am_ty2 (am_u2 (am_u2 (am_u2 (am_u2 J 32 (jn J 31 1) a) 31 1 (nI (((jn J 31 1) + 1) % 20))) 31 2 (nI (min ((jn J 31 2) + 1) 20))) 31 3 ((J 31 3) + (nI 1))) := ty_w hT35 (tw_u (by decide) (by decide) (by decide))
  have e9 : T_take J a = (am_u2 (am_u2 (am_u2 (am_u2 J 32 (jn J 31 1) a) 31 1 (nI (((jn J 31 1) + 1) % 20))) 31 2 (nI (min ((jn J 31 2) + 1) 20))) 31 3 ((J 31 3) + (nI 1))) := rfl
  exact r_vret k174_48 rfl ⟨rfl, by rw [e9], by rw [e9]; exact hT45⟩
theorem fr_T_take {J : Nat → Nat → Int32} {a : Int32} (q : Nat) (hq : ¬ q = 31 ∧ ¬ q = 32) : (T_take J a) q = J q := by
  unfold T_take
  exact (fr_u (by omega)).trans ((fr_u (by omega)).trans ((fr_u (by omega)).trans (fr_u (by omega))))
noncomputable def T_before (J : Nat → Nat → Int32) (k : Int32) : Int32 := (am_ite (w_in k (nI 0) ((nI (jn J 31 2)) - (nI 1))) (((J 32 (((((jn J 31 1) + 20) - 1) - (jx k)) % 20)))) ((((-2)))))
set_option maxRecDepth 20000 in
theorem s_T_before {d : am_D} {h : am_H} {J : Nat → Nat → Int32} (hB : am_B h) (hT : am_ty2 J) (k : Int32) (hd : 1 ≤ d.1) (hw : 22 ≤ d.2) : am_wp d 175 0 [some (.ref 31), some (.int (k))] [] (am_si h J) (fun r h' => r = some (.int (T_before J k)) ∧ h' = (am_si h J)) := by
  refine r_iload k175_0 rfl ?_
  refine r_pushn (v := nI 0) k175_1 rfl ?_
  refine r_aload k175_2 rfl ?_
  have b3 := ty_f hT (q := 31) (j := 2) (B := 21) (by decide) (by decide)
  refine j_get (j := 2) (v := (nI (jn J 31 2))) k175_3 hB rfl b3.1 ?_
  refine r_pushn (v := nI 1) k175_6 rfl ?_
  refine r_isub k175_7 ?_
  refine j_call (ml := 3) k175_8 rfl (show 0 < d.1 by omega) (show 19 + 3 ≤ d.2 by omega) ⟨Nat.le_of_ble_eq_true rfl, Nat.le_of_ble_eq_true rfl, True.intro, Nat.le_of_ble_eq_true rfl⟩ rfl (rest := []) rfl (s_w_in k (nI 0) ((nI (jn J 31 2)) - (nI 1))) (fun r h1 hq => ?_)
  obtain ⟨rfl, rfl⟩ := hq
  show am_wp _ _ _ [some (.ref 31), some (.int (k))] [.int (am_b (w_in k (nI 0) ((nI (jn J 31 2)) - (nI 1))))] _ _
  refine r_ifeqB k175_11 (fun z11 => ?_) (fun z11 => ?_)
  · refine r_pushn (v := (-2)) k175_36 rfl ?_
    have e9 : T_before J k = ((((-2)))) := by unfold T_before; rw [am_ite_f z11]
    exact r_iret k175_38 rfl ⟨by rw [e9], rfl⟩
  · have e_k := w_in_lt (by omega) (show w_in _ _ _ from z11)
    rw [show ([some (.ref 31), some (.int (k))] : am_L) = [some (.ref 31), some (.int (nI (jx k)))] by rw [← e_k.1]]
    refine r_aload k175_14 rfl ?_
    refine j_ref (b := 32) k175_15 hB rfl ?_
    refine r_aload k175_18 rfl ?_
    have b19 := ty_f hT (q := 31) (j := 1) (B := 20) (by decide) (by decide)
    refine j_get (j := 1) (v := (nI (jn J 31 1))) k175_19 hB rfl b19.1 ?_
    refine r_pushn (v := nI 20) k175_22 rfl ?_
    refine r_iaddN k175_24 ?_
    refine r_pushn (v := nI 1) k175_25 rfl ?_
    refine r_isubN (by omega) k175_26 ?_
    refine r_iload k175_27 rfl ?_
    refine r_isubN (by omega) k175_28 ?_
    refine r_pushn (v := nI 20) k175_29 rfl ?_
    refine r_iremN (by omega) (by omega) (by omega) k175_31 ?_
    refine j_ald (n := 20) (j := (((((jn J 31 1) + 20) - 1) - (jx k)) % 20)) (v := (J 32 (((((jn J 31 1) + 20) - 1) - (jx k)) % 20))) k175_32 hB rfl rfl (by omega) rfl ?_
    refine r_goto k175_33 ?_
    have e9 : T_before J k = (((J 32 (((((jn J 31 1) + 20) - 1) - (jx k)) % 20)))) := by unfold T_before; rw [am_ite_t z11]
    exact r_iret k175_38 rfl ⟨by rw [e9], rfl⟩
noncomputable def I_tl (i : Nat) (old : Int32) : Nat → Nat → (Nat → Nat → Int32) → Int32 → (Nat → Nat → Int32) × Int32
  | 0, k, J, loc => (J, loc)
  | m + 1, k, J, loc => (am_ite ((C_holder J (jn J 11 i) k) = ((-1))) (I_tl i old m (k + 1) (am_u2 J 13 i ((J 13 i) &&& (((nI 1) <<< ((nI k) &&& 31)) ^^^ ((-1))))) loc) (am_ite (C_shared J (jx (C_holder J (jn J 11 i) k)) k) (I_tl i old m (k + 1) (am_u2 J 13 i ((J 13 i) &&& (((nI 1) <<< ((nI k) &&& 31)) ^^^ ((-1))))) loc) (am_ite (w_isin old (nI k)) (I_tl i old m (k + 1) J (loc ||| ((nI 1) <<< ((nI k) &&& 31)))) (am_ite (C_init J (jx (C_holder J (jn J 11 i) k)) k) (I_tl i old m (k + 1) (I_setVal J i k (C_int J (jx (C_holder J (jn J 11 i) k)) k)) (loc ||| ((nI 1) <<< ((nI k) &&& 31)))) (I_tl i old m (k + 1) J (loc ||| ((nI 1) <<< ((nI k) &&& 31))))))))
set_option maxRecDepth 20000 in
theorem l_I_tl {d : am_D} {h : am_H} {Q : Option Value → am_H → Prop} (hB : am_B h) (i : Nat) (old : Int32) (hi : i < 12) (hd : 1 ≤ d.1) (hw : 24 ≤ d.2) : ∀ (m k : Nat) (J : Nat → Nat → Int32), am_ty2 J → k + m = 6 → ∀ (loc : Int32), (am_ty2 (I_tl i old m k J loc).1 → am_wp d 124 128 [some (.ref 10), some (.int (nI (i))), some (.int (old)), some (.int ((I_tl i old m k J loc).2)), none, none] [] (am_si h (I_tl i old m k J loc).1) Q) → am_wp d 124 12 [some (.ref 10), some (.int (nI (i))), some (.int (old)), some (.int (loc)), some (.int (nI (k))), none] [] (am_si h J) Q := by
  intro m
  induction m with
  | zero =>
    intro k J hT hk loc HQ
    refine r_iload k124_12 rfl ?_
    refine r_pushn (v := nI 6) k124_14 rfl ?_
    refine r_icmpgeN (by omega) (by omega) k124_16 (fun z16 => ?_) (fun z16 => ?_)
    · have e9 : I_tl i old 0 k J loc = (J, loc) := by rw [I_tl]
      rw [e9] at HQ
      exact wp_L (L := [some (.ref 10), some (.int (nI (i))), some (.int (old)), some (.int (loc)), none, none]) (⟨Or.inr rfl, Or.inr rfl, Or.inr rfl, Or.inr rfl, Or.inl rfl, Or.inl rfl, True.intro⟩) (HQ hT)
    · exact absurd z16 (by omega)
  | succ m ih =>
    intro k J hT hk loc HQ
    refine r_iload k124_12 rfl ?_
    refine r_pushn (v := nI 6) k124_14 rfl ?_
    refine r_icmpgeN (by omega) (by omega) k124_16 (fun z16 => ?_) (fun z16 => ?_)
    · exact absurd z16 (by omega)
    · refine r_aload k124_19 rfl ?_
      refine j_ref (b := 2) k124_20 hB rfl ?_
      refine r_aload k124_23 rfl ?_
      refine j_ref (b := 11) k124_24 hB rfl ?_
      refine r_iload k124_27 rfl ?_
      have b28 := ty_n hT (q := 11) (B := 12) (by decide) (by decide) i
      refine j_ald (n := 12) (j := i) (v := (nI (jn J 11 i))) k124_28 hB rfl rfl (by omega) b28.1 ?_
      refine r_iload k124_29 rfl ?_
      refine j_call (ml := 5) k124_31 rfl (show 0 < d.1 by omega) (show 19 + 5 ≤ d.2 by omega) ⟨Nat.le_of_ble_eq_true rfl, Nat.le_of_ble_eq_true rfl, am_obB hB rfl, Nat.le_of_ble_eq_true rfl⟩ rfl (rest := []) rfl (s_C_holder hB hT (jn J 11 i) k (by omega) (by omega)) (fun r h1 hq => ?_)
      obtain ⟨rfl, rfl⟩ := hq
      show am_wp _ _ _ [some (.ref 10), some (.int (nI (i))), some (.int (old)), some (.int (loc)), some (.int (nI (k))), none] [.int (C_holder J (jn J 11 i) k)] _ _
      refine r_istore (L' := [some (.ref 10), some (.int (nI (i))), some (.int (old)), some (.int (loc)), some (.int (nI (k))), some (.int (C_holder J (jn J 11 i) k))]) k124_34 (Nat.le_of_ble_eq_true rfl) rfl ?_
      refine r_iload k124_36 rfl ?_
      refine r_pushn (v := (-1)) k124_38 rfl ?_
      refine r_icmpeq k124_39 (fun z39 => ?_) (fun z39 => ?_)
      · refine r_aload k124_56 rfl ?_
        refine j_ref (b := 13) k124_57 hB rfl ?_
        refine r_iload k124_60 rfl ?_
        refine r_dup2 rfl rfl k124_61 ?_
        refine j_ald (n := 12) (j := i) (v := (J 13 i)) k124_62 hB rfl rfl (by omega) rfl ?_
        refine r_pushn (v := nI 1) k124_63 rfl ?_
        refine r_iload k124_64 rfl ?_
        refine r_ishl k124_66 ?_
        refine r_pushn (v := (-1)) k124_67 rfl ?_
        refine r_ixor k124_68 ?_
        refine r_iand k124_69 ?_
        refine j_ast (n := 12) (j := i) k124_70 hB rfl rfl (by omega) ?_
        have hT70 : am_ty2 (am_u2 J 13 i ((J 13 i) &&& (((nI 1) <<< ((nI k) &&& 31)) ^^^ ((-1))))) := ty_w hT (tw_a (by decide) (by decide) (by decide))
        refine r_goto k124_71 ?_
        refine r_iinc (v := (nI (k + 1))) (L' := [some (.ref 10), some (.int (nI (i))), some (.int (old)), some (.int (loc)), some (.int (nI (k + 1))), some (.int (C_holder J (jn J 11 i) k))]) k124_122 rfl (Nat.le_of_ble_eq_true rfl) (nI_1 _) rfl ?_
        refine r_goto k124_125 ?_
        have e9 : I_tl i old (m + 1) k J loc = I_tl i old m (k + 1) (am_u2 J 13 i ((J 13 i) &&& (((nI 1) <<< ((nI k) &&& 31)) ^^^ ((-1))))) loc := by rw [I_tl]; rw [am_ite_t z39]
        rw [e9] at HQ
        exact wp_L (L := [some (.ref 10), some (.int (nI (i))), some (.int (old)), some (.int (loc)), some (.int (nI (k + 1))), none]) (⟨Or.inr rfl, Or.inr rfl, Or.inr rfl, Or.inr rfl, Or.inr rfl, Or.inl rfl, True.intro⟩) (ih (k + 1) (am_u2 J 13 i ((J 13 i) &&& (((nI 1) <<< ((nI k) &&& 31)) ^^^ ((-1))))) hT70 (by omega) loc HQ)
      · have c39 := C_holder_n hT True.intro z39
        rw [show ([some (.ref 10), some (.int (nI (i))), some (.int (old)), some (.int (loc)), some (.int (nI (k))), some (.int (C_holder J (jn J 11 i) k))] : am_L) = [some (.ref 10), some (.int (nI (i))), some (.int (old)), some (.int (loc)), some (.int (nI (k))), some (.int (nI (jx (C_holder J (jn J 11 i) k))))] by rw [← c39.1]]
        refine r_aload k124_42 rfl ?_
        refine j_ref (b := 2) k124_43 hB rfl ?_
        refine r_iload k124_46 rfl ?_
        refine r_iload k124_48 rfl ?_
        refine j_call (ml := 3) k124_50 rfl (show 0 < d.1 by omega) (show 19 + 3 ≤ d.2 by omega) ⟨Nat.le_of_ble_eq_true rfl, Nat.le_of_ble_eq_true rfl, am_obB hB rfl, Nat.le_of_ble_eq_true rfl⟩ rfl (rest := []) rfl (s_C_shared hB hT (jx (C_holder J (jn J 11 i) k)) k (by omega) (by omega)) (fun r h1 hq => ?_)
        obtain ⟨rfl, rfl⟩ := hq
        show am_wp _ _ _ [some (.ref 10), some (.int (nI (i))), some (.int (old)), some (.int (loc)), some (.int (nI (k))), some (.int (nI (jx (C_holder J (jn J 11 i) k))))] [.int (am_b (C_shared J (jx (C_holder J (jn J 11 i) k)) k))] _ _
        refine r_ifeqB k124_53 (fun z53 => ?_) (fun z53 => ?_)
        · refine r_iload k124_74 rfl ?_
          refine r_pushn (v := nI 1) k124_75 rfl ?_
          refine r_iload k124_76 rfl ?_
          refine r_ishl k124_78 ?_
          refine r_ior k124_79 ?_
          refine r_istore (L' := [some (.ref 10), some (.int (nI (i))), some (.int (old)), some (.int (loc ||| ((nI 1) <<< ((nI k) &&& 31)))), some (.int (nI (k))), some (.int (nI (jx (C_holder J (jn J 11 i) k))))]) k124_80 (Nat.le_of_ble_eq_true rfl) rfl ?_
          refine r_iload k124_81 rfl ?_
          refine r_iload k124_82 rfl ?_
          refine j_call (ml := 2) k124_84 rfl (show 0 < d.1 by omega) (show 19 + 2 ≤ d.2 by omega) ⟨Nat.le_of_ble_eq_true rfl, Nat.le_of_ble_eq_true rfl, True.intro, Nat.le_of_ble_eq_true rfl⟩ rfl (rest := []) rfl (s_w_isin old (nI k)) (fun r h1 hq => ?_)
          obtain ⟨rfl, rfl⟩ := hq
          show am_wp _ _ _ [some (.ref 10), some (.int (nI (i))), some (.int (old)), some (.int (loc ||| ((nI 1) <<< ((nI k) &&& 31)))), some (.int (nI (k))), some (.int (nI (jx (C_holder J (jn J 11 i) k))))] [.int (am_b (w_isin old (nI k)))] _ _
          refine r_ifneB k124_87 (fun z87 => ?_) (fun z87 => ?_)
          · refine r_iinc (v := (nI (k + 1))) (L' := [some (.ref 10), some (.int (nI (i))), some (.int (old)), some (.int (loc ||| ((nI 1) <<< ((nI k) &&& 31)))), some (.int (nI (k + 1))), some (.int (nI (jx (C_holder J (jn J 11 i) k))))]) k124_122 rfl (Nat.le_of_ble_eq_true rfl) (nI_1 _) rfl ?_
            refine r_goto k124_125 ?_
            have e9 : I_tl i old (m + 1) k J loc = I_tl i old m (k + 1) J (loc ||| ((nI 1) <<< ((nI k) &&& 31))) := by rw [I_tl]; rw [am_ite_f z39, am_ite_f z53, am_ite_t z87]
            rw [e9] at HQ
            exact wp_L (L := [some (.ref 10), some (.int (nI (i))), some (.int (old)), some (.int (loc ||| ((nI 1) <<< ((nI k) &&& 31)))), some (.int (nI (k + 1))), none]) (⟨Or.inr rfl, Or.inr rfl, Or.inr rfl, Or.inr rfl, Or.inr rfl, Or.inl rfl, True.intro⟩) (ih (k + 1) J hT (by omega) (loc ||| ((nI 1) <<< ((nI k) &&& 31))) HQ)
          · refine r_aload k124_90 rfl ?_
            refine j_ref (b := 2) k124_91 hB rfl ?_
            refine r_iload k124_94 rfl ?_
            refine r_iload k124_96 rfl ?_
            refine j_call (ml := 3) k124_98 rfl (show 0 < d.1 by omega) (show 19 + 3 ≤ d.2 by omega) ⟨Nat.le_of_ble_eq_true rfl, Nat.le_of_ble_eq_true rfl, am_obB hB rfl, Nat.le_of_ble_eq_true rfl⟩ rfl (rest := []) rfl (s_C_init hB hT (jx (C_holder J (jn J 11 i) k)) k (by omega) (by omega)) (fun r h1 hq => ?_)
            obtain ⟨rfl, rfl⟩ := hq
            show am_wp _ _ _ [some (.ref 10), some (.int (nI (i))), some (.int (old)), some (.int (loc ||| ((nI 1) <<< ((nI k) &&& 31)))), some (.int (nI (k))), some (.int (nI (jx (C_holder J (jn J 11 i) k))))] [.int (am_b (C_init J (jx (C_holder J (jn J 11 i) k)) k))] _ _
            refine r_ifeqB k124_101 (fun z101 => ?_) (fun z101 => ?_)
            · refine r_iinc (v := (nI (k + 1))) (L' := [some (.ref 10), some (.int (nI (i))), some (.int (old)), some (.int (loc ||| ((nI 1) <<< ((nI k) &&& 31)))), some (.int (nI (k + 1))), some (.int (nI (jx (C_holder J (jn J 11 i) k))))]) k124_122 rfl (Nat.le_of_ble_eq_true rfl) (nI_1 _) rfl ?_
              refine r_goto k124_125 ?_
              have e9 : I_tl i old (m + 1) k J loc = I_tl i old m (k + 1) J (loc ||| ((nI 1) <<< ((nI k) &&& 31))) := by rw [I_tl]; rw [am_ite_f z39, am_ite_f z53, am_ite_f z87, am_ite_f z101]
              rw [e9] at HQ
              exact wp_L (L := [some (.ref 10), some (.int (nI (i))), some (.int (old)), some (.int (loc ||| ((nI 1) <<< ((nI k) &&& 31)))), some (.int (nI (k + 1))), none]) (⟨Or.inr rfl, Or.inr rfl, Or.inr rfl, Or.inr rfl, Or.inr rfl, Or.inl rfl, True.intro⟩) (ih (k + 1) J hT (by omega) (loc ||| ((nI 1) <<< ((nI k) &&& 31))) HQ)
            · refine r_aload k124_104 rfl ?_
              refine r_iload k124_105 rfl ?_
              refine r_iload k124_106 rfl ?_
              refine r_aload k124_108 rfl ?_
              refine j_ref (b := 2) k124_109 hB rfl ?_
              refine r_iload k124_112 rfl ?_
              refine r_iload k124_114 rfl ?_
              refine j_call (ml := 3) k124_116 rfl (show 0 < d.1 by omega) (show 19 + 3 ≤ d.2 by omega) ⟨Nat.le_of_ble_eq_true rfl, Nat.le_of_ble_eq_true rfl, am_obB hB rfl, Nat.le_of_ble_eq_true rfl⟩ rfl (rest := [.int (nI (k)), .int (nI (i)), .ref 10]) rfl (s_C_int hB hT (jx (C_holder J (jn J 11 i) k)) k (by omega) (by omega)) (fun r h1 hq => ?_)
              obtain ⟨rfl, rfl⟩ := hq
              show am_wp _ _ _ [some (.ref 10), some (.int (nI (i))), some (.int (old)), some (.int (loc ||| ((nI 1) <<< ((nI k) &&& 31)))), some (.int (nI (k))), some (.int (nI (jx (C_holder J (jn J 11 i) k))))] [.int (C_int J (jx (C_holder J (jn J 11 i) k)) k), .int (nI (k)), .int (nI (i)), .ref 10] _ _
              refine j_call (ml := 4) k124_119 rfl (show 0 < d.1 by omega) (show 19 + 4 ≤ d.2 by omega) ⟨Nat.le_of_ble_eq_true rfl, Nat.le_of_ble_eq_true rfl, am_obB hB rfl, Nat.le_of_ble_eq_true rfl⟩ rfl (rest := []) rfl (s_I_setVal hB hT i k (C_int J (jx (C_holder J (jn J 11 i) k)) k) (by omega) (by omega)) (fun r h1 hq => ?_)
              obtain ⟨rfl, rfl, hT119⟩ := hq
              show am_wp _ _ _ [some (.ref 10), some (.int (nI (i))), some (.int (old)), some (.int (loc ||| ((nI 1) <<< ((nI k) &&& 31)))), some (.int (nI (k))), some (.int (nI (jx (C_holder J (jn J 11 i) k))))] [] _ _
              refine r_iinc (v := (nI (k + 1))) (L' := [some (.ref 10), some (.int (nI (i))), some (.int (old)), some (.int (loc ||| ((nI 1) <<< ((nI k) &&& 31)))), some (.int (nI (k + 1))), some (.int (nI (jx (C_holder J (jn J 11 i) k))))]) k124_122 rfl (Nat.le_of_ble_eq_true rfl) (nI_1 _) rfl ?_
              refine r_goto k124_125 ?_
              have e9 : I_tl i old (m + 1) k J loc = I_tl i old m (k + 1) (I_setVal J i k (C_int J (jx (C_holder J (jn J 11 i) k)) k)) (loc ||| ((nI 1) <<< ((nI k) &&& 31))) := by rw [I_tl]; rw [am_ite_f z39, am_ite_f z53, am_ite_f z87, am_ite_t z101]
              rw [e9] at HQ
              exact wp_L (L := [some (.ref 10), some (.int (nI (i))), some (.int (old)), some (.int (loc ||| ((nI 1) <<< ((nI k) &&& 31)))), some (.int (nI (k + 1))), none]) (⟨Or.inr rfl, Or.inr rfl, Or.inr rfl, Or.inr rfl, Or.inr rfl, Or.inl rfl, True.intro⟩) (ih (k + 1) (I_setVal J i k (C_int J (jx (C_holder J (jn J 11 i) k)) k)) hT119 (by omega) (loc ||| ((nI 1) <<< ((nI k) &&& 31))) HQ)
        · refine r_aload k124_56 rfl ?_
          refine j_ref (b := 13) k124_57 hB rfl ?_
          refine r_iload k124_60 rfl ?_
          refine r_dup2 rfl rfl k124_61 ?_
          refine j_ald (n := 12) (j := i) (v := (J 13 i)) k124_62 hB rfl rfl (by omega) rfl ?_
          refine r_pushn (v := nI 1) k124_63 rfl ?_
          refine r_iload k124_64 rfl ?_
          refine r_ishl k124_66 ?_
          refine r_pushn (v := (-1)) k124_67 rfl ?_
          refine r_ixor k124_68 ?_
          refine r_iand k124_69 ?_
          refine j_ast (n := 12) (j := i) k124_70 hB rfl rfl (by omega) ?_
          have hT70 : am_ty2 (am_u2 J 13 i ((J 13 i) &&& (((nI 1) <<< ((nI k) &&& 31)) ^^^ ((-1))))) := ty_w hT (tw_a (by decide) (by decide) (by decide))
          refine r_goto k124_71 ?_
          refine r_iinc (v := (nI (k + 1))) (L' := [some (.ref 10), some (.int (nI (i))), some (.int (old)), some (.int (loc)), some (.int (nI (k + 1))), some (.int (nI (jx (C_holder J (jn J 11 i) k))))]) k124_122 rfl (Nat.le_of_ble_eq_true rfl) (nI_1 _) rfl ?_
          refine r_goto k124_125 ?_
          have e9 : I_tl i old (m + 1) k J loc = I_tl i old m (k + 1) (am_u2 J 13 i ((J 13 i) &&& (((nI 1) <<< ((nI k) &&& 31)) ^^^ ((-1))))) loc := by rw [I_tl]; rw [am_ite_f z39, am_ite_t z53]
          rw [e9] at HQ
          exact wp_L (L := [some (.ref 10), some (.int (nI (i))), some (.int (old)), some (.int (loc)), some (.int (nI (k + 1))), none]) (⟨Or.inr rfl, Or.inr rfl, Or.inr rfl, Or.inr rfl, Or.inr rfl, Or.inl rfl, True.intro⟩) (ih (k + 1) (am_u2 J 13 i ((J 13 i) &&& (((nI 1) <<< ((nI k) &&& 31)) ^^^ ((-1))))) hT70 (by omega) loc HQ)
theorem fl_I_tl {i : Nat} {old : Int32} (q : Nat) (hq : ¬ q = 13 ∧ ¬ q = 14) : ∀ (m k : Nat) (J : Nat → Nat → Int32) (loc : Int32), (I_tl i old m k J loc).1 q = J q := by
  intro m
  induction m with
  | zero =>
    intro k J loc
    rw [I_tl]
    first | done | exact rfl
  | succ m ih =>
    intro k J loc
    rw [I_tl]
    refine fr_i1 (fun _ => ?_) (fun _ => ?_)
    · exact (ih (k + 1) (am_u2 J 13 i ((J 13 i) &&& (((nI 1) <<< ((nI k) &&& 31)) ^^^ ((-1))))) loc).trans (fr_u (by omega))
    · refine fr_i1 (fun _ => ?_) (fun _ => ?_)
      · exact (ih (k + 1) (am_u2 J 13 i ((J 13 i) &&& (((nI 1) <<< ((nI k) &&& 31)) ^^^ ((-1))))) loc).trans (fr_u (by omega))
      · refine fr_i1 (fun _ => ?_) (fun _ => ?_)
        · exact ih (k + 1) J (loc ||| ((nI 1) <<< ((nI k) &&& 31)))
        · refine fr_i1 (fun _ => ?_) (fun _ => ?_)
          · exact (ih (k + 1) (I_setVal J i k (C_int J (jx (C_holder J (jn J 11 i) k)) k)) (loc ||| ((nI 1) <<< ((nI k) &&& 31)))).trans (fr_I_setVal q (by omega))
          · exact ih (k + 1) J (loc ||| ((nI 1) <<< ((nI k) &&& 31)))
noncomputable def I_touch (J : Nat → Nat → Int32) (i : Nat) : Int32 × (Nat → Nat → Int32) := (am_ite (((I_tl i (J 12 i) 6 0 J (nI 0)).2) = (J 12 i)) (((nI 0), am_u2 ((I_tl i (J 12 i) 6 0 J (nI 0)).1) 12 i ((I_tl i (J 12 i) 6 0 J (nI 0)).2))) (((nI 1), am_u2 ((I_tl i (J 12 i) 6 0 J (nI 0)).1) 12 i ((I_tl i (J 12 i) 6 0 J (nI 0)).2))))
set_option maxRecDepth 20000 in
theorem s_I_touch {d : am_D} {h : am_H} {J : Nat → Nat → Int32} (hB : am_B h) (hT : am_ty2 J) (i : Nat) (hi : i < 12) (hd : 1 ≤ d.1) (hw : 24 ≤ d.2) : am_wp d 124 0 [some (.ref 10), some (.int (nI (i))), none, none, none, none] [] (am_si h J) (fun r h' => r = some (.int (I_touch J i).1) ∧ h' = am_si h (I_touch J i).2 ∧ am_ty2 (I_touch J i).2) := by
  refine r_aload k124_0 rfl ?_
  refine j_ref (b := 12) k124_1 hB rfl ?_
  refine r_iload k124_4 rfl ?_
  refine j_ald (n := 12) (j := i) (v := (J 12 i)) k124_5 hB rfl rfl (by omega) rfl ?_
  refine r_istore (L' := [some (.ref 10), some (.int (nI (i))), some (.int (J 12 i)), none, none, none]) k124_6 (Nat.le_of_ble_eq_true rfl) rfl ?_
  refine r_pushn (v := nI 0) k124_7 rfl ?_
  refine r_istore (L' := [some (.ref 10), some (.int (nI (i))), some (.int (J 12 i)), some (.int (nI 0)), none, none]) k124_8 (Nat.le_of_ble_eq_true rfl) rfl ?_
  refine r_pushn (v := nI 0) k124_9 rfl ?_
  refine r_istore (L' := [some (.ref 10), some (.int (nI (i))), some (.int (J 12 i)), some (.int (nI 0)), some (.int (nI 0)), none]) k124_10 (Nat.le_of_ble_eq_true rfl) rfl ?_
  refine (l_I_tl hB i (J 12 i) (by omega) hd hw 6 0 J hT (by omega) (nI 0) (fun hT9I_tl => ?_))
  refine r_aload k124_128 rfl ?_
  refine j_ref (b := 12) k124_129 hB rfl ?_
  refine r_iload k124_132 rfl ?_
  refine r_iload k124_133 rfl ?_
  refine j_ast (n := 12) (j := i) k124_134 hB rfl rfl (by omega) ?_
  have hT134 : am_ty2 (am_u2 ((I_tl i (J 12 i) 6 0 J (nI 0)).1) 12 i ((I_tl i (J 12 i) 6 0 J (nI 0)).2)) := ty_w hT9I_tl (tw_a (by decide) (by decide) (by decide))
  refine r_iload k124_135 rfl ?_
  refine r_iload k124_136 rfl ?_
  refine r_icmpeq k124_137 (fun z137 => ?_) (fun z137 => ?_)
  · refine r_pushn (v := nI 0) k124_144 rfl ?_
    have e9 : I_touch J i = (((nI 0), am_u2 ((I_tl i (J 12 i) 6 0 J (nI 0)).1) 12 i ((I_tl i (J 12 i) 6 0 J (nI 0)).2))) := by unfold I_touch; rw [am_ite_t z137]
    exact r_iret k124_145 rfl ⟨by rw [e9], by rw [e9], by rw [e9]; exact hT134⟩
  · refine r_pushn (v := nI 1) k124_140 rfl ?_
    refine r_goto k124_141 ?_
    have e9 : I_touch J i = (((nI 1), am_u2 ((I_tl i (J 12 i) 6 0 J (nI 0)).1) 12 i ((I_tl i (J 12 i) 6 0 J (nI 0)).2))) := by unfold I_touch; rw [am_ite_f z137]
    exact r_iret k124_145 rfl ⟨by rw [e9], by rw [e9], by rw [e9]; exact hT134⟩
theorem fr_I_touch {J : Nat → Nat → Int32} {i : Nat} (q : Nat) (hq : ¬ q = 12 ∧ ¬ q = 13 ∧ ¬ q = 14) : (I_touch J i).2 q = J q := by
  unfold I_touch
  refine fr_i2 (fun _ => ?_) (fun _ => ?_)
  · exact (fr_u (by omega)).trans (fl_I_tl q (by omega) _ _ _ _)
  · exact (fr_u (by omega)).trans (fl_I_tl q (by omega) _ _ _ _)
noncomputable def I_chg (J : Nat → Nat → Int32) (i : Nat) (c : Nat) : (Nat → Nat → Int32) := (am_u2 ((I_touch (am_u2 (am_u2 ((I_touch J i).2) 10 6 ((J 10 6) + ((I_touch J i).1))) 11 i (nI c)) i).2) 10 6 (((J 10 6) + ((I_touch J i).1)) + ((I_touch (am_u2 (am_u2 ((I_touch J i).2) 10 6 ((J 10 6) + ((I_touch J i).1))) 11 i (nI c)) i).1)))
set_option maxRecDepth 20000 in
theorem s_I_chg {d : am_D} {h : am_H} {J : Nat → Nat → Int32} (hB : am_B h) (hT : am_ty2 J) (i : Nat) (c : Nat) (hi : i < 12) (hc : c < 12) (hd : 2 ≤ d.1) (hw : 49 ≤ d.2) : am_wp d 123 0 [some (.ref 10), some (.int (nI (i))), some (.int (nI (c)))] [] (am_si h J) (fun r h' => r = none ∧ h' = am_si h (I_chg J i c) ∧ am_ty2 (I_chg J i c)) := by
  refine r_aload k123_0 rfl ?_
  refine r_dup rfl k123_1 ?_
  refine j_get (j := 6) (v := (J 10 6)) k123_2 hB rfl rfl ?_
  refine r_aload k123_5 rfl ?_
  refine r_iload k123_6 rfl ?_
  refine j_call (ml := 6) k123_7 rfl (show 0 < d.1 by omega) (show 19 + 6 ≤ d.2 by omega) ⟨Nat.le_of_ble_eq_true rfl, Nat.le_of_ble_eq_true rfl, am_obB hB rfl, Nat.le_of_ble_eq_true rfl⟩ rfl (rest := [.int (J 10 6), .ref 10]) rfl (s_I_touch hB hT i (by omega) (show 1 ≤ d.1 - 1 by omega) (show 24 ≤ d.2 - 25 by omega)) (fun r h1 hq => ?_)
  obtain ⟨rfl, rfl, hT7⟩ := hq
  show am_wp _ _ _ [some (.ref 10), some (.int (nI (i))), some (.int (nI (c)))] [.int ((I_touch J i).1), .int (J 10 6), .ref 10] _ _
  refine r_iadd k123_10 ?_
  refine j_put (j := 6) k123_11 hB rfl rfl ?_
  have hT11 : am_ty2 (am_u2 ((I_touch J i).2) 10 6 ((J 10 6) + ((I_touch J i).1))) := ty_w hT7 (tw_u (by decide) (by decide) (by decide))
  refine r_aload k123_14 rfl ?_
  refine j_ref (b := 11) k123_15 hB rfl ?_
  refine r_iload k123_18 rfl ?_
  refine r_iload k123_19 rfl ?_
  refine j_ast (n := 12) (j := i) k123_20 hB rfl rfl (by omega) ?_
  have hT20 : am_ty2 (am_u2 (am_u2 ((I_touch J i).2) 10 6 ((J 10 6) + ((I_touch J i).1))) 11 i (nI c)) := ty_w hT11 (tw_n (B := 12) (by decide) (by decide) (by decide) (by omega))
  refine r_aload k123_21 rfl ?_
  refine r_dup rfl k123_22 ?_
  refine j_get (j := 6) (v := ((J 10 6) + ((I_touch J i).1))) k123_23 hB rfl (am_u2_s (J := (I_touch J i).2) (q := 10) (j := 6) (x := ((J 10 6) + ((I_touch J i).1)))) ?_
  refine r_aload k123_26 rfl ?_
  refine r_iload k123_27 rfl ?_
  refine j_call (ml := 6) k123_28 rfl (show 0 < d.1 by omega) (show 19 + 6 ≤ d.2 by omega) ⟨Nat.le_of_ble_eq_true rfl, Nat.le_of_ble_eq_true rfl, am_obB hB rfl, Nat.le_of_ble_eq_true rfl⟩ rfl (rest := [.int ((J 10 6) + ((I_touch J i).1)), .ref 10]) rfl (s_I_touch hB hT20 i (by omega) (show 1 ≤ d.1 - 1 by omega) (show 24 ≤ d.2 - 25 by omega)) (fun r h1 hq => ?_)
  obtain ⟨rfl, rfl, hT28⟩ := hq
  show am_wp _ _ _ [some (.ref 10), some (.int (nI (i))), some (.int (nI (c)))] [.int ((I_touch (am_u2 (am_u2 ((I_touch J i).2) 10 6 ((J 10 6) + ((I_touch J i).1))) 11 i (nI c)) i).1), .int ((J 10 6) + ((I_touch J i).1)), .ref 10] _ _
  refine r_iadd k123_31 ?_
  refine j_put (j := 6) k123_32 hB rfl rfl ?_
  have hT32 : am_ty2 (am_u2 ((I_touch (am_u2 (am_u2 ((I_touch J i).2) 10 6 ((J 10 6) + ((I_touch J i).1))) 11 i (nI c)) i).2) 10 6 (((J 10 6) + ((I_touch J i).1)) + ((I_touch (am_u2 (am_u2 ((I_touch J i).2) 10 6 ((J 10 6) + ((I_touch J i).1))) 11 i (nI c)) i).1))) := ty_w hT28 (tw_u (by decide) (by decide) (by decide))
  have e9 : I_chg J i c = (am_u2 ((I_touch (am_u2 (am_u2 ((I_touch J i).2) 10 6 ((J 10 6) + ((I_touch J i).1))) 11 i (nI c)) i).2) 10 6 (((J 10 6) + ((I_touch J i).1)) + ((I_touch (am_u2 (am_u2 ((I_touch J i).2) 10 6 ((J 10 6) + ((I_touch J i).1))) 11 i (nI c)) i).1))) := rfl
  exact r_vret k123_35 rfl ⟨rfl, by rw [e9], by rw [e9]; exact hT32⟩
theorem fr_I_chg {J : Nat → Nat → Int32} {i : Nat} {c : Nat} (q : Nat) (hq : ¬ q = 10 ∧ ¬ q = 11 ∧ ¬ q = 12 ∧ ¬ q = 13 ∧ ¬ q = 14) : (I_chg J i c) q = J q := by
  unfold I_chg
  exact (fr_u (by omega)).trans ((fr_I_touch q (by omega)).trans ((fr_u (by omega)).trans ((fr_u (by omega)).trans (fr_I_touch q (by omega)))))
noncomputable def I_make (J : Nat → Nat → Int32) (c : Nat) : Int32 × (Nat → Nat → Int32) := (am_ite ((jn J 10 5) = 12) ((((-3)), J)) (((nI (jn J 10 5)), (I_touch (am_u2 (am_u2 J 10 5 (nI ((jn J 10 5) + 1))) 11 (jn J 10 5) (nI c)) (jn J 10 5)).2)))
set_option maxRecDepth 20000 in
theorem s_I_make {d : am_D} {h : am_H} {J : Nat → Nat → Int32} (hB : am_B h) (hT : am_ty2 J) (c : Nat) (hc : c < 12) (hd : 2 ≤ d.1) (hw : 49 ≤ d.2) : am_wp d 122 0 [some (.ref 10), some (.int (nI (c))), none] [] (am_si h J) (fun r h' => r = some (.int (I_make J c).1) ∧ h' = am_si h (I_make J c).2 ∧ am_ty2 (I_make J c).2) := by
  refine r_aload k122_0 rfl ?_
  have b1 := ty_f hT (q := 10) (j := 5) (B := 13) (by decide) (by decide)
  refine j_get (j := 5) (v := (nI (jn J 10 5))) k122_1 hB rfl b1.1 ?_
  refine r_pushn (v := nI 12) k122_4 rfl ?_
  refine r_icmpneN (by omega) (by omega) k122_6 (fun z6 => ?_) (fun z6 => ?_)
  · refine r_aload k122_12 rfl ?_
    have b13 := ty_f hT (q := 10) (j := 5) (B := 13) (by decide) (by decide)
    refine j_get (j := 5) (v := (nI (jn J 10 5))) k122_13 hB rfl b13.1 ?_
    refine r_istore (L' := [some (.ref 10), some (.int (nI (c))), some (.int (nI (jn J 10 5)))]) k122_16 (Nat.le_of_ble_eq_true rfl) rfl ?_
    refine r_aload k122_17 rfl ?_
    refine r_dup rfl k122_18 ?_
    have b19 := ty_f hT (q := 10) (j := 5) (B := 13) (by decide) (by decide)
    refine j_get (j := 5) (v := (nI (jn J 10 5))) k122_19 hB rfl b19.1 ?_
    refine r_pushn (v := nI 1) k122_22 rfl ?_
    refine r_iaddN k122_23 ?_
    refine j_put (j := 5) k122_24 hB rfl rfl ?_
    have hT24 : am_ty2 (am_u2 J 10 5 (nI ((jn J 10 5) + 1))) := ty_w hT (tw_f (B := 13) (by decide) (by decide) (by decide) (by omega))
    refine r_aload k122_27 rfl ?_
    refine j_ref (b := 11) k122_28 hB rfl ?_
    refine r_iload k122_31 rfl ?_
    refine r_iload k122_32 rfl ?_
    refine j_ast (n := 12) (j := (jn J 10 5)) k122_33 hB rfl rfl (by omega) ?_
    have hT33 : am_ty2 (am_u2 (am_u2 J 10 5 (nI ((jn J 10 5) + 1))) 11 (jn J 10 5) (nI c)) := ty_w hT24 (tw_n (B := 12) (by decide) (by decide) (by decide) (by omega))
    refine r_aload k122_34 rfl ?_
    refine r_iload k122_35 rfl ?_
    refine j_call (ml := 6) k122_36 rfl (show 0 < d.1 by omega) (show 19 + 6 ≤ d.2 by omega) ⟨Nat.le_of_ble_eq_true rfl, Nat.le_of_ble_eq_true rfl, am_obB hB rfl, Nat.le_of_ble_eq_true rfl⟩ rfl (rest := []) rfl (s_I_touch hB hT33 (jn J 10 5) (by omega) (show 1 ≤ d.1 - 1 by omega) (show 24 ≤ d.2 - 25 by omega)) (fun r h1 hq => ?_)
    obtain ⟨rfl, rfl, hT36⟩ := hq
    show am_wp _ _ _ [some (.ref 10), some (.int (nI (c))), some (.int (nI (jn J 10 5)))] [.int ((I_touch (am_u2 (am_u2 J 10 5 (nI ((jn J 10 5) + 1))) 11 (jn J 10 5) (nI c)) (jn J 10 5)).1)] _ _
    refine r_pop rfl k122_39 ?_
    refine r_iload k122_40 rfl ?_
    have e9 : I_make J c = (((nI (jn J 10 5)), (I_touch (am_u2 (am_u2 J 10 5 (nI ((jn J 10 5) + 1))) 11 (jn J 10 5) (nI c)) (jn J 10 5)).2)) := by unfold I_make; rw [am_ite_f z6]
    exact r_iret k122_41 rfl ⟨by rw [e9], by rw [e9], by rw [e9]; exact hT36⟩
  · refine r_pushn (v := (-3)) k122_9 rfl ?_
    have e9 : I_make J c = ((((-3)), J)) := by unfold I_make; rw [am_ite_t z6]
    exact r_iret k122_11 rfl ⟨by rw [e9], by rw [e9], by rw [e9]; exact hT⟩
theorem fr_I_make {J : Nat → Nat → Int32} {c : Nat} (q : Nat) (hq : ¬ q = 10 ∧ ¬ q = 11 ∧ ¬ q = 12 ∧ ¬ q = 13 ∧ ¬ q = 14) : (I_make J c).2 q = J q := by
  unfold I_make
  refine fr_i2 (fun _ => ?_) (fun _ => ?_)
  · exact rfl
  · exact (fr_I_touch q (by omega)).trans ((fr_u (by omega)).trans (fr_u (by omega)))
noncomputable def I_read (J : Nat → Nat → Int32) (i : Nat) (nm : Nat) : Int64 × (Nat → Nat → Int32) := (am_ite ((C_holder (am_u2 ((I_touch J i).2) 10 6 ((J 10 6) + ((I_touch J i).1))) (jn ((I_touch J i).2) 11 i) nm) = ((-1))) ((Int64.ofInt 1099511627770, am_u2 ((I_touch J i).2) 10 6 ((J 10 6) + ((I_touch J i).1)))) (am_ite (C_shared (am_u2 ((I_touch J i).2) 10 6 ((J 10 6) + ((I_touch J i).1))) (jx (C_holder (am_u2 ((I_touch J i).2) 10 6 ((J 10 6) + ((I_touch J i).1))) (jn ((I_touch J i).2) 11 i) nm)) nm) (((C_int (am_u2 ((I_touch J i).2) 10 6 ((J 10 6) + ((I_touch J i).1))) (jx (C_holder (am_u2 ((I_touch J i).2) 10 6 ((J 10 6) + ((I_touch J i).1))) (jn ((I_touch J i).2) 11 i) nm)) nm).toInt64, am_u2 ((I_touch J i).2) 10 6 ((J 10 6) + ((I_touch J i).1)))) (am_ite (w_isin (((I_touch J i).2) 13 i) (nI nm)) (((((I_touch J i).2) 14 ((i * 6) + nm)).toInt64, am_u2 ((I_touch J i).2) 10 6 ((J 10 6) + ((I_touch J i).1)))) ((Int64.ofInt 1099511627769, am_u2 ((I_touch J i).2) 10 6 ((J 10 6) + ((I_touch J i).1)))))))
set_option maxRecDepth 20000 in
theorem s_I_read {d : am_D} {h : am_H} {J : Nat → Nat → Int32} (hB : am_B h) (hT : am_ty2 J) (i : Nat) (nm : Nat) (hi : i < 12) (hn : nm < 6) (hd : 2 ≤ d.1) (hw : 49 ≤ d.2) : am_wp d 126 0 [some (.ref 10), some (.int (nI (i))), some (.int (nI (nm))), none] [] (am_si h J) (fun r h' => r = some (.long (I_read J i nm).1) ∧ h' = am_si h (I_read J i nm).2 ∧ am_ty2 (I_read J i nm).2) := by
  refine r_aload k126_0 rfl ?_
  refine r_dup rfl k126_1 ?_
  refine j_get (j := 6) (v := (J 10 6)) k126_2 hB rfl rfl ?_
  refine r_aload k126_5 rfl ?_
  refine r_iload k126_6 rfl ?_
  refine j_call (ml := 6) k126_7 rfl (show 0 < d.1 by omega) (show 19 + 6 ≤ d.2 by omega) ⟨Nat.le_of_ble_eq_true rfl, Nat.le_of_ble_eq_true rfl, am_obB hB rfl, Nat.le_of_ble_eq_true rfl⟩ rfl (rest := [.int (J 10 6), .ref 10]) rfl (s_I_touch hB hT i (by omega) (show 1 ≤ d.1 - 1 by omega) (show 24 ≤ d.2 - 25 by omega)) (fun r h1 hq => ?_)
  obtain ⟨rfl, rfl, hT7⟩ := hq
  show am_wp _ _ _ [some (.ref 10), some (.int (nI (i))), some (.int (nI (nm))), none] [.int ((I_touch J i).1), .int (J 10 6), .ref 10] _ _
  refine r_iadd k126_10 ?_
  refine j_put (j := 6) k126_11 hB rfl rfl ?_
  have hT11 : am_ty2 (am_u2 ((I_touch J i).2) 10 6 ((J 10 6) + ((I_touch J i).1))) := ty_w hT7 (tw_u (by decide) (by decide) (by decide))
  refine r_aload k126_14 rfl ?_
  refine j_ref (b := 2) k126_15 hB rfl ?_
  refine r_aload k126_18 rfl ?_
  refine j_ref (b := 11) k126_19 hB rfl ?_
  refine r_iload k126_22 rfl ?_
  have b23 := ty_n hT7 (q := 11) (B := 12) (by decide) (by decide) i
  refine j_ald (n := 12) (j := i) (v := (nI (jn ((I_touch J i).2) 11 i))) k126_23 hB rfl rfl (by omega) b23.1 ?_
  refine r_iload k126_24 rfl ?_
  refine j_call (ml := 5) k126_25 rfl (show 0 < d.1 by omega) (show 19 + 5 ≤ d.2 by omega) ⟨Nat.le_of_ble_eq_true rfl, Nat.le_of_ble_eq_true rfl, am_obB hB rfl, Nat.le_of_ble_eq_true rfl⟩ rfl (rest := []) rfl (s_C_holder hB hT11 (jn ((I_touch J i).2) 11 i) nm (by omega) (by omega)) (fun r h1 hq => ?_)
  obtain ⟨rfl, rfl⟩ := hq
  show am_wp _ _ _ [some (.ref 10), some (.int (nI (i))), some (.int (nI (nm))), none] [.int (C_holder (am_u2 ((I_touch J i).2) 10 6 ((J 10 6) + ((I_touch J i).1))) (jn ((I_touch J i).2) 11 i) nm)] _ _
  refine r_istore (L' := [some (.ref 10), some (.int (nI (i))), some (.int (nI (nm))), some (.int (C_holder (am_u2 ((I_touch J i).2) 10 6 ((J 10 6) + ((I_touch J i).1))) (jn ((I_touch J i).2) 11 i) nm))]) k126_28 (Nat.le_of_ble_eq_true rfl) rfl ?_
  refine r_iload k126_29 rfl ?_
  refine r_pushn (v := (-1)) k126_30 rfl ?_
  refine r_icmpne k126_31 (fun z31 => ?_) (fun z31 => ?_)
  · have c31 := C_holder_n hT11 True.intro z31
    rw [show ([some (.ref 10), some (.int (nI (i))), some (.int (nI (nm))), some (.int (C_holder (am_u2 ((I_touch J i).2) 10 6 ((J 10 6) + ((I_touch J i).1))) (jn ((I_touch J i).2) 11 i) nm))] : am_L) = [some (.ref 10), some (.int (nI (i))), some (.int (nI (nm))), some (.int (nI (jx (C_holder (am_u2 ((I_touch J i).2) 10 6 ((J 10 6) + ((I_touch J i).1))) (jn ((I_touch J i).2) 11 i) nm))))] by rw [← c31.1]]
    refine r_aload k126_38 rfl ?_
    refine j_ref (b := 2) k126_39 hB rfl ?_
    refine r_iload k126_42 rfl ?_
    refine r_iload k126_43 rfl ?_
    refine j_call (ml := 3) k126_44 rfl (show 0 < d.1 by omega) (show 19 + 3 ≤ d.2 by omega) ⟨Nat.le_of_ble_eq_true rfl, Nat.le_of_ble_eq_true rfl, am_obB hB rfl, Nat.le_of_ble_eq_true rfl⟩ rfl (rest := []) rfl (s_C_shared hB hT11 (jx (C_holder (am_u2 ((I_touch J i).2) 10 6 ((J 10 6) + ((I_touch J i).1))) (jn ((I_touch J i).2) 11 i) nm)) nm (by omega) (by omega)) (fun r h1 hq => ?_)
    obtain ⟨rfl, rfl⟩ := hq
    show am_wp _ _ _ [some (.ref 10), some (.int (nI (i))), some (.int (nI (nm))), some (.int (nI (jx (C_holder (am_u2 ((I_touch J i).2) 10 6 ((J 10 6) + ((I_touch J i).1))) (jn ((I_touch J i).2) 11 i) nm))))] [.int (am_b (C_shared (am_u2 ((I_touch J i).2) 10 6 ((J 10 6) + ((I_touch J i).1))) (jx (C_holder (am_u2 ((I_touch J i).2) 10 6 ((J 10 6) + ((I_touch J i).1))) (jn ((I_touch J i).2) 11 i) nm)) nm))] _ _
    refine r_ifeqB k126_47 (fun z47 => ?_) (fun z47 => ?_)
    · refine r_aload k126_61 rfl ?_
      refine j_ref (b := 13) k126_62 hB rfl ?_
      refine r_iload k126_65 rfl ?_
      refine j_ald (n := 12) (j := i) (v := (((I_touch J i).2) 13 i)) k126_66 hB rfl rfl (by omega) rfl ?_
      refine r_iload k126_67 rfl ?_
      refine j_call (ml := 2) k126_68 rfl (show 0 < d.1 by omega) (show 19 + 2 ≤ d.2 by omega) ⟨Nat.le_of_ble_eq_true rfl, Nat.le_of_ble_eq_true rfl, True.intro, Nat.le_of_ble_eq_true rfl⟩ rfl (rest := []) rfl (s_w_isin (((I_touch J i).2) 13 i) (nI nm)) (fun r h1 hq => ?_)
      obtain ⟨rfl, rfl⟩ := hq
      show am_wp _ _ _ [some (.ref 10), some (.int (nI (i))), some (.int (nI (nm))), some (.int (nI (jx (C_holder (am_u2 ((I_touch J i).2) 10 6 ((J 10 6) + ((I_touch J i).1))) (jn ((I_touch J i).2) 11 i) nm))))] [.int (am_b (w_isin (((I_touch J i).2) 13 i) (nI nm)))] _ _
      refine r_ifeqB k126_71 (fun z71 => ?_) (fun z71 => ?_)
      · refine r_pushl k126_89 ?_
        have e9 : I_read J i nm = ((Int64.ofInt 1099511627769, am_u2 ((I_touch J i).2) 10 6 ((J 10 6) + ((I_touch J i).1)))) := by unfold I_read; rw [am_ite_f z31, am_ite_f z47, am_ite_f z71]
        exact r_lret k126_92 rfl ⟨by rw [e9], by rw [e9], by rw [e9]; exact hT11⟩
      · refine r_aload k126_74 rfl ?_
        refine j_ref (b := 14) k126_75 hB rfl ?_
        refine r_iload k126_78 rfl ?_
        refine r_pushn (v := nI 6) k126_79 rfl ?_
        refine r_imulN k126_81 ?_
        refine r_iload k126_82 rfl ?_
        refine r_iaddN k126_83 ?_
        refine j_ald (n := 72) (j := ((i * 6) + nm)) (v := (((I_touch J i).2) 14 ((i * 6) + nm))) k126_84 hB rfl rfl (by omega) rfl ?_
        refine r_i2l k126_85 ?_
        refine r_goto k126_86 ?_
        have e9 : I_read J i nm = (((((I_touch J i).2) 14 ((i * 6) + nm)).toInt64, am_u2 ((I_touch J i).2) 10 6 ((J 10 6) + ((I_touch J i).1)))) := by unfold I_read; rw [am_ite_f z31, am_ite_f z47, am_ite_t z71]
        exact r_lret k126_92 rfl ⟨by rw [e9], by rw [e9], by rw [e9]; exact hT11⟩
    · refine r_aload k126_50 rfl ?_
      refine j_ref (b := 2) k126_51 hB rfl ?_
      refine r_iload k126_54 rfl ?_
      refine r_iload k126_55 rfl ?_
      refine j_call (ml := 3) k126_56 rfl (show 0 < d.1 by omega) (show 19 + 3 ≤ d.2 by omega) ⟨Nat.le_of_ble_eq_true rfl, Nat.le_of_ble_eq_true rfl, am_obB hB rfl, Nat.le_of_ble_eq_true rfl⟩ rfl (rest := []) rfl (s_C_int hB hT11 (jx (C_holder (am_u2 ((I_touch J i).2) 10 6 ((J 10 6) + ((I_touch J i).1))) (jn ((I_touch J i).2) 11 i) nm)) nm (by omega) (by omega)) (fun r h1 hq => ?_)
      obtain ⟨rfl, rfl⟩ := hq
      show am_wp _ _ _ [some (.ref 10), some (.int (nI (i))), some (.int (nI (nm))), some (.int (nI (jx (C_holder (am_u2 ((I_touch J i).2) 10 6 ((J 10 6) + ((I_touch J i).1))) (jn ((I_touch J i).2) 11 i) nm))))] [.int (C_int (am_u2 ((I_touch J i).2) 10 6 ((J 10 6) + ((I_touch J i).1))) (jx (C_holder (am_u2 ((I_touch J i).2) 10 6 ((J 10 6) + ((I_touch J i).1))) (jn ((I_touch J i).2) 11 i) nm)) nm)] _ _
      refine r_i2l k126_59 ?_
      have e9 : I_read J i nm = (((C_int (am_u2 ((I_touch J i).2) 10 6 ((J 10 6) + ((I_touch J i).1))) (jx (C_holder (am_u2 ((I_touch J i).2) 10 6 ((J 10 6) + ((I_touch J i).1))) (jn ((I_touch J i).2) 11 i) nm)) nm).toInt64, am_u2 ((I_touch J i).2) 10 6 ((J 10 6) + ((I_touch J i).1)))) := by unfold I_read; rw [am_ite_f z31, am_ite_t z47]
      exact r_lret k126_60 rfl ⟨by rw [e9], by rw [e9], by rw [e9]; exact hT11⟩
  · refine r_pushl k126_34 ?_
    have e9 : I_read J i nm = ((Int64.ofInt 1099511627770, am_u2 ((I_touch J i).2) 10 6 ((J 10 6) + ((I_touch J i).1)))) := by unfold I_read; rw [am_ite_t z31]
    exact r_lret k126_37 rfl ⟨by rw [e9], by rw [e9], by rw [e9]; exact hT11⟩
theorem fr_I_read {J : Nat → Nat → Int32} {i : Nat} {nm : Nat} (q : Nat) (hq : ¬ q = 10 ∧ ¬ q = 12 ∧ ¬ q = 13 ∧ ¬ q = 14) : (I_read J i nm).2 q = J q := by
  unfold I_read
  refine fr_i2 (fun _ => ?_) (fun _ => ?_)
  · exact (fr_u (by omega)).trans (fr_I_touch q (by omega))
  · refine fr_i2 (fun _ => ?_) (fun _ => ?_)
    · exact (fr_u (by omega)).trans (fr_I_touch q (by omega))
    · refine fr_i2 (fun _ => ?_) (fun _ => ?_)
      · exact (fr_u (by omega)).trans (fr_I_touch q (by omega))
      · exact (fr_u (by omega)).trans (fr_I_touch q (by omega))
noncomputable def I_write (J : Nat → Nat → Int32) (i : Nat) (nm : Nat) (v : Int32) : Int64 × (Nat → Nat → Int32) := (am_ite ((C_holder (am_u2 ((I_touch J i).2) 10 6 ((J 10 6) + ((I_touch J i).1))) (jn ((I_touch J i).2) 11 i) nm) = ((-1))) ((Int64.ofInt 1099511627770, am_u2 ((I_touch J i).2) 10 6 ((J 10 6) + ((I_touch J i).1)))) (am_ite (C_shared (am_u2 ((I_touch J i).2) 10 6 ((J 10 6) + ((I_touch J i).1))) (jx (C_holder (am_u2 ((I_touch J i).2) 10 6 ((J 10 6) + ((I_touch J i).1))) (jn ((I_touch J i).2) 11 i) nm)) nm) ((Int64.ofInt 1, C_setInt (am_u2 ((I_touch J i).2) 10 6 ((J 10 6) + ((I_touch J i).1))) (jx (C_holder (am_u2 ((I_touch J i).2) 10 6 ((J 10 6) + ((I_touch J i).1))) (jn ((I_touch J i).2) 11 i) nm)) nm v)) ((Int64.ofInt 1, I_setVal (am_u2 ((I_touch J i).2) 10 6 ((J 10 6) + ((I_touch J i).1))) i nm v))))
set_option maxRecDepth 20000 in
theorem s_I_write {d : am_D} {h : am_H} {J : Nat → Nat → Int32} (hB : am_B h) (hT : am_ty2 J) (i : Nat) (nm : Nat) (v : Int32) (hi : i < 12) (hn : nm < 6) (hd : 2 ≤ d.1) (hw : 49 ≤ d.2) : am_wp d 127 0 [some (.ref 10), some (.int (nI (i))), some (.int (nI (nm))), some (.int (v)), none] [] (am_si h J) (fun r h' => r = some (.long (I_write J i nm v).1) ∧ h' = am_si h (I_write J i nm v).2 ∧ am_ty2 (I_write J i nm v).2) := by
  refine r_aload k127_0 rfl ?_
  refine r_dup rfl k127_1 ?_
  refine j_get (j := 6) (v := (J 10 6)) k127_2 hB rfl rfl ?_
  refine r_aload k127_5 rfl ?_
  refine r_iload k127_6 rfl ?_
  refine j_call (ml := 6) k127_7 rfl (show 0 < d.1 by omega) (show 19 + 6 ≤ d.2 by omega) ⟨Nat.le_of_ble_eq_true rfl, Nat.le_of_ble_eq_true rfl, am_obB hB rfl, Nat.le_of_ble_eq_true rfl⟩ rfl (rest := [.int (J 10 6), .ref 10]) rfl (s_I_touch hB hT i (by omega) (show 1 ≤ d.1 - 1 by omega) (show 24 ≤ d.2 - 25 by omega)) (fun r h1 hq => ?_)
  obtain ⟨rfl, rfl, hT7⟩ := hq
  show am_wp _ _ _ [some (.ref 10), some (.int (nI (i))), some (.int (nI (nm))), some (.int (v)), none] [.int ((I_touch J i).1), .int (J 10 6), .ref 10] _ _
  refine r_iadd k127_10 ?_
  refine j_put (j := 6) k127_11 hB rfl rfl ?_
  have hT11 : am_ty2 (am_u2 ((I_touch J i).2) 10 6 ((J 10 6) + ((I_touch J i).1))) := ty_w hT7 (tw_u (by decide) (by decide) (by decide))
  refine r_aload k127_14 rfl ?_
  refine j_ref (b := 2) k127_15 hB rfl ?_
  refine r_aload k127_18 rfl ?_
  refine j_ref (b := 11) k127_19 hB rfl ?_
  refine r_iload k127_22 rfl ?_
  have b23 := ty_n hT7 (q := 11) (B := 12) (by decide) (by decide) i
  refine j_ald (n := 12) (j := i) (v := (nI (jn ((I_touch J i).2) 11 i))) k127_23 hB rfl rfl (by omega) b23.1 ?_
  refine r_iload k127_24 rfl ?_
  refine j_call (ml := 5) k127_25 rfl (show 0 < d.1 by omega) (show 19 + 5 ≤ d.2 by omega) ⟨Nat.le_of_ble_eq_true rfl, Nat.le_of_ble_eq_true rfl, am_obB hB rfl, Nat.le_of_ble_eq_true rfl⟩ rfl (rest := []) rfl (s_C_holder hB hT11 (jn ((I_touch J i).2) 11 i) nm (by omega) (by omega)) (fun r h1 hq => ?_)
  obtain ⟨rfl, rfl⟩ := hq
  show am_wp _ _ _ [some (.ref 10), some (.int (nI (i))), some (.int (nI (nm))), some (.int (v)), none] [.int (C_holder (am_u2 ((I_touch J i).2) 10 6 ((J 10 6) + ((I_touch J i).1))) (jn ((I_touch J i).2) 11 i) nm)] _ _
  refine r_istore (L' := [some (.ref 10), some (.int (nI (i))), some (.int (nI (nm))), some (.int (v)), some (.int (C_holder (am_u2 ((I_touch J i).2) 10 6 ((J 10 6) + ((I_touch J i).1))) (jn ((I_touch J i).2) 11 i) nm))]) k127_28 (Nat.le_of_ble_eq_true rfl) rfl ?_
  refine r_iload k127_30 rfl ?_
  refine r_pushn (v := (-1)) k127_32 rfl ?_
  refine r_icmpne k127_33 (fun z33 => ?_) (fun z33 => ?_)
  · have c33 := C_holder_n hT11 True.intro z33
    rw [show ([some (.ref 10), some (.int (nI (i))), some (.int (nI (nm))), some (.int (v)), some (.int (C_holder (am_u2 ((I_touch J i).2) 10 6 ((J 10 6) + ((I_touch J i).1))) (jn ((I_touch J i).2) 11 i) nm))] : am_L) = [some (.ref 10), some (.int (nI (i))), some (.int (nI (nm))), some (.int (v)), some (.int (nI (jx (C_holder (am_u2 ((I_touch J i).2) 10 6 ((J 10 6) + ((I_touch J i).1))) (jn ((I_touch J i).2) 11 i) nm))))] by rw [← c33.1]]
    refine r_aload k127_40 rfl ?_
    refine j_ref (b := 2) k127_41 hB rfl ?_
    refine r_iload k127_44 rfl ?_
    refine r_iload k127_46 rfl ?_
    refine j_call (ml := 3) k127_47 rfl (show 0 < d.1 by omega) (show 19 + 3 ≤ d.2 by omega) ⟨Nat.le_of_ble_eq_true rfl, Nat.le_of_ble_eq_true rfl, am_obB hB rfl, Nat.le_of_ble_eq_true rfl⟩ rfl (rest := []) rfl (s_C_shared hB hT11 (jx (C_holder (am_u2 ((I_touch J i).2) 10 6 ((J 10 6) + ((I_touch J i).1))) (jn ((I_touch J i).2) 11 i) nm)) nm (by omega) (by omega)) (fun r h1 hq => ?_)
    obtain ⟨rfl, rfl⟩ := hq
    show am_wp _ _ _ [some (.ref 10), some (.int (nI (i))), some (.int (nI (nm))), some (.int (v)), some (.int (nI (jx (C_holder (am_u2 ((I_touch J i).2) 10 6 ((J 10 6) + ((I_touch J i).1))) (jn ((I_touch J i).2) 11 i) nm))))] [.int (am_b (C_shared (am_u2 ((I_touch J i).2) 10 6 ((J 10 6) + ((I_touch J i).1))) (jx (C_holder (am_u2 ((I_touch J i).2) 10 6 ((J 10 6) + ((I_touch J i).1))) (jn ((I_touch J i).2) 11 i) nm)) nm))] _ _
    refine r_ifeqB k127_50 (fun z50 => ?_) (fun z50 => ?_)
    · refine r_aload k127_67 rfl ?_
      refine r_iload k127_68 rfl ?_
      refine r_iload k127_69 rfl ?_
      refine r_iload k127_70 rfl ?_
      refine j_call (ml := 4) k127_71 rfl (show 0 < d.1 by omega) (show 19 + 4 ≤ d.2 by omega) ⟨Nat.le_of_ble_eq_true rfl, Nat.le_of_ble_eq_true rfl, am_obB hB rfl, Nat.le_of_ble_eq_true rfl⟩ rfl (rest := []) rfl (s_I_setVal hB hT11 i nm v (by omega) (by omega)) (fun r h1 hq => ?_)
      obtain ⟨rfl, rfl, hT71⟩ := hq
      show am_wp _ _ _ [some (.ref 10), some (.int (nI (i))), some (.int (nI (nm))), some (.int (v)), some (.int (nI (jx (C_holder (am_u2 ((I_touch J i).2) 10 6 ((J 10 6) + ((I_touch J i).1))) (jn ((I_touch J i).2) 11 i) nm))))] [] _ _
      refine r_pushl k127_74 ?_
      have e9 : I_write J i nm v = ((Int64.ofInt 1, I_setVal (am_u2 ((I_touch J i).2) 10 6 ((J 10 6) + ((I_touch J i).1))) i nm v)) := by unfold I_write; rw [am_ite_f z33, am_ite_f z50]
      exact r_lret k127_75 rfl ⟨by rw [e9], by rw [e9], by rw [e9]; exact hT71⟩
    · refine r_aload k127_53 rfl ?_
      refine j_ref (b := 2) k127_54 hB rfl ?_
      refine r_iload k127_57 rfl ?_
      refine r_iload k127_59 rfl ?_
      refine r_iload k127_60 rfl ?_
      refine j_call (ml := 4) k127_61 rfl (show 0 < d.1 by omega) (show 19 + 4 ≤ d.2 by omega) ⟨Nat.le_of_ble_eq_true rfl, Nat.le_of_ble_eq_true rfl, am_obB hB rfl, Nat.le_of_ble_eq_true rfl⟩ rfl (rest := []) rfl (s_C_setInt hB hT11 (jx (C_holder (am_u2 ((I_touch J i).2) 10 6 ((J 10 6) + ((I_touch J i).1))) (jn ((I_touch J i).2) 11 i) nm)) nm v (by omega) (by omega)) (fun r h1 hq => ?_)
      obtain ⟨rfl, rfl, hT61⟩ := hq
      show am_wp _ _ _ [some (.ref 10), some (.int (nI (i))), some (.int (nI (nm))), some (.int (v)), some (.int (nI (jx (C_holder (am_u2 ((I_touch J i).2) 10 6 ((J 10 6) + ((I_touch J i).1))) (jn ((I_touch J i).2) 11 i) nm))))] [] _ _
      refine r_goto k127_64 ?_
      refine r_pushl k127_74 ?_
      have e9 : I_write J i nm v = ((Int64.ofInt 1, C_setInt (am_u2 ((I_touch J i).2) 10 6 ((J 10 6) + ((I_touch J i).1))) (jx (C_holder (am_u2 ((I_touch J i).2) 10 6 ((J 10 6) + ((I_touch J i).1))) (jn ((I_touch J i).2) 11 i) nm)) nm v)) := by unfold I_write; rw [am_ite_f z33, am_ite_t z50]
      exact r_lret k127_75 rfl ⟨by rw [e9], by rw [e9], by rw [e9]; exact hT61⟩
  · refine r_pushl k127_36 ?_
    have e9 : I_write J i nm v = ((Int64.ofInt 1099511627770, am_u2 ((I_touch J i).2) 10 6 ((J 10 6) + ((I_touch J i).1)))) := by unfold I_write; rw [am_ite_t z33]
    exact r_lret k127_39 rfl ⟨by rw [e9], by rw [e9], by rw [e9]; exact hT11⟩
theorem fr_I_write {J : Nat → Nat → Int32} {i : Nat} {nm : Nat} {v : Int32} (q : Nat) (hq : ¬ q = 7 ∧ ¬ q = 10 ∧ ¬ q = 12 ∧ ¬ q = 13 ∧ ¬ q = 14) : (I_write J i nm v).2 q = J q := by
  unfold I_write
  refine fr_i2 (fun _ => ?_) (fun _ => ?_)
  · exact (fr_u (by omega)).trans (fr_I_touch q (by omega))
  · refine fr_i2 (fun _ => ?_) (fun _ => ?_)
    · exact (fr_C_setInt q (by omega)).trans ((fr_u (by omega)).trans (fr_I_touch q (by omega)))
    · exact (fr_I_setVal q (by omega)).trans ((fr_u (by omega)).trans (fr_I_touch q (by omega)))
noncomputable def I_drop (J : Nat → Nat → Int32) (i : Nat) (nm : Nat) : Int64 × (Nat → Nat → Int32) := (am_ite (w_isin (((I_touch J i).2) 12 i) (nI nm)) (am_ite (w_isin (((I_touch J i).2) 13 i) (nI nm)) ((Int64.ofInt 1, am_u2 (am_u2 ((I_touch J i).2) 10 6 ((J 10 6) + ((I_touch J i).1))) 13 i ((((I_touch J i).2) 13 i) &&& (((nI 1) <<< ((nI nm) &&& 31)) ^^^ ((-1)))))) ((Int64.ofInt 0, am_u2 ((I_touch J i).2) 10 6 ((J 10 6) + ((I_touch J i).1))))) ((Int64.ofInt 1099511627770, am_u2 ((I_touch J i).2) 10 6 ((J 10 6) + ((I_touch J i).1)))))
set_option maxRecDepth 20000 in
theorem s_I_drop {d : am_D} {h : am_H} {J : Nat → Nat → Int32} (hB : am_B h) (hT : am_ty2 J) (i : Nat) (nm : Nat) (hi : i < 12) (hn : nm < 6) (hd : 2 ≤ d.1) (hw : 49 ≤ d.2) : am_wp d 128 0 [some (.ref 10), some (.int (nI (i))), some (.int (nI (nm)))] [] (am_si h J) (fun r h' => r = some (.long (I_drop J i nm).1) ∧ h' = am_si h (I_drop J i nm).2 ∧ am_ty2 (I_drop J i nm).2) := by
  refine r_aload k128_0 rfl ?_
  refine r_dup rfl k128_1 ?_
  refine j_get (j := 6) (v := (J 10 6)) k128_2 hB rfl rfl ?_
  refine r_aload k128_5 rfl ?_
  refine r_iload k128_6 rfl ?_
  refine j_call (ml := 6) k128_7 rfl (show 0 < d.1 by omega) (show 19 + 6 ≤ d.2 by omega) ⟨Nat.le_of_ble_eq_true rfl, Nat.le_of_ble_eq_true rfl, am_obB hB rfl, Nat.le_of_ble_eq_true rfl⟩ rfl (rest := [.int (J 10 6), .ref 10]) rfl (s_I_touch hB hT i (by omega) (show 1 ≤ d.1 - 1 by omega) (show 24 ≤ d.2 - 25 by omega)) (fun r h1 hq => ?_)
  obtain ⟨rfl, rfl, hT7⟩ := hq
  show am_wp _ _ _ [some (.ref 10), some (.int (nI (i))), some (.int (nI (nm)))] [.int ((I_touch J i).1), .int (J 10 6), .ref 10] _ _
  refine r_iadd k128_10 ?_
  refine j_put (j := 6) k128_11 hB rfl rfl ?_
  have hT11 : am_ty2 (am_u2 ((I_touch J i).2) 10 6 ((J 10 6) + ((I_touch J i).1))) := ty_w hT7 (tw_u (by decide) (by decide) (by decide))
  refine r_aload k128_14 rfl ?_
  refine j_ref (b := 12) k128_15 hB rfl ?_
  refine r_iload k128_18 rfl ?_
  refine j_ald (n := 12) (j := i) (v := (((I_touch J i).2) 12 i)) k128_19 hB rfl rfl (by omega) rfl ?_
  refine r_iload k128_20 rfl ?_
  refine j_call (ml := 2) k128_21 rfl (show 0 < d.1 by omega) (show 19 + 2 ≤ d.2 by omega) ⟨Nat.le_of_ble_eq_true rfl, Nat.le_of_ble_eq_true rfl, True.intro, Nat.le_of_ble_eq_true rfl⟩ rfl (rest := []) rfl (s_w_isin (((I_touch J i).2) 12 i) (nI nm)) (fun r h1 hq => ?_)
  obtain ⟨rfl, rfl⟩ := hq
  show am_wp _ _ _ [some (.ref 10), some (.int (nI (i))), some (.int (nI (nm)))] [.int (am_b (w_isin (((I_touch J i).2) 12 i) (nI nm)))] _ _
  refine r_ifneB k128_24 (fun z24 => ?_) (fun z24 => ?_)
  · refine r_aload k128_31 rfl ?_
    refine j_ref (b := 13) k128_32 hB rfl ?_
    refine r_iload k128_35 rfl ?_
    refine j_ald (n := 12) (j := i) (v := (((I_touch J i).2) 13 i)) k128_36 hB rfl rfl (by omega) rfl ?_
    refine r_iload k128_37 rfl ?_
    refine j_call (ml := 2) k128_38 rfl (show 0 < d.1 by omega) (show 19 + 2 ≤ d.2 by omega) ⟨Nat.le_of_ble_eq_true rfl, Nat.le_of_ble_eq_true rfl, True.intro, Nat.le_of_ble_eq_true rfl⟩ rfl (rest := []) rfl (s_w_isin (((I_touch J i).2) 13 i) (nI nm)) (fun r h1 hq => ?_)
    obtain ⟨rfl, rfl⟩ := hq
    show am_wp _ _ _ [some (.ref 10), some (.int (nI (i))), some (.int (nI (nm)))] [.int (am_b (w_isin (((I_touch J i).2) 13 i) (nI nm)))] _ _
    refine r_ifneB k128_41 (fun z41 => ?_) (fun z41 => ?_)
    · refine r_aload k128_46 rfl ?_
      refine j_ref (b := 13) k128_47 hB rfl ?_
      refine r_iload k128_50 rfl ?_
      refine r_dup2 rfl rfl k128_51 ?_
      refine j_ald (n := 12) (j := i) (v := (((I_touch J i).2) 13 i)) k128_52 hB rfl rfl (by omega) rfl ?_
      refine r_pushn (v := nI 1) k128_53 rfl ?_
      refine r_iload k128_54 rfl ?_
      refine r_ishl k128_55 ?_
      refine r_pushn (v := (-1)) k128_56 rfl ?_
      refine r_ixor k128_57 ?_
      refine r_iand k128_58 ?_
      refine j_ast (n := 12) (j := i) k128_59 hB rfl rfl (by omega) ?_
      have hT59 : am_ty2 (am_u2 (am_u2 ((I_touch J i).2) 10 6 ((J 10 6) + ((I_touch J i).1))) 13 i ((((I_touch J i).2) 13 i) &&& (((nI 1) <<< ((nI nm) &&& 31)) ^^^ ((-1))))) := ty_w hT11 (tw_a (by decide) (by decide) (by decide))
      refine r_pushl k128_60 ?_
      have e9 : I_drop J i nm = ((Int64.ofInt 1, am_u2 (am_u2 ((I_touch J i).2) 10 6 ((J 10 6) + ((I_touch J i).1))) 13 i ((((I_touch J i).2) 13 i) &&& (((nI 1) <<< ((nI nm) &&& 31)) ^^^ ((-1)))))) := by unfold I_drop; rw [am_ite_t z24, am_ite_t z41]
      exact r_lret k128_61 rfl ⟨by rw [e9], by rw [e9], by rw [e9]; exact hT59⟩
    · refine r_pushl k128_44 ?_
      have e9 : I_drop J i nm = ((Int64.ofInt 0, am_u2 ((I_touch J i).2) 10 6 ((J 10 6) + ((I_touch J i).1)))) := by unfold I_drop; rw [am_ite_t z24, am_ite_f z41]
      exact r_lret k128_45 rfl ⟨by rw [e9], by rw [e9], by rw [e9]; exact hT11⟩
  · refine r_pushl k128_27 ?_
    have e9 : I_drop J i nm = ((Int64.ofInt 1099511627770, am_u2 ((I_touch J i).2) 10 6 ((J 10 6) + ((I_touch J i).1)))) := by unfold I_drop; rw [am_ite_f z24]
    exact r_lret k128_30 rfl ⟨by rw [e9], by rw [e9], by rw [e9]; exact hT11⟩
theorem fr_I_drop {J : Nat → Nat → Int32} {i : Nat} {nm : Nat} (q : Nat) (hq : ¬ q = 10 ∧ ¬ q = 12 ∧ ¬ q = 13 ∧ ¬ q = 14) : (I_drop J i nm).2 q = J q := by
  unfold I_drop
  refine fr_i2 (fun _ => ?_) (fun _ => ?_)
  · refine fr_i2 (fun _ => ?_) (fun _ => ?_)
    · exact (fr_u (by omega)).trans ((fr_u (by omega)).trans (fr_I_touch q (by omega)))
    · exact (fr_u (by omega)).trans (fr_I_touch q (by omega))
  · exact (fr_u (by omega)).trans (fr_I_touch q (by omega))
