/-! The class: ranks of methods. -/
noncomputable def K_at (J : Nat → Nat → Int32) (s : Nat) (i : Nat) : Int32 := (am_ite (s < 16) (am_ite (0 ≤ (C_place J (jn J 11 i) (nI s))) ((((C_place J (jn J 11 i) (nI s)) + (nI 1)))) ((((-1))))) (am_ite (((nI s) - (nI 16)) = (nI i)) (((nI 0))) ((((-1))))))
set_option maxRecDepth 20000 in
theorem s_K_at {d : am_D} {h : am_H} {J : Nat → Nat → Int32} (hB : am_B h) (hT : am_ty2 J) (s : Nat) (i : Nat) (hs : s < 28) (hi : i < 12) (hd : 1 ≤ d.1) (hw : 23 ≤ d.2) : am_wp d 140 0 [some (.ref 22), some (.int (nI (s))), some (.int (nI (i))), none] [] (am_si h J) (fun r h' => r = some (.int (K_at J s i)) ∧ h' = (am_si h J)) := by
  refine r_iload k140_0 rfl ?_
  refine r_pushn (v := nI 16) k140_1 rfl ?_
  refine r_icmpltN (by omega) (by omega) k140_3 (fun z3 => ?_) (fun z3 => ?_)
  · refine r_aload k140_20 rfl ?_
    refine j_ref (b := 2) k140_21 hB rfl ?_
    refine r_aload k140_24 rfl ?_
    refine j_ref (b := 10) k140_25 hB rfl ?_
    refine r_iload k140_28 rfl ?_
    refine j_call (ml := 2) k140_29 rfl (show 0 < d.1 by omega) (show 19 + 2 ≤ d.2 by omega) ⟨Nat.le_of_ble_eq_true rfl, Nat.le_of_ble_eq_true rfl, am_obB hB rfl, Nat.le_of_ble_eq_true rfl⟩ rfl (rest := [.ref 2]) rfl (s_I_class hB hT i (by omega)) (fun r h1 hq => ?_)
    obtain ⟨rfl, rfl⟩ := hq
    show am_wp _ _ _ [some (.ref 22), some (.int (nI (s))), some (.int (nI (i))), none] [.int (I_class J i), .ref 2] _ _
    rw [show I_class J i = nI (jn J 11 i) from rfl]
    have b29 := ty_n hT (q := 11) (B := 12) (by decide) (by decide) i
    refine r_iload k140_32 rfl ?_
    refine j_call (ml := 4) k140_33 rfl (show 0 < d.1 by omega) (show 19 + 4 ≤ d.2 by omega) ⟨Nat.le_of_ble_eq_true rfl, Nat.le_of_ble_eq_true rfl, am_obB hB rfl, Nat.le_of_ble_eq_true rfl⟩ rfl (rest := []) rfl (s_C_place hB hT (jn J 11 i) (nI s) (by omega)) (fun r h1 hq => ?_)
    obtain ⟨rfl, rfl⟩ := hq
    show am_wp _ _ _ [some (.ref 22), some (.int (nI (s))), some (.int (nI (i))), none] [.int (C_place J (jn J 11 i) (nI s))] _ _
    refine r_istore (L' := [some (.ref 22), some (.int (nI (s))), some (.int (nI (i))), some (.int (C_place J (jn J 11 i) (nI s)))]) k140_36 (Nat.le_of_ble_eq_true rfl) rfl ?_
    refine r_iload k140_37 rfl ?_
    refine r_ifge k140_38 (fun z38 => ?_) (fun z38 => ?_)
    · refine r_iload k140_45 rfl ?_
      refine r_pushn (v := nI 1) k140_46 rfl ?_
      refine r_iadd k140_47 ?_
      have e9 : K_at J s i = ((((C_place J (jn J 11 i) (nI s)) + (nI 1)))) := by unfold K_at; rw [am_ite_t z3, am_ite_t z38]
      exact r_iret k140_48 rfl ⟨by rw [e9], rfl⟩
    · refine r_pushn (v := (-1)) k140_41 rfl ?_
      refine r_goto k140_42 ?_
      have e9 : K_at J s i = ((((-1)))) := by unfold K_at; rw [am_ite_t z3, am_ite_f z38]
      exact r_iret k140_48 rfl ⟨by rw [e9], rfl⟩
  · refine r_iload k140_6 rfl ?_
    refine r_pushn (v := nI 16) k140_7 rfl ?_
    refine r_isub k140_9 ?_
    refine r_iload k140_10 rfl ?_
    refine r_icmpne k140_11 (fun z11 => ?_) (fun z11 => ?_)
    · refine r_pushn (v := (-1)) k140_18 rfl ?_
      have e9 : K_at J s i = ((((-1)))) := by unfold K_at; rw [am_ite_f z3, am_ite_f z11]
      exact r_iret k140_19 rfl ⟨by rw [e9], rfl⟩
    · refine r_pushn (v := nI 0) k140_14 rfl ?_
      refine r_goto k140_15 ?_
      have e9 : K_at J s i = (((nI 0))) := by unfold K_at; rw [am_ite_f z3, am_ite_t z11]
      exact r_iret k140_19 rfl ⟨by rw [e9], rfl⟩
noncomputable def K_rank (J : Nat → Nat → Int32) (m : Nat) (x : Nat) (y : Int32) : Int32 := (am_ite ((K_at J (jn J 19 m) x) < 0) (((K_at J (jn J 19 m) x))) (am_ite ((M_second J m) = ((-1))) (((K_at J (jn J 19 m) x))) (am_ite (0 ≤ (K_at J (jn J 20 m) (jx y))) (((((K_at J (jn J 19 m) x) * (nI 13)) + (K_at J (jn J 20 m) (jx y))))) ((((-1)))))))
set_option maxRecDepth 20000 in
theorem s_K_rank {d : am_D} {h : am_H} {J : Nat → Nat → Int32} (hB : am_B h) (hT : am_ty2 J) (m : Nat) (x : Nat) (y : Int32) (hm : m < 16) (hx : x < 12) (hy : ¬ J 20 m = -1 → y = nI (jx y) ∧ jx y < 12) (hd : 2 ≤ d.1) (hw : 46 ≤ d.2) : am_wp d 139 0 [some (.ref 22), some (.int (nI (m))), some (.int (nI (x))), some (.int (y)), none, none] [] (am_si h J) (fun r h' => r = some (.int (K_rank J m x y)) ∧ h' = (am_si h J)) := by
  refine r_aload k139_0 rfl ?_
  refine r_aload k139_1 rfl ?_
  refine j_ref (b := 15) k139_2 hB rfl ?_
  refine r_iload k139_5 rfl ?_
  refine j_call (ml := 2) k139_6 rfl (show 0 < d.1 by omega) (show 19 + 2 ≤ d.2 by omega) ⟨Nat.le_of_ble_eq_true rfl, Nat.le_of_ble_eq_true rfl, am_obB hB rfl, Nat.le_of_ble_eq_true rfl⟩ rfl (rest := [.ref 22]) rfl (s_M_first hB hT m (by omega)) (fun r h1 hq => ?_)
  obtain ⟨rfl, rfl⟩ := hq
  show am_wp _ _ _ [some (.ref 22), some (.int (nI (m))), some (.int (nI (x))), some (.int (y)), none, none] [.int (M_first J m), .ref 22] _ _
  rw [show M_first J m = nI (jn J 19 m) from rfl]
  have b6 := ty_n hT (q := 19) (B := 28) (by decide) (by decide) m
  refine r_iload k139_9 rfl ?_
  refine j_call (ml := 4) k139_10 rfl (show 0 < d.1 by omega) (show 19 + 4 ≤ d.2 by omega) ⟨Nat.le_of_ble_eq_true rfl, Nat.le_of_ble_eq_true rfl, am_obB hB rfl, Nat.le_of_ble_eq_true rfl⟩ rfl (rest := []) rfl (s_K_at hB hT (jn J 19 m) x (by omega) (by omega) (show 1 ≤ d.1 - 1 by omega) (show 23 ≤ d.2 - 23 by omega)) (fun r h1 hq => ?_)
  obtain ⟨rfl, rfl⟩ := hq
  show am_wp _ _ _ [some (.ref 22), some (.int (nI (m))), some (.int (nI (x))), some (.int (y)), none, none] [.int (K_at J (jn J 19 m) x)] _ _
  refine r_istore (L' := [some (.ref 22), some (.int (nI (m))), some (.int (nI (x))), some (.int (y)), some (.int (K_at J (jn J 19 m) x)), none]) k139_13 (Nat.le_of_ble_eq_true rfl) rfl ?_
  refine r_iload k139_15 rfl ?_
  refine r_iflt k139_17 (fun z17 => ?_) (fun z17 => ?_)
  · refine r_iload k139_32 rfl ?_
    have e9 : K_rank J m x y = (((K_at J (jn J 19 m) x))) := by unfold K_rank; rw [am_ite_t z17]
    exact r_iret k139_34 rfl ⟨by rw [e9], rfl⟩
  · refine r_aload k139_20 rfl ?_
    refine j_ref (b := 15) k139_21 hB rfl ?_
    refine r_iload k139_24 rfl ?_
    refine j_call (ml := 2) k139_25 rfl (show 0 < d.1 by omega) (show 19 + 2 ≤ d.2 by omega) ⟨Nat.le_of_ble_eq_true rfl, Nat.le_of_ble_eq_true rfl, am_obB hB rfl, Nat.le_of_ble_eq_true rfl⟩ rfl (rest := []) rfl (s_M_second hB hT m (by omega)) (fun r h1 hq => ?_)
    obtain ⟨rfl, rfl⟩ := hq
    show am_wp _ _ _ [some (.ref 22), some (.int (nI (m))), some (.int (nI (x))), some (.int (y)), some (.int (K_at J (jn J 19 m) x)), none] [.int (M_second J m)] _ _
    refine r_pushn (v := (-1)) k139_28 rfl ?_
    refine r_icmpne k139_29 (fun z29 => ?_) (fun z29 => ?_)
    · refine r_aload k139_35 rfl ?_
      refine r_aload k139_36 rfl ?_
      refine j_ref (b := 15) k139_37 hB rfl ?_
      refine r_iload k139_40 rfl ?_
      refine j_call (ml := 2) k139_41 rfl (show 0 < d.1 by omega) (show 19 + 2 ≤ d.2 by omega) ⟨Nat.le_of_ble_eq_true rfl, Nat.le_of_ble_eq_true rfl, am_obB hB rfl, Nat.le_of_ble_eq_true rfl⟩ rfl (rest := [.ref 22]) rfl (s_M_second hB hT m (by omega)) (fun r h1 hq => ?_)
      obtain ⟨rfl, rfl⟩ := hq
      show am_wp _ _ _ [some (.ref 22), some (.int (nI (m))), some (.int (nI (x))), some (.int (y)), some (.int (K_at J (jn J 19 m) x)), none] [.int (M_second J m), .ref 22] _ _
      refine r_iload k139_44 rfl ?_
      have c45 := ty_m hT (q := 20) (B := 28) (by decide) (by decide) m z29
      have cy := hy z29
      have c46 : M_second J m = nI (jn J 20 m) := c45.1
      rw [show ([.int (y), .int (M_second J m), .ref 22] : List Value) = [.int (nI (jx y)), .int (nI (jn J 20 m)), .ref 22] by rw [← cy.1, ← c46]]
      refine j_call (ml := 4) k139_45 rfl (show 0 < d.1 by omega) (show 19 + 4 ≤ d.2 by omega) ⟨Nat.le_of_ble_eq_true rfl, Nat.le_of_ble_eq_true rfl, am_obB hB rfl, Nat.le_of_ble_eq_true rfl⟩ rfl (rest := []) rfl (s_K_at hB hT (jn J 20 m) (jx y) (by omega) (by omega) (show 1 ≤ d.1 - 1 by omega) (show 23 ≤ d.2 - 23 by omega)) (fun r h1 hq => ?_)
      obtain ⟨rfl, rfl⟩ := hq
      show am_wp _ _ _ [some (.ref 22), some (.int (nI (m))), some (.int (nI (x))), some (.int (y)), some (.int (K_at J (jn J 19 m) x)), none] [.int (K_at J (jn J 20 m) (jx y))] _ _
      refine r_istore (L' := [some (.ref 22), some (.int (nI (m))), some (.int (nI (x))), some (.int (y)), some (.int (K_at J (jn J 19 m) x)), some (.int (K_at J (jn J 20 m) (jx y)))]) k139_48 (Nat.le_of_ble_eq_true rfl) rfl ?_
      refine r_iload k139_50 rfl ?_
      refine r_ifge k139_52 (fun z52 => ?_) (fun z52 => ?_)
      · refine r_iload k139_59 rfl ?_
        refine r_pushn (v := nI 13) k139_61 rfl ?_
        refine r_imul k139_63 ?_
        refine r_iload k139_64 rfl ?_
        refine r_iadd k139_66 ?_
        have e9 : K_rank J m x y = (((((K_at J (jn J 19 m) x) * (nI 13)) + (K_at J (jn J 20 m) (jx y))))) := by unfold K_rank; rw [am_ite_f z17, am_ite_f z29, am_ite_t z52]
        exact r_iret k139_67 rfl ⟨by rw [e9], rfl⟩
      · refine r_pushn (v := (-1)) k139_55 rfl ?_
        refine r_goto k139_56 ?_
        have e9 : K_rank J m x y = ((((-1)))) := by unfold K_rank; rw [am_ite_f z17, am_ite_f z29, am_ite_f z52]
        exact r_iret k139_67 rfl ⟨by rw [e9], rfl⟩
    · refine r_iload k139_32 rfl ?_
      have e9 : K_rank J m x y = (((K_at J (jn J 19 m) x))) := by unfold K_rank; rw [am_ite_f z17, am_ite_t z29]
      exact r_iret k139_34 rfl ⟨by rw [e9], rfl⟩
noncomputable def K_fi (g : Nat) (x : Nat) (y : Int32) : Nat → Nat → (Nat → Nat → Int32) → Prop
  | 0, k, J => ((False))
  | m + 1, k, J => (am_ite (M_isOf J k g) (am_ite (M_names J k) (am_ite ((K_rank J k x y) < 0) (K_fi g x y m (k + 1) J) ((True))) (K_fi g x y m (k + 1) J)) (K_fi g x y m (k + 1) J))
set_option maxRecDepth 20000 in
theorem l_K_fi {d : am_D} {h : am_H} {Q : Option Value → am_H → Prop} (hB : am_B h) (g : Nat) (x : Nat) (y : Int32) (hg : g < 5) (hx : x < 12) (hd : 3 ≤ d.1) (hw : 71 ≤ d.2) : ∀ (m k : Nat) (J : Nat → Nat → Int32), am_ty2 J → k + m = 16 → (∀ i, i < 16 → M_isOf J i g → ¬ J 20 i = -1 → y = nI (jx y) ∧ jx y < 12) → Q (some (.int (am_b (K_fi g x y m k J)))) (am_si h J) → am_wp d 135 3 [some (.ref 22), some (.int (nI (g))), some (.int (nI (x))), some (.int (y)), some (.int (nI (k)))] [] (am_si h J) Q := by
  intro m
  induction m with
  | zero =>
    intro k J hT hk hy HQ
    refine r_iload k135_3 rfl ?_
    refine r_pushn (v := nI 16) k135_5 rfl ?_
    refine r_icmpgeN (by omega) (by omega) k135_7 (fun z7 => ?_) (fun z7 => ?_)
    · refine r_pushn (v := nI 0) k135_54 rfl ?_
      have e9 : K_fi g x y 0 k J = ((False)) := by rw [K_fi]
      rw [e9] at HQ
      rw [am_b_f (fun q => q)] at HQ
      exact r_zret k135_55 rfl (by decide) HQ
    · exact absurd z7 (by omega)
  | succ m ih =>
    intro k J hT hk hy HQ
    refine r_iload k135_3 rfl ?_
    refine r_pushn (v := nI 16) k135_5 rfl ?_
    refine r_icmpgeN (by omega) (by omega) k135_7 (fun z7 => ?_) (fun z7 => ?_)
    · exact absurd z7 (by omega)
    · refine r_aload k135_10 rfl ?_
      refine j_ref (b := 15) k135_11 hB rfl ?_
      refine r_iload k135_14 rfl ?_
      refine r_iload k135_16 rfl ?_
      refine j_call (ml := 3) k135_17 rfl (show 0 < d.1 by omega) (show 19 + 3 ≤ d.2 by omega) ⟨Nat.le_of_ble_eq_true rfl, Nat.le_of_ble_eq_true rfl, am_obB hB rfl, Nat.le_of_ble_eq_true rfl⟩ rfl (rest := []) rfl (s_M_isOf hB hT k g (by omega) (by omega)) (fun r h1 hq => ?_)
      obtain ⟨rfl, rfl⟩ := hq
      show am_wp _ _ _ [some (.ref 22), some (.int (nI (g))), some (.int (nI (x))), some (.int (y)), some (.int (nI (k)))] [.int (am_b (M_isOf J k g))] _ _
      refine r_ifeqB k135_20 (fun z20 => ?_) (fun z20 => ?_)
      · refine r_iinc (v := (nI (k + 1))) (L' := [some (.ref 22), some (.int (nI (g))), some (.int (nI (x))), some (.int (y)), some (.int (nI (k + 1)))]) k135_48 rfl (Nat.le_of_ble_eq_true rfl) (nI_1 _) rfl ?_
        refine r_goto k135_51 ?_
        have e9 : K_fi g x y (m + 1) k J = K_fi g x y m (k + 1) J := by rw [K_fi]; rw [am_ite_f z20]
        rw [e9] at HQ
        exact ih (k + 1) J hT (by omega) hy HQ
      · refine r_aload k135_23 rfl ?_
        refine j_ref (b := 15) k135_24 hB rfl ?_
        refine r_iload k135_27 rfl ?_
        refine j_call (ml := 2) k135_29 rfl (show 0 < d.1 by omega) (show 19 + 2 ≤ d.2 by omega) ⟨Nat.le_of_ble_eq_true rfl, Nat.le_of_ble_eq_true rfl, am_obB hB rfl, Nat.le_of_ble_eq_true rfl⟩ rfl (rest := []) rfl (s_M_names hB hT k (by omega)) (fun r h1 hq => ?_)
        obtain ⟨rfl, rfl⟩ := hq
        show am_wp _ _ _ [some (.ref 22), some (.int (nI (g))), some (.int (nI (x))), some (.int (y)), some (.int (nI (k)))] [.int (am_b (M_names J k))] _ _
        refine r_ifeqB k135_32 (fun z32 => ?_) (fun z32 => ?_)
        · refine r_iinc (v := (nI (k + 1))) (L' := [some (.ref 22), some (.int (nI (g))), some (.int (nI (x))), some (.int (y)), some (.int (nI (k + 1)))]) k135_48 rfl (Nat.le_of_ble_eq_true rfl) (nI_1 _) rfl ?_
          refine r_goto k135_51 ?_
          have e9 : K_fi g x y (m + 1) k J = K_fi g x y m (k + 1) J := by rw [K_fi]; rw [am_ite_t z20, am_ite_f z32]
          rw [e9] at HQ
          exact ih (k + 1) J hT (by omega) hy HQ
        · refine r_aload k135_35 rfl ?_
          refine r_iload k135_36 rfl ?_
          refine r_iload k135_38 rfl ?_
          refine r_iload k135_39 rfl ?_
          refine j_call (ml := 6) k135_40 rfl (show 0 < d.1 by omega) (show 19 + 6 ≤ d.2 by omega) ⟨Nat.le_of_ble_eq_true rfl, Nat.le_of_ble_eq_true rfl, am_obB hB rfl, Nat.le_of_ble_eq_true rfl⟩ rfl (rest := []) rfl (s_K_rank hB hT k x y (by omega) (by omega) (hy _ (by omega) z20) (show 2 ≤ d.1 - 1 by omega) (show 46 ≤ d.2 - 25 by omega)) (fun r h1 hq => ?_)
          obtain ⟨rfl, rfl⟩ := hq
          show am_wp _ _ _ [some (.ref 22), some (.int (nI (g))), some (.int (nI (x))), some (.int (y)), some (.int (nI (k)))] [.int (K_rank J k x y)] _ _
          refine r_iflt k135_43 (fun z43 => ?_) (fun z43 => ?_)
          · refine r_iinc (v := (nI (k + 1))) (L' := [some (.ref 22), some (.int (nI (g))), some (.int (nI (x))), some (.int (y)), some (.int (nI (k + 1)))]) k135_48 rfl (Nat.le_of_ble_eq_true rfl) (nI_1 _) rfl ?_
            refine r_goto k135_51 ?_
            have e9 : K_fi g x y (m + 1) k J = K_fi g x y m (k + 1) J := by rw [K_fi]; rw [am_ite_t z20, am_ite_t z32, am_ite_t z43]
            rw [e9] at HQ
            exact ih (k + 1) J hT (by omega) hy HQ
          · refine r_pushn (v := nI 1) k135_46 rfl ?_
            have e9 : K_fi g x y (m + 1) k J = ((True)) := by rw [K_fi]; rw [am_ite_t z20, am_ite_t z32, am_ite_f z43]
            rw [e9] at HQ
            rw [am_b_t True.intro] at HQ
            exact r_zret k135_47 rfl (by decide) HQ
noncomputable def K_forI (J : Nat → Nat → Int32) (g : Nat) (x : Nat) (y : Int32) : Prop := (K_fi g x y 16 0 J)
set_option maxRecDepth 20000 in
theorem s_K_forI {d : am_D} {h : am_H} {J : Nat → Nat → Int32} (hB : am_B h) (hT : am_ty2 J) (g : Nat) (x : Nat) (y : Int32) (hg : g < 5) (hx : x < 12) (hy : ∀ i, i < 16 → M_isOf J i g → ¬ J 20 i = -1 → y = nI (jx y) ∧ jx y < 12) (hd : 3 ≤ d.1) (hw : 71 ≤ d.2) : am_wp d 135 0 [some (.ref 22), some (.int (nI (g))), some (.int (nI (x))), some (.int (y)), none] [] (am_si h J) (fun r h' => r = some (.int (am_b (K_forI J g x y))) ∧ h' = (am_si h J)) := by
  refine r_pushn (v := nI 0) k135_0 rfl ?_
  refine r_istore (L' := [some (.ref 22), some (.int (nI (g))), some (.int (nI (x))), some (.int (y)), some (.int (nI 0))]) k135_1 (Nat.le_of_ble_eq_true rfl) rfl ?_
  exact l_K_fi hB g x y hg hx hd hw 16 0 J hT (by omega) hy ⟨rfl, rfl⟩
