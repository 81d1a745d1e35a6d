/-! The reference: generic, method, count, and what suits. -/
noncomputable def R_lc (c : Nat) : Nat → Nat → (Nat → Nat → Int32) → Int32 → Int32
  | 0, k, J, w => ((w))
  | m + 1, k, J, w => (am_ite ((R_slotOf J c k) < 0) (R_lc c m (k + 1) J w) (am_ite ((jn J 43 (jx (R_slotOf J c k))) = 3) (R_lc c m (k + 1) J w) (R_lc c m (k + 1) J (w ||| ((nI 1) <<< ((nI k) &&& 31))))))
set_option maxRecDepth 20000 in
theorem l_R_lc {d : am_D} {h : am_H} {Q : Option Value → am_H → Prop} (hB : am_B h) (c : Nat) (hc : c < 12) (hd : 1 ≤ d.1) (hw : 24 ≤ d.2) : ∀ (m k : Nat) (J : Nat → Nat → Int32), am_ty2 J → k + m = 6 → ∀ (w : Int32), Q (some (.int (R_lc c m k J w))) (am_si h J) → am_wp d 40 4 [some (.ref 36), some (.int (nI (c))), some (.int (w)), some (.int (nI (k))), none] [] (am_si h J) Q := by
  intro m
  induction m with
  | zero =>
    intro k J hT hk w HQ
    refine r_iload k40_4 rfl ?_
    refine r_pushn (v := nI 6) k40_5 rfl ?_
    refine r_icmpgeN (by omega) (by omega) k40_7 (fun z7 => ?_) (fun z7 => ?_)
    · refine r_iload k40_46 rfl ?_
      have e9 : R_lc c 0 k J w = ((w)) := by rw [R_lc]
      rw [e9] at HQ
      exact r_iret k40_47 rfl HQ
    · exact absurd z7 (by omega)
  | succ m ih =>
    intro k J hT hk w HQ
    refine r_iload k40_4 rfl ?_
    refine r_pushn (v := nI 6) k40_5 rfl ?_
    refine r_icmpgeN (by omega) (by omega) k40_7 (fun z7 => ?_) (fun z7 => ?_)
    · exact absurd z7 (by omega)
    · refine r_aload k40_10 rfl ?_
      refine r_iload k40_11 rfl ?_
      refine r_iload k40_12 rfl ?_
      refine j_call (ml := 5) k40_13 rfl (show 0 < d.1 by omega) (show 19 + 5 ≤ d.2 by omega) ⟨Nat.le_of_ble_eq_true rfl, Nat.le_of_ble_eq_true rfl, am_obB hB rfl, Nat.le_of_ble_eq_true rfl⟩ rfl (rest := []) rfl (s_R_slotOf hB hT c k (by omega) (by omega)) (fun r h1 hq => ?_)
      obtain ⟨rfl, rfl⟩ := hq
      show am_wp _ _ _ [some (.ref 36), some (.int (nI (c))), some (.int (w)), some (.int (nI (k))), none] [.int (R_slotOf J c k)] _ _
      refine r_istore (L' := [some (.ref 36), some (.int (nI (c))), some (.int (w)), some (.int (nI (k))), some (.int (R_slotOf J c k))]) k40_16 (Nat.le_of_ble_eq_true rfl) rfl ?_
      refine r_iload k40_18 rfl ?_
      refine r_iflt k40_20 (fun z20 => ?_) (fun z20 => ?_)
      · refine r_iinc (v := (nI (k + 1))) (L' := [some (.ref 36), some (.int (nI (c))), some (.int (w)), some (.int (nI (k + 1))), some (.int (R_slotOf J c k))]) k40_40 rfl (Nat.le_of_ble_eq_true rfl) (nI_1 _) rfl ?_
        refine r_goto k40_43 ?_
        have e9 : R_lc c (m + 1) k J w = R_lc c m (k + 1) J w := by rw [R_lc]; rw [am_ite_t z20]
        rw [e9] at HQ
        exact wp_L (L := [some (.ref 36), some (.int (nI (c))), some (.int (w)), some (.int (nI (k + 1))), none]) (⟨Or.inr rfl, Or.inr rfl, Or.inr rfl, Or.inr rfl, Or.inl rfl, True.intro⟩) (ih (k + 1) J hT (by omega) w HQ)
      · have c20 := R_slotOf_nl hT (by omega) z20
        rw [show ([some (.ref 36), some (.int (nI (c))), some (.int (w)), some (.int (nI (k))), some (.int (R_slotOf J c k))] : am_L) = [some (.ref 36), some (.int (nI (c))), some (.int (w)), some (.int (nI (k))), some (.int (nI (jx (R_slotOf J c k))))] by rw [← c20.1]]
        refine r_aload k40_23 rfl ?_
        refine j_ref (b := 43) k40_24 hB rfl ?_
        refine r_iload k40_27 rfl ?_
        have b29 := ty_n hT (q := 43) (B := 4) (by decide) (by decide) (jx (R_slotOf J c k))
        refine j_ald (n := 72) (j := (jx (R_slotOf J c k))) (v := (nI (jn J 43 (jx (R_slotOf J c k))))) k40_29 hB rfl rfl (by omega) b29.1 ?_
        refine r_pushn (v := nI 3) k40_30 rfl ?_
        refine r_icmpeqN (by omega) (by omega) k40_31 (fun z31 => ?_) (fun z31 => ?_)
        · refine r_iinc (v := (nI (k + 1))) (L' := [some (.ref 36), some (.int (nI (c))), some (.int (w)), some (.int (nI (k + 1))), some (.int (nI (jx (R_slotOf J c k))))]) k40_40 rfl (Nat.le_of_ble_eq_true rfl) (nI_1 _) rfl ?_
          refine r_goto k40_43 ?_
          have e9 : R_lc c (m + 1) k J w = R_lc c m (k + 1) J w := by rw [R_lc]; rw [am_ite_f z20, am_ite_t z31]
          rw [e9] at HQ
          exact wp_L (L := [some (.ref 36), some (.int (nI (c))), some (.int (w)), some (.int (nI (k + 1))), none]) (⟨Or.inr rfl, Or.inr rfl, Or.inr rfl, Or.inr rfl, Or.inl rfl, True.intro⟩) (ih (k + 1) J hT (by omega) w HQ)
        · refine r_iload k40_34 rfl ?_
          refine r_pushn (v := nI 1) k40_35 rfl ?_
          refine r_iload k40_36 rfl ?_
          refine r_ishl k40_37 ?_
          refine r_ior k40_38 ?_
          refine r_istore (L' := [some (.ref 36), some (.int (nI (c))), some (.int (w ||| ((nI 1) <<< ((nI k) &&& 31)))), some (.int (nI (k))), some (.int (nI (jx (R_slotOf J c k))))]) k40_39 (Nat.le_of_ble_eq_true rfl) rfl ?_
          refine r_iinc (v := (nI (k + 1))) (L' := [some (.ref 36), some (.int (nI (c))), some (.int (w ||| ((nI 1) <<< ((nI k) &&& 31)))), some (.int (nI (k + 1))), some (.int (nI (jx (R_slotOf J c k))))]) k40_40 rfl (Nat.le_of_ble_eq_true rfl) (nI_1 _) rfl ?_
          refine r_goto k40_43 ?_
          have e9 : R_lc c (m + 1) k J w = R_lc c m (k + 1) J (w ||| ((nI 1) <<< ((nI k) &&& 31))) := by rw [R_lc]; rw [am_ite_f z20, am_ite_f z31]
          rw [e9] at HQ
          exact wp_L (L := [some (.ref 36), some (.int (nI (c))), some (.int (w ||| ((nI 1) <<< ((nI k) &&& 31)))), some (.int (nI (k + 1))), none]) (⟨Or.inr rfl, Or.inr rfl, Or.inr rfl, Or.inr rfl, Or.inl rfl, True.intro⟩) (ih (k + 1) J hT (by omega) (w ||| ((nI 1) <<< ((nI k) &&& 31))) HQ)
noncomputable def R_locals (J : Nat → Nat → Int32) (c : Nat) : Int32 := (R_lc c 6 0 J (nI 0))
set_option maxRecDepth 20000 in
theorem s_R_locals {d : am_D} {h : am_H} {J : Nat → Nat → Int32} (hB : am_B h) (hT : am_ty2 J) (c : Nat) (hc : c < 12) (hd : 1 ≤ d.1) (hw : 24 ≤ d.2) : am_wp d 40 0 [some (.ref 36), some (.int (nI (c))), none, none, none] [] (am_si h J) (fun r h' => r = some (.int (R_locals J c)) ∧ h' = (am_si h J)) := by
  refine r_pushn (v := nI 0) k40_0 rfl ?_
  refine r_istore (L' := [some (.ref 36), some (.int (nI (c))), some (.int (nI 0)), none, none]) k40_1 (Nat.le_of_ble_eq_true rfl) rfl ?_
  refine r_pushn (v := nI 0) k40_2 rfl ?_
  refine r_istore (L' := [some (.ref 36), some (.int (nI (c))), some (.int (nI 0)), some (.int (nI 0)), none]) k40_3 (Nat.le_of_ble_eq_true rfl) rfl ?_
  have e9 : R_locals J c = (R_lc c 6 0 J (nI 0)) := rfl
  exact (l_R_lc hB c (by omega) hd hw 6 0 J hT (by omega) (nI 0) ⟨by rw [e9], rfl⟩)
noncomputable def R_gn (g : Nat) (n : Nat) : Nat → Nat → (Nat → Nat → Int32) → Nat → (Nat → Nat → Int32) × Nat
  | 0, k, J, had => (J, had)
  | m + 1, k, J, had => (am_ite ((J 50 k) = (nI g)) (R_gn g n m (k + 1) (am_u2 J 50 k ((-1))) (had + 1)) (R_gn g n m (k + 1) J had))
set_option maxRecDepth 20000 in
theorem l_R_gn {d : am_D} {h : am_H} {Q : Option Value → am_H → Prop} (hB : am_B h) (g : Nat) (n : Nat) (hg : g < 5) (hd : 1 ≤ d.1) (hw : 22 ≤ d.2) : ∀ (m k : Nat) (J : Nat → Nat → Int32), am_ty2 J → k + m = 16 → ∀ (had : Nat), (am_ty2 (R_gn g n m k J had).1 → am_wp d 51 60 [some (.ref 36), some (.int (nI (g))), some (.int (nI (n))), some (.int (nI ((R_gn g n m k J had).2))), none] [] (am_si h (R_gn g n m k J had).1) Q) → am_wp d 51 25 [some (.ref 36), some (.int (nI (g))), some (.int (nI (n))), some (.int (nI (had))), some (.int (nI (k)))] [] (am_si h J) Q := by
  intro m
  induction m with
  | zero =>
    intro k J hT hk had HQ
    refine r_iload k51_25 rfl ?_
    refine r_pushn (v := nI 16) k51_27 rfl ?_
    refine r_icmpgeN (by omega) (by omega) k51_29 (fun z29 => ?_) (fun z29 => ?_)
    · have e9 : R_gn g n 0 k J had = (J, had) := by rw [R_gn]
      rw [e9] at HQ
      exact wp_L (L := [some (.ref 36), some (.int (nI (g))), some (.int (nI (n))), some (.int (nI (had))), none]) (⟨Or.inr rfl, Or.inr rfl, Or.inr rfl, Or.inr rfl, Or.inl rfl, True.intro⟩) (HQ hT)
    · exact absurd z29 (by omega)
  | succ m ih =>
    intro k J hT hk had HQ
    refine r_iload k51_25 rfl ?_
    refine r_pushn (v := nI 16) k51_27 rfl ?_
    refine r_icmpgeN (by omega) (by omega) k51_29 (fun z29 => ?_) (fun z29 => ?_)
    · exact absurd z29 (by omega)
    · refine r_aload k51_32 rfl ?_
      refine j_ref (b := 50) k51_33 hB rfl ?_
      refine r_iload k51_36 rfl ?_
      refine j_ald (n := 16) (j := k) (v := (J 50 k)) k51_38 hB rfl rfl (by omega) rfl ?_
      refine r_iload k51_39 rfl ?_
      refine r_icmpne k51_40 (fun z40 => ?_) (fun z40 => ?_)
      · refine r_iinc (v := (nI (k + 1))) (L' := [some (.ref 36), some (.int (nI (g))), some (.int (nI (n))), some (.int (nI (had))), some (.int (nI (k + 1)))]) k51_54 rfl (Nat.le_of_ble_eq_true rfl) (nI_1 _) rfl ?_
        refine r_goto k51_57 ?_
        have e9 : R_gn g n (m + 1) k J had = R_gn g n m (k + 1) J had := by rw [R_gn]; rw [am_ite_f z40]
        rw [e9] at HQ
        exact ih (k + 1) J hT (by omega) had HQ
      · refine r_aload k51_43 rfl ?_
        refine j_ref (b := 50) k51_44 hB rfl ?_
        refine r_iload k51_47 rfl ?_
        refine r_pushn (v := (-1)) k51_49 rfl ?_
        refine j_ast (n := 16) (j := k) k51_50 hB rfl rfl (by omega) ?_
        have hT50 : am_ty2 (am_u2 J 50 k ((-1))) := ty_w hT (tw_m (B := 5) (by decide) (by decide) (by decide) (Or.inl rfl))
        refine r_iinc (v := (nI (had + 1))) (L' := [some (.ref 36), some (.int (nI (g))), some (.int (nI (n))), some (.int (nI (had + 1))), some (.int (nI (k)))]) k51_51 rfl (Nat.le_of_ble_eq_true rfl) (nI_1 _) rfl ?_
        refine r_iinc (v := (nI (k + 1))) (L' := [some (.ref 36), some (.int (nI (g))), some (.int (nI (n))), some (.int (nI (had + 1))), some (.int (nI (k + 1)))]) k51_54 rfl (Nat.le_of_ble_eq_true rfl) (nI_1 _) rfl ?_
        refine r_goto k51_57 ?_
        have e9 : R_gn g n (m + 1) k J had = R_gn g n m (k + 1) (am_u2 J 50 k ((-1))) (had + 1) := by rw [R_gn]; rw [am_ite_t z40]
        rw [e9] at HQ
        exact ih (k + 1) (am_u2 J 50 k ((-1))) hT50 (by omega) (had + 1) HQ
theorem fl_R_gn {g : Nat} {n : Nat} (q : Nat) (hq : ¬ q = 50) : ∀ (m k : Nat) (J : Nat → Nat → Int32) (had : Nat), (R_gn g n m k J had).1 q = J q := by
  intro m
  induction m with
  | zero =>
    intro k J had
    rw [R_gn]
    first | done | exact rfl
  | succ m ih =>
    intro k J had
    rw [R_gn]
    refine fr_i1 (fun _ => ?_) (fun _ => ?_)
    · exact (ih (k + 1) (am_u2 J 50 k ((-1))) (had + 1)).trans (fr_u (by omega))
    · exact ih (k + 1) J had
noncomputable def R_generic (J : Nat → Nat → Int32) (g : Int32) (n : Int32) : Int32 × (Nat → Nat → Int32) := (am_ite (r_is g (nI 0) (nI 4)) (am_ite (r_is n (nI 1) (nI 2)) (((nI ((R_gn (jx g) (jx n) 16 0 J 0).2)), R_forget (am_u2 ((R_gn (jx g) (jx n) 16 0 J 0).1) 49 (jx g) (nI (jx n))) (jx g))) ((((-1)), J))) ((((-1)), J)))
set_option maxRecDepth 20000 in
theorem s_R_generic {d : am_D} {h : am_H} {J : Nat → Nat → Int32} (hB : am_B h) (hT : am_ty2 J) (g : Int32) (n : Int32) (hd : 1 ≤ d.1) (hw : 22 ≤ d.2) : am_wp d 51 0 [some (.ref 36), some (.int (g)), some (.int (n)), none, none] [] (am_si h J) (fun r h' => r = some (.int (R_generic J g n).1) ∧ h' = am_si h (R_generic J g n).2 ∧ am_ty2 (R_generic J g n).2) := by
  refine r_iload k51_0 rfl ?_
  refine r_pushn (v := nI 0) k51_1 rfl ?_
  refine r_pushn (v := nI 4) k51_2 rfl ?_
  refine j_call (ml := 3) k51_3 rfl (show 0 < d.1 by omega) (show 19 + 3 ≤ d.2 by omega) ⟨Nat.le_of_ble_eq_true rfl, Nat.le_of_ble_eq_true rfl, True.intro, Nat.le_of_ble_eq_true rfl⟩ rfl (rest := []) rfl (s_r_is g (nI 0) (nI 4)) (fun r h1 hq => ?_)
  obtain ⟨rfl, rfl⟩ := hq
  show am_wp _ _ _ [some (.ref 36), some (.int (g)), some (.int (n)), none, none] [.int (am_b (r_is g (nI 0) (nI 4)))] _ _
  refine r_ifeqB k51_6 (fun z6 => ?_) (fun z6 => ?_)
  · refine r_pushn (v := (-1)) k51_18 rfl ?_
    have e9 : R_generic J g n = ((((-1)), J)) := by unfold R_generic; rw [am_ite_f z6]
    exact r_iret k51_19 rfl ⟨by rw [e9], by rw [e9], by rw [e9]; exact hT⟩
  · have e_g := jx_eq (by decide) (show w_in _ _ _ from z6)
    rw [show ([some (.ref 36), some (.int (g)), some (.int (n)), none, none] : am_L) = [some (.ref 36), some (.int (nI (jx g))), some (.int (n)), none, none] by rw [← e_g.1]]
    refine r_iload k51_9 rfl ?_
    refine r_pushn (v := nI 1) k51_10 rfl ?_
    refine r_pushn (v := nI 2) k51_11 rfl ?_
    refine j_call (ml := 3) k51_12 rfl (show 0 < d.1 by omega) (show 19 + 3 ≤ d.2 by omega) ⟨Nat.le_of_ble_eq_true rfl, Nat.le_of_ble_eq_true rfl, True.intro, Nat.le_of_ble_eq_true rfl⟩ rfl (rest := []) rfl (s_r_is n (nI 1) (nI 2)) (fun r h1 hq => ?_)
    obtain ⟨rfl, rfl⟩ := hq
    show am_wp _ _ _ [some (.ref 36), some (.int (nI (jx g))), some (.int (n)), none, none] [.int (am_b (r_is n (nI 1) (nI 2)))] _ _
    refine r_ifneB k51_15 (fun z15 => ?_) (fun z15 => ?_)
    · have e_n := jx_eqL (by decide) (by decide) (show w_in _ _ _ from z15)
      rw [show ([some (.ref 36), some (.int (nI (jx g))), some (.int (n)), none, none] : am_L) = [some (.ref 36), some (.int (nI (jx g))), some (.int (nI (jx n))), none, none] by rw [← e_n.1]]
      refine r_pushn (v := nI 0) k51_20 rfl ?_
      refine r_istore (L' := [some (.ref 36), some (.int (nI (jx g))), some (.int (nI (jx n))), some (.int (nI 0)), none]) k51_21 (Nat.le_of_ble_eq_true rfl) rfl ?_
      refine r_pushn (v := nI 0) k51_22 rfl ?_
      refine r_istore (L' := [some (.ref 36), some (.int (nI (jx g))), some (.int (nI (jx n))), some (.int (nI 0)), some (.int (nI 0))]) k51_23 (Nat.le_of_ble_eq_true rfl) rfl ?_
      refine (l_R_gn hB (jx g) (jx n) (by omega) hd hw 16 0 J hT (by omega) 0 (fun hT9R_gn => ?_))
      refine r_aload k51_60 rfl ?_
      refine j_ref (b := 49) k51_61 hB rfl ?_
      refine r_iload k51_64 rfl ?_
      refine r_iload k51_65 rfl ?_
      refine j_ast (n := 5) (j := (jx g)) k51_66 hB rfl rfl (by omega) ?_
      have hT66 : am_ty2 (am_u2 ((R_gn (jx g) (jx n) 16 0 J 0).1) 49 (jx g) (nI (jx n))) := ty_w hT9R_gn (tw_n (B := 3) (by decide) (by decide) (by decide) (by omega))
      refine r_aload k51_67 rfl ?_
      refine r_iload k51_68 rfl ?_
      refine j_call (ml := 3) k51_69 rfl (show 0 < d.1 by omega) (show 19 + 3 ≤ d.2 by omega) ⟨Nat.le_of_ble_eq_true rfl, Nat.le_of_ble_eq_true rfl, am_obB hB rfl, Nat.le_of_ble_eq_true rfl⟩ rfl (rest := []) rfl (s_R_forget hB hT66 (jx g) (by omega)) (fun r h1 hq => ?_)
      obtain ⟨rfl, rfl, hT69⟩ := hq
      show am_wp _ _ _ [some (.ref 36), some (.int (nI (jx g))), some (.int (nI (jx n))), some (.int (nI ((R_gn (jx g) (jx n) 16 0 J 0).2))), none] [] _ _
      refine r_iload k51_72 rfl ?_
      have e9 : R_generic J g n = (((nI ((R_gn (jx g) (jx n) 16 0 J 0).2)), R_forget (am_u2 ((R_gn (jx g) (jx n) 16 0 J 0).1) 49 (jx g) (nI (jx n))) (jx g))) := by unfold R_generic; rw [am_ite_t z6, am_ite_t z15]
      exact r_iret k51_73 rfl ⟨by rw [e9], by rw [e9], by rw [e9]; exact hT69⟩
    · refine r_pushn (v := (-1)) k51_18 rfl ?_
      have e9 : R_generic J g n = ((((-1)), J)) := by unfold R_generic; rw [am_ite_t z6, am_ite_f z15]
      exact r_iret k51_19 rfl ⟨by rw [e9], by rw [e9], by rw [e9]; exact hT⟩
theorem fr_R_generic {J : Nat → Nat → Int32} {g : Int32} {n : Int32} (q : Nat) (hq : ¬ q = 49 ∧ ¬ q = 50 ∧ ¬ q = 58) : (R_generic J g n).2 q = J q := by
  unfold R_generic
  refine fr_i2 (fun _ => ?_) (fun _ => ?_)
  · refine fr_i2 (fun _ => ?_) (fun _ => ?_)
    · exact (fr_R_forget q (by omega)).trans ((fr_u (by omega)).trans (fl_R_gn q (by omega) _ _ _ _))
    · exact rfl
  · exact rfl
noncomputable def R_m1 (g : Nat) (kind : Nat) (s : Nat) (body : Nat) (sec : Nat) : Nat → (Nat → Nat → Int32) → Nat → (Nat → Nat → Int32) × Nat
  | 0, J, fr => (J, fr)
  | m + 1, J, fr => (am_ite (0 ≤ (J 50 m)) (R_m1 g kind s body sec m J fr) (R_m1 g kind s body sec m J m))
set_option maxRecDepth 20000 in
theorem l_R_m1 {d : am_D} {h : am_H} {Q : Option Value → am_H → Prop} (hB : am_B h) (g : Nat) (kind : Nat) (s : Nat) (body : Nat) (sec : Nat) (hd : 3 ≤ d.1) (hw : 64 ≤ d.2) : ∀ (m : Nat) (J : Nat → Nat → Int32), am_ty2 J → ∀ (fr : Nat), m ≤ 16 → (am_ty2 (R_m1 g kind s body sec m J fr).1 → am_wp d 54 148 [some (.ref 36), some (.int (nI (g))), some (.int (nI (kind))), some (.int (nI (s))), none, some (.int (nI (body))), some (.int (nI (sec))), some (.int (nI ((R_m1 g kind s body sec m J fr).2))), none] [] (am_si h (R_m1 g kind s body sec m J fr).1) Q) → am_wp d 54 123 [some (.ref 36), some (.int (nI (g))), some (.int (nI (kind))), some (.int (nI (s))), none, some (.int (nI (body))), some (.int (nI (sec))), some (.int (nI (fr))), some (.int (am_pd m))] [] (am_si h J) Q := by
  intro m
  induction m with
  | zero =>
    intro J hT fr hc0 HQ
    rw [show ([some (.ref 36), some (.int (nI (g))), some (.int (nI (kind))), some (.int (nI (s))), none, some (.int (nI (body))), some (.int (nI (sec))), some (.int (nI (fr))), some (.int (am_pd 0))] : am_L) = [some (.ref 36), some (.int (nI (g))), some (.int (nI (kind))), some (.int (nI (s))), none, some (.int (nI (body))), some (.int (nI (sec))), some (.int (nI (fr))), some (.int ((-1)))] from rfl]
    refine r_iload k54_123 rfl ?_
    refine r_iflt k54_125 (fun _ => ?_) (fun z => absurd (show ((-1) : Int32) < 0 by decide) z)
    have e9 : R_m1 g kind s body sec 0 J fr = (J, fr) := by rw [R_m1]
    rw [e9] at HQ
    exact wp_L (L := [some (.ref 36), some (.int (nI (g))), some (.int (nI (kind))), some (.int (nI (s))), none, some (.int (nI (body))), some (.int (nI (sec))), some (.int (nI (fr))), none]) (⟨Or.inr rfl, Or.inr rfl, Or.inr rfl, Or.inr rfl, Or.inl rfl, Or.inr rfl, Or.inr rfl, Or.inr rfl, Or.inl rfl, True.intro⟩) (HQ hT)
  | succ m ih =>
    intro J hT fr hc0 HQ
    rw [show ([some (.ref 36), some (.int (nI (g))), some (.int (nI (kind))), some (.int (nI (s))), none, some (.int (nI (body))), some (.int (nI (sec))), some (.int (nI (fr))), some (.int (am_pd (m + 1)))] : am_L) = [some (.ref 36), some (.int (nI (g))), some (.int (nI (kind))), some (.int (nI (s))), none, some (.int (nI (body))), some (.int (nI (sec))), some (.int (nI (fr))), some (.int (nI (m)))] from rfl]
    refine r_iload k54_123 rfl ?_
    refine r_ifltN (by omega) k54_125 ?_
    refine r_aload k54_128 rfl ?_
    refine j_ref (b := 50) k54_129 hB rfl ?_
    refine r_iload k54_132 rfl ?_
    refine j_ald (n := 16) (j := m) (v := (J 50 m)) k54_134 hB rfl rfl (by omega) rfl ?_
    refine r_ifge k54_135 (fun z135 => ?_) (fun z135 => ?_)
    · have c135 := ty_mg hT (q := 50) (B := 5) (by decide) (by decide) m z135
      refine r_iinc (v := (am_pd m)) (L' := [some (.ref 36), some (.int (nI (g))), some (.int (nI (kind))), some (.int (nI (s))), none, some (.int (nI (body))), some (.int (nI (sec))), some (.int (nI (fr))), some (.int (am_pd m))]) k54_142 rfl (Nat.le_of_ble_eq_true rfl) (am_pd_dec _) rfl ?_
      refine r_goto k54_145 ?_
      have e9 : R_m1 g kind s body sec (m + 1) J fr = R_m1 g kind s body sec m J fr := by rw [R_m1]; rw [am_ite_t z135]
      rw [e9] at HQ
      exact ih J hT fr (by omega) HQ
    · refine r_iload k54_138 rfl ?_
      refine r_istore (L' := [some (.ref 36), some (.int (nI (g))), some (.int (nI (kind))), some (.int (nI (s))), none, some (.int (nI (body))), some (.int (nI (sec))), some (.int (nI (m))), some (.int (nI (m)))]) k54_140 (Nat.le_of_ble_eq_true rfl) rfl ?_
      refine r_iinc (v := (am_pd m)) (L' := [some (.ref 36), some (.int (nI (g))), some (.int (nI (kind))), some (.int (nI (s))), none, some (.int (nI (body))), some (.int (nI (sec))), some (.int (nI (m))), some (.int (am_pd m))]) k54_142 rfl (Nat.le_of_ble_eq_true rfl) (am_pd_dec _) rfl ?_
      refine r_goto k54_145 ?_
      have e9 : R_m1 g kind s body sec (m + 1) J fr = R_m1 g kind s body sec m J m := by rw [R_m1]; rw [am_ite_f z135]
      rw [e9] at HQ
      exact ih J hT m (by omega) HQ
theorem fl_R_m1 {g : Nat} {kind : Nat} {s : Nat} {body : Nat} {sec : Nat} (q : Nat) (hq : q = q) : ∀ (m : Nat) (J : Nat → Nat → Int32) (fr : Nat), (R_m1 g kind s body sec m J fr).1 q = J q := by
  intro m
  induction m with
  | zero =>
    intro J fr
    rw [R_m1]
    first | done | exact rfl
  | succ m ih =>
    intro J fr
    rw [R_m1]
    refine fr_i1 (fun _ => ?_) (fun _ => ?_)
    · exact ih J fr
    · exact ih J m
theorem R_m1_le {g kind s body sec : Nat} : ∀ m J fr, m ≤ 16 → fr ≤ 16 → (R_m1 g kind s body sec m J fr).2 ≤ 16 ∧ (R_m1 g kind s body sec m J fr).1 = J := by
  intro m
  induction m with
  | zero => intro J fr _ h; rw [R_m1]; exact ⟨h, rfl⟩
  | succ m ih =>
    intro J fr hm h
    rw [R_m1]
    by_cases z : 0 ≤ J 50 m
    · rw [am_ite_t z]; exact ih J fr (by omega) h
    · rw [am_ite_f z]; exact ih J m (by omega) (by omega)
noncomputable def R_m2 (g : Nat) (kind : Nat) (s : Nat) (body : Nat) (sec : Nat) : Nat → Nat → (Nat → Nat → Int32) → Nat → (Nat → Nat → Int32) × Nat
  | 0, k, J, fr => (J, fr)
  | m + 1, k, J, fr => (am_ite ((J 50 k) = (nI g)) (am_ite ((jn J 51 k) = kind) (am_ite ((jn J 52 k) = s) (am_ite ((jn J 53 k) = sec) (R_m2 g kind s body sec m (k + 1) J k) (R_m2 g kind s body sec m (k + 1) J fr)) (R_m2 g kind s body sec m (k + 1) J fr)) (R_m2 g kind s body sec m (k + 1) J fr)) (R_m2 g kind s body sec m (k + 1) J fr))
set_option maxRecDepth 20000 in
theorem l_R_m2 {d : am_D} {h : am_H} {Q : Option Value → am_H → Prop} (hB : am_B h) (g : Nat) (kind : Nat) (s : Nat) (body : Nat) (sec : Nat) (hk9 : kind < 28) (hs9 : s < 28) (hc9 : sec < 28) (hd : 3 ≤ d.1) (hw : 64 ≤ d.2) : ∀ (m k : Nat) (J : Nat → Nat → Int32), am_ty2 J → k + m = 16 → ∀ (fr : Nat), (am_ty2 (R_m2 g kind s body sec m k J fr).1 → am_wp d 54 213 [some (.ref 36), some (.int (nI (g))), some (.int (nI (kind))), some (.int (nI (s))), none, some (.int (nI (body))), some (.int (nI (sec))), some (.int (nI ((R_m2 g kind s body sec m k J fr).2))), none] [] (am_si h (R_m2 g kind s body sec m k J fr).1) Q) → am_wp d 54 151 [some (.ref 36), some (.int (nI (g))), some (.int (nI (kind))), some (.int (nI (s))), none, some (.int (nI (body))), some (.int (nI (sec))), some (.int (nI (fr))), some (.int (nI (k)))] [] (am_si h J) Q := by
  intro m
  induction m with
  | zero =>
    intro k J hT hk fr HQ
    refine r_iload k54_151 rfl ?_
    refine r_pushn (v := nI 16) k54_153 rfl ?_
    refine r_icmpgeN (by omega) (by omega) k54_155 (fun z155 => ?_) (fun z155 => ?_)
    · have e9 : R_m2 g kind s body sec 0 k J fr = (J, fr) := by rw [R_m2]
      rw [e9] at HQ
      exact wp_L (L := [some (.ref 36), some (.int (nI (g))), some (.int (nI (kind))), some (.int (nI (s))), none, some (.int (nI (body))), some (.int (nI (sec))), some (.int (nI (fr))), none]) (⟨Or.inr rfl, Or.inr rfl, Or.inr rfl, Or.inr rfl, Or.inl rfl, Or.inr rfl, Or.inr rfl, Or.inr rfl, Or.inl rfl, True.intro⟩) (HQ hT)
    · exact absurd z155 (by omega)
  | succ m ih =>
    intro k J hT hk fr HQ
    refine r_iload k54_151 rfl ?_
    refine r_pushn (v := nI 16) k54_153 rfl ?_
    refine r_icmpgeN (by omega) (by omega) k54_155 (fun z155 => ?_) (fun z155 => ?_)
    · exact absurd z155 (by omega)
    · refine r_aload k54_158 rfl ?_
      refine j_ref (b := 50) k54_159 hB rfl ?_
      refine r_iload k54_162 rfl ?_
      refine j_ald (n := 16) (j := k) (v := (J 50 k)) k54_164 hB rfl rfl (by omega) rfl ?_
      refine r_iload k54_165 rfl ?_
      refine r_icmpne k54_166 (fun z166 => ?_) (fun z166 => ?_)
      · refine r_iinc (v := (nI (k + 1))) (L' := [some (.ref 36), some (.int (nI (g))), some (.int (nI (kind))), some (.int (nI (s))), none, some (.int (nI (body))), some (.int (nI (sec))), some (.int (nI (fr))), some (.int (nI (k + 1)))]) k54_207 rfl (Nat.le_of_ble_eq_true rfl) (nI_1 _) rfl ?_
        refine r_goto k54_210 ?_
        have e9 : R_m2 g kind s body sec (m + 1) k J fr = R_m2 g kind s body sec m (k + 1) J fr := by rw [R_m2]; rw [am_ite_f z166]
        rw [e9] at HQ
        exact ih (k + 1) J hT (by omega) fr HQ
      · refine r_aload k54_169 rfl ?_
        refine j_ref (b := 51) k54_170 hB rfl ?_
        refine r_iload k54_173 rfl ?_
        have b175 := ty_n hT (q := 51) (B := 4) (by decide) (by decide) k
        refine j_ald (n := 16) (j := k) (v := (nI (jn J 51 k))) k54_175 hB rfl rfl (by omega) b175.1 ?_
        refine r_iload k54_176 rfl ?_
        refine r_icmpneN (by omega) (by omega) k54_177 (fun z177 => ?_) (fun z177 => ?_)
        · refine r_iinc (v := (nI (k + 1))) (L' := [some (.ref 36), some (.int (nI (g))), some (.int (nI (kind))), some (.int (nI (s))), none, some (.int (nI (body))), some (.int (nI (sec))), some (.int (nI (fr))), some (.int (nI (k + 1)))]) k54_207 rfl (Nat.le_of_ble_eq_true rfl) (nI_1 _) rfl ?_
          refine r_goto k54_210 ?_
          have e9 : R_m2 g kind s body sec (m + 1) k J fr = R_m2 g kind s body sec m (k + 1) J fr := by rw [R_m2]; rw [am_ite_t z166, am_ite_f z177]
          rw [e9] at HQ
          exact ih (k + 1) J hT (by omega) fr HQ
        · refine r_aload k54_180 rfl ?_
          refine j_ref (b := 52) k54_181 hB rfl ?_
          refine r_iload k54_184 rfl ?_
          have b186 := ty_n hT (q := 52) (B := 28) (by decide) (by decide) k
          refine j_ald (n := 16) (j := k) (v := (nI (jn J 52 k))) k54_186 hB rfl rfl (by omega) b186.1 ?_
          refine r_iload k54_187 rfl ?_
          refine r_icmpneN (by omega) (by omega) k54_188 (fun z188 => ?_) (fun z188 => ?_)
          · refine r_iinc (v := (nI (k + 1))) (L' := [some (.ref 36), some (.int (nI (g))), some (.int (nI (kind))), some (.int (nI (s))), none, some (.int (nI (body))), some (.int (nI (sec))), some (.int (nI (fr))), some (.int (nI (k + 1)))]) k54_207 rfl (Nat.le_of_ble_eq_true rfl) (nI_1 _) rfl ?_
            refine r_goto k54_210 ?_
            have e9 : R_m2 g kind s body sec (m + 1) k J fr = R_m2 g kind s body sec m (k + 1) J fr := by rw [R_m2]; rw [am_ite_t z166, am_ite_t z177, am_ite_f z188]
            rw [e9] at HQ
            exact ih (k + 1) J hT (by omega) fr HQ
          · refine r_aload k54_191 rfl ?_
            refine j_ref (b := 53) k54_192 hB rfl ?_
            refine r_iload k54_195 rfl ?_
            have b197 := ty_n hT (q := 53) (B := 28) (by decide) (by decide) k
            refine j_ald (n := 16) (j := k) (v := (nI (jn J 53 k))) k54_197 hB rfl rfl (by omega) b197.1 ?_
            refine r_iload k54_198 rfl ?_
            refine r_icmpneN (by omega) (by omega) k54_200 (fun z200 => ?_) (fun z200 => ?_)
            · refine r_iinc (v := (nI (k + 1))) (L' := [some (.ref 36), some (.int (nI (g))), some (.int (nI (kind))), some (.int (nI (s))), none, some (.int (nI (body))), some (.int (nI (sec))), some (.int (nI (fr))), some (.int (nI (k + 1)))]) k54_207 rfl (Nat.le_of_ble_eq_true rfl) (nI_1 _) rfl ?_
              refine r_goto k54_210 ?_
              have e9 : R_m2 g kind s body sec (m + 1) k J fr = R_m2 g kind s body sec m (k + 1) J fr := by rw [R_m2]; rw [am_ite_t z166, am_ite_t z177, am_ite_t z188, am_ite_f z200]
              rw [e9] at HQ
              exact ih (k + 1) J hT (by omega) fr HQ
            · refine r_iload k54_203 rfl ?_
              refine r_istore (L' := [some (.ref 36), some (.int (nI (g))), some (.int (nI (kind))), some (.int (nI (s))), none, some (.int (nI (body))), some (.int (nI (sec))), some (.int (nI (k))), some (.int (nI (k)))]) k54_205 (Nat.le_of_ble_eq_true rfl) rfl ?_
              refine r_iinc (v := (nI (k + 1))) (L' := [some (.ref 36), some (.int (nI (g))), some (.int (nI (kind))), some (.int (nI (s))), none, some (.int (nI (body))), some (.int (nI (sec))), some (.int (nI (k))), some (.int (nI (k + 1)))]) k54_207 rfl (Nat.le_of_ble_eq_true rfl) (nI_1 _) rfl ?_
              refine r_goto k54_210 ?_
              have e9 : R_m2 g kind s body sec (m + 1) k J fr = R_m2 g kind s body sec m (k + 1) J k := by rw [R_m2]; rw [am_ite_t z166, am_ite_t z177, am_ite_t z188, am_ite_t z200]
              rw [e9] at HQ
              exact ih (k + 1) J hT (by omega) k HQ
theorem fl_R_m2 {g : Nat} {kind : Nat} {s : Nat} {body : Nat} {sec : Nat} (q : Nat) (hq : q = q) : ∀ (m k : Nat) (J : Nat → Nat → Int32) (fr : Nat), (R_m2 g kind s body sec m k J fr).1 q = J q := by
  intro m
  induction m with
  | zero =>
    intro k J fr
    rw [R_m2]
    first | done | exact rfl
  | succ m ih =>
    intro k J fr
    rw [R_m2]
    refine fr_i1 (fun _ => ?_) (fun _ => ?_)
    · refine fr_i1 (fun _ => ?_) (fun _ => ?_)
      · refine fr_i1 (fun _ => ?_) (fun _ => ?_)
        · refine fr_i1 (fun _ => ?_) (fun _ => ?_)
          · exact ih (k + 1) J k
          · exact ih (k + 1) J fr
        · exact ih (k + 1) J fr
      · exact ih (k + 1) J fr
    · exact ih (k + 1) J fr
theorem R_m2_le {g kind s body sec : Nat} : ∀ m k J fr, k + m = 16 → fr ≤ 16 → (R_m2 g kind s body sec m k J fr).2 ≤ 16 ∧ (R_m2 g kind s body sec m k J fr).1 = J := by
  intro m
  induction m with
  | zero => intro k J fr _ h; rw [R_m2]; exact ⟨h, rfl⟩
  | succ m ih =>
    intro k J fr hm h
    rw [R_m2]
    by_cases z1 : J 50 k = (nI g)
    · rw [am_ite_t z1]
      by_cases z2 : (jn J 51 k) = kind
      · rw [am_ite_t z2]
        by_cases z3 : (jn J 52 k) = s
        · rw [am_ite_t z3]
          by_cases z4 : (jn J 53 k) = sec
          · rw [am_ite_t z4]; exact ih (k + 1) J k (by omega) (by omega)
          · rw [am_ite_f z4]; exact ih (k + 1) J fr (by omega) h
        · rw [am_ite_f z3]; exact ih (k + 1) J fr (by omega) h
      · rw [am_ite_f z2]; exact ih (k + 1) J fr (by omega) h
    · rw [am_ite_f z1]; exact ih (k + 1) J fr (by omega) h
noncomputable def R_m3 (g : Nat) (kind : Nat) (s : Nat) (body : Nat) (sec : Nat) (fr : Nat) (J : Nat → Nat → Int32) : Int32 × (Nat → Nat → Int32) := (am_ite (fr = 16) ((((-3)), J)) (((nI fr), R_forget (am_u2 (am_u2 (am_u2 (am_u2 (am_u2 J 50 fr (nI g)) 51 fr (nI kind)) 52 fr (nI s)) 53 fr (nI sec)) 54 fr (nI body)) g)))
set_option maxRecDepth 20000 in
theorem l_R_m3 {d : am_D} {h : am_H} {Q : Option Value → am_H → Prop} (hB : am_B h) (g : Nat) (kind : Nat) (s : Nat) (body : Nat) (sec : Nat) (fr : Nat) (h1 : g < 5) (h2 : kind < 4) (h3 : s < 28) (h4 : body < 8) (h5 : sec < 28) (h6 : fr ≤ 16) (hd : 3 ≤ d.1) (hw : 64 ≤ d.2) {J : Nat → Nat → Int32} (hT : am_ty2 J) (HQ : (am_ty2 (R_m3 g kind s body sec fr J).2 → Q (some (.int (R_m3 g kind s body sec fr J).1)) (am_si h (R_m3 g kind s body sec fr J).2))) : am_wp d 54 213 [some (.ref 36), some (.int (nI (g))), some (.int (nI (kind))), some (.int (nI (s))), none, some (.int (nI (body))), some (.int (nI (sec))), some (.int (nI (fr))), none] [] (am_si h J) Q := by
  refine r_iload k54_213 rfl ?_
  refine r_pushn (v := nI 16) k54_215 rfl ?_
  refine r_icmpneN (by omega) (by omega) k54_217 (fun z217 => ?_) (fun z217 => ?_)
  · refine r_aload k54_223 rfl ?_
    refine j_ref (b := 50) k54_224 hB rfl ?_
    refine r_iload k54_227 rfl ?_
    refine r_iload k54_229 rfl ?_
    refine j_ast (n := 16) (j := fr) k54_230 hB rfl rfl (by omega) ?_
    have hT230 : am_ty2 (am_u2 J 50 fr (nI g)) := ty_w hT (tw_m (B := 5) (by decide) (by decide) (by decide) (Or.inr ⟨_, by omega, rfl⟩))
    refine r_aload k54_231 rfl ?_
    refine j_ref (b := 51) k54_232 hB rfl ?_
    refine r_iload k54_235 rfl ?_
    refine r_iload k54_237 rfl ?_
    refine j_ast (n := 16) (j := fr) k54_238 hB rfl rfl (by omega) ?_
    have hT238 : am_ty2 (am_u2 (am_u2 J 50 fr (nI g)) 51 fr (nI kind)) := ty_w hT230 (tw_n (B := 4) (by decide) (by decide) (by decide) (by omega))
    refine r_aload k54_239 rfl ?_
    refine j_ref (b := 52) k54_240 hB rfl ?_
    refine r_iload k54_243 rfl ?_
    refine r_iload k54_245 rfl ?_
    refine j_ast (n := 16) (j := fr) k54_246 hB rfl rfl (by omega) ?_
    have hT246 : am_ty2 (am_u2 (am_u2 (am_u2 J 50 fr (nI g)) 51 fr (nI kind)) 52 fr (nI s)) := ty_w hT238 (tw_n (B := 28) (by decide) (by decide) (by decide) (by omega))
    refine r_aload k54_247 rfl ?_
    refine j_ref (b := 53) k54_248 hB rfl ?_
    refine r_iload k54_251 rfl ?_
    refine r_iload k54_253 rfl ?_
    refine j_ast (n := 16) (j := fr) k54_255 hB rfl rfl (by omega) ?_
    have hT255 : am_ty2 (am_u2 (am_u2 (am_u2 (am_u2 J 50 fr (nI g)) 51 fr (nI kind)) 52 fr (nI s)) 53 fr (nI sec)) := ty_w hT246 (tw_n (B := 28) (by decide) (by decide) (by decide) (by omega))
    refine r_aload k54_256 rfl ?_
    refine j_ref (b := 54) k54_257 hB rfl ?_
    refine r_iload k54_260 rfl ?_
    refine r_iload k54_262 rfl ?_
    refine j_ast (n := 16) (j := fr) k54_264 hB rfl rfl (by omega) ?_
    have hT264 : am_ty2 (am_u2 (am_u2 (am_u2 (am_u2 (am_u2 J 50 fr (nI g)) 51 fr (nI kind)) 52 fr (nI s)) 53 fr (nI sec)) 54 fr (nI body)) := ty_w hT255 (tw_n (B := 8) (by decide) (by decide) (by decide) (by omega))
    refine r_aload k54_265 rfl ?_
    refine r_iload k54_266 rfl ?_
    refine j_call (ml := 3) k54_267 rfl (show 0 < d.1 by omega) (show 19 + 3 ≤ d.2 by omega) ⟨Nat.le_of_ble_eq_true rfl, Nat.le_of_ble_eq_true rfl, am_obB hB rfl, Nat.le_of_ble_eq_true rfl⟩ rfl (rest := []) rfl (s_R_forget hB hT264 g (by omega)) (fun r h1 hq => ?_)
    obtain ⟨rfl, rfl, hT267⟩ := hq
    show am_wp _ _ _ [some (.ref 36), some (.int (nI (g))), some (.int (nI (kind))), some (.int (nI (s))), none, some (.int (nI (body))), some (.int (nI (sec))), some (.int (nI (fr))), none] [] _ _
    refine r_iload k54_270 rfl ?_
    have e9 : R_m3 g kind s body sec fr J = (((nI fr), R_forget (am_u2 (am_u2 (am_u2 (am_u2 (am_u2 J 50 fr (nI g)) 51 fr (nI kind)) 52 fr (nI s)) 53 fr (nI sec)) 54 fr (nI body)) g)) := by rw [R_m3]; rw [am_ite_f z217]
    rw [e9] at HQ
    exact r_iret k54_272 rfl (HQ hT267)
  · refine r_pushn (v := (-3)) k54_220 rfl ?_
    have e9 : R_m3 g kind s body sec fr J = ((((-3)), J)) := by rw [R_m3]; rw [am_ite_t z217]
    rw [e9] at HQ
    exact r_iret k54_222 rfl (HQ hT)
theorem fr_R_m3 {g : Nat} {kind : Nat} {s : Nat} {body : Nat} {sec : Nat} {fr : Nat} {J : Nat → Nat → Int32} (q : Nat) (hq : ¬ q = 50 ∧ ¬ q = 51 ∧ ¬ q = 52 ∧ ¬ q = 53 ∧ ¬ q = 54 ∧ ¬ q = 58) : (R_m3 g kind s body sec fr J).2 q = J q := by
  unfold R_m3
  refine fr_i2 (fun _ => ?_) (fun _ => ?_)
  · exact rfl
  · exact (fr_R_forget q (by omega)).trans ((fr_u (by omega)).trans ((fr_u (by omega)).trans ((fr_u (by omega)).trans ((fr_u (by omega)).trans (fr_u (by omega))))))
noncomputable def R_m0 (g : Nat) (kind : Nat) (s : Nat) (body : Nat) (sec : Nat) (J : Nat → Nat → Int32) : Int32 × (Nat → Nat → Int32) := (R_m3 g kind s body sec ((R_m2 g kind s body sec 16 0 ((R_m1 g kind s body sec 16 J 16).1) ((R_m1 g kind s body sec 16 J 16).2)).2) ((R_m2 g kind s body sec 16 0 ((R_m1 g kind s body sec 16 J 16).1) ((R_m1 g kind s body sec 16 J 16).2)).1))
set_option maxRecDepth 20000 in
theorem l_R_m0 {d : am_D} {h : am_H} {Q : Option Value → am_H → Prop} (hB : am_B h) (g : Nat) (kind : Nat) (s : Nat) (body : Nat) (sec : Nat) (h1 : g < 5) (h2 : kind < 4) (h3 : s < 28) (h4 : body < 8) (h5 : sec < 28) (hd : 3 ≤ d.1) (hw : 64 ≤ d.2) {J : Nat → Nat → Int32} (hT : am_ty2 J) (HQ : (am_ty2 (R_m0 g kind s body sec J).2 → Q (some (.int (R_m0 g kind s body sec J).1)) (am_si h (R_m0 g kind s body sec J).2))) : am_wp d 54 115 [some (.ref 36), some (.int (nI (g))), some (.int (nI (kind))), some (.int (nI (s))), none, some (.int (nI (body))), some (.int (nI (sec))), none, none] [] (am_si h J) Q := by
  refine r_pushn (v := nI 16) k54_115 rfl ?_
  refine r_istore (L' := [some (.ref 36), some (.int (nI (g))), some (.int (nI (kind))), some (.int (nI (s))), none, some (.int (nI (body))), some (.int (nI (sec))), some (.int (nI 16)), none]) k54_117 (Nat.le_of_ble_eq_true rfl) rfl ?_
  refine r_pushn (v := nI 15) k54_119 rfl ?_
  refine r_istore (L' := [some (.ref 36), some (.int (nI (g))), some (.int (nI (kind))), some (.int (nI (s))), none, some (.int (nI (body))), some (.int (nI (sec))), some (.int (nI 16)), some (.int (nI 15))]) k54_121 (Nat.le_of_ble_eq_true rfl) rfl ?_
  rw [show ([some (.ref 36), some (.int (nI (g))), some (.int (nI (kind))), some (.int (nI (s))), none, some (.int (nI (body))), some (.int (nI (sec))), some (.int (nI 16)), some (.int (nI 15))] : am_L) = [some (.ref 36), some (.int (nI (g))), some (.int (nI (kind))), some (.int (nI (s))), none, some (.int (nI (body))), some (.int (nI (sec))), some (.int (nI 16)), some (.int (am_pd 16))] from rfl]
  refine (l_R_m1 hB g kind s body sec hd hw 16 J hT 16 (by omega) (fun hT9R_m1 => ?_))
  have f1 := R_m1_le (g := g) (kind := kind) (s := s) (body := body) (sec := sec) 16 J 16 (by omega) (by omega)
  refine r_pushn (v := nI 0) k54_148 rfl ?_
  refine r_istore (L' := [some (.ref 36), some (.int (nI (g))), some (.int (nI (kind))), some (.int (nI (s))), none, some (.int (nI (body))), some (.int (nI (sec))), some (.int (nI ((R_m1 g kind s body sec 16 J 16).2))), some (.int (nI 0))]) k54_149 (Nat.le_of_ble_eq_true rfl) rfl ?_
  refine (l_R_m2 hB g kind s body sec (by omega) (by omega) (by omega) hd hw 16 0 ((R_m1 g kind s body sec 16 J 16).1) hT9R_m1 (by omega) ((R_m1 g kind s body sec 16 J 16).2) (fun hT9R_m2 => ?_))
  have f2 := R_m2_le (g := g) (kind := kind) (s := s) (body := body) (sec := sec) 16 0 ((R_m1 g kind s body sec 16 J 16).1) ((R_m1 g kind s body sec 16 J 16).2) (by omega) (by omega)
  have e9 : R_m0 g kind s body sec J = (R_m3 g kind s body sec ((R_m2 g kind s body sec 16 0 ((R_m1 g kind s body sec 16 J 16).1) ((R_m1 g kind s body sec 16 J 16).2)).2) ((R_m2 g kind s body sec 16 0 ((R_m1 g kind s body sec 16 J 16).1) ((R_m1 g kind s body sec 16 J 16).2)).1)) := by rw [R_m0] 
  rw [e9] at HQ
  exact (l_R_m3 hB g kind s body sec ((R_m2 g kind s body sec 16 0 ((R_m1 g kind s body sec 16 J 16).1) ((R_m1 g kind s body sec 16 J 16).2)).2) (by omega) (by omega) (by omega) (by omega) (by omega) (by omega) hd hw hT9R_m2 HQ)
theorem fr_R_m0 {g : Nat} {kind : Nat} {s : Nat} {body : Nat} {sec : Nat} {J : Nat → Nat → Int32} (q : Nat) (hq : ¬ q = 50 ∧ ¬ q = 51 ∧ ¬ q = 52 ∧ ¬ q = 53 ∧ ¬ q = 54 ∧ ¬ q = 58) : (R_m0 g kind s body sec J).2 q = J q := by
  unfold R_m0
  exact (fr_R_m3 q (by omega)).trans ((fl_R_m2 q (by omega) _ _ _ _).trans (fl_R_m1 q (by omega) _ _ _))
noncomputable def R_method (J : Nat → Nat → Int32) (g : Int32) (kind : Int32) (s : Int32) (t : Int32) (body : Int32) : Int32 × (Nat → Nat → Int32) := (am_ite (r_is g (nI 0) (nI 4)) (am_ite (r_is kind (nI 0) (nI 3)) (am_ite (r_is body (nI 0) (nI 7)) (am_ite (R_spec J s) (am_ite ((jn J 49 (jx g)) = 2) (am_ite (R_spec J t) (am_ite ((jn J 49 (jx g)) = 0) ((((-2)), J)) (am_ite (R_there J (jx s)) (am_ite (R_there J (jx t)) (R_m0 (jx g) (jx kind) (jx s) (jx body) (jx t) J) ((((-2)), J))) ((((-2)), J)))) ((((-1)), J))) (am_ite ((jn J 49 (jx g)) = 0) ((((-2)), J)) (am_ite (R_there J (jx s)) (R_m0 (jx g) (jx kind) (jx s) (jx body) 0 J) ((((-2)), J))))) ((((-1)), J))) ((((-1)), J))) ((((-1)), J))) ((((-1)), J)))
set_option maxRecDepth 20000 in
theorem s_R_method {d : am_D} {h : am_H} {J : Nat → Nat → Int32} (hB : am_B h) (hT : am_ty2 J) (g : Int32) (kind : Int32) (s : Int32) (t : Int32) (body : Int32) (hd : 3 ≤ d.1) (hw : 64 ≤ d.2) : am_wp d 54 0 [some (.ref 36), some (.int (g)), some (.int (kind)), some (.int (s)), some (.int (t)), some (.int (body)), none, none, none] [] (am_si h J) (fun r h' => r = some (.int (R_method J g kind s t body).1) ∧ h' = am_si h (R_method J g kind s t body).2 ∧ am_ty2 (R_method J g kind s t body).2) := by
  refine r_iload k54_0 rfl ?_
  refine r_pushn (v := nI 0) k54_1 rfl ?_
  refine r_pushn (v := nI 4) k54_2 rfl ?_
  refine j_call (ml := 3) k54_3 rfl (show 0 < d.1 by omega) (show 19 + 3 ≤ d.2 by omega) ⟨Nat.le_of_ble_eq_true rfl, Nat.le_of_ble_eq_true rfl, True.intro, Nat.le_of_ble_eq_true rfl⟩ rfl (rest := []) rfl (s_r_is g (nI 0) (nI 4)) (fun r h1 hq => ?_)
  obtain ⟨rfl, rfl⟩ := hq
  show am_wp _ _ _ [some (.ref 36), some (.int (g)), some (.int (kind)), some (.int (s)), some (.int (t)), some (.int (body)), none, none, none] [.int (am_b (r_is g (nI 0) (nI 4)))] _ _
  refine r_ifeqB k54_6 (fun z6 => ?_) (fun z6 => ?_)
  · refine r_pushn (v := (-1)) k54_56 rfl ?_
    have e9 : R_method J g kind s t body = ((((-1)), J)) := by unfold R_method; rw [am_ite_f z6]
    exact r_iret k54_57 rfl ⟨by rw [e9], by rw [e9], by rw [e9]; exact hT⟩
  · have e_g := jx_eq (by decide) (show w_in _ _ _ from z6)
    rw [show ([some (.ref 36), some (.int (g)), some (.int (kind)), some (.int (s)), some (.int (t)), some (.int (body)), none, none, none] : am_L) = [some (.ref 36), some (.int (nI (jx g))), some (.int (kind)), some (.int (s)), some (.int (t)), some (.int (body)), none, none, none] by rw [← e_g.1]]
    refine r_iload k54_9 rfl ?_
    refine r_pushn (v := nI 0) k54_10 rfl ?_
    refine r_pushn (v := nI 3) k54_11 rfl ?_
    refine j_call (ml := 3) k54_12 rfl (show 0 < d.1 by omega) (show 19 + 3 ≤ d.2 by omega) ⟨Nat.le_of_ble_eq_true rfl, Nat.le_of_ble_eq_true rfl, True.intro, Nat.le_of_ble_eq_true rfl⟩ rfl (rest := []) rfl (s_r_is kind (nI 0) (nI 3)) (fun r h1 hq => ?_)
    obtain ⟨rfl, rfl⟩ := hq
    show am_wp _ _ _ [some (.ref 36), some (.int (nI (jx g))), some (.int (kind)), some (.int (s)), some (.int (t)), some (.int (body)), none, none, none] [.int (am_b (r_is kind (nI 0) (nI 3)))] _ _
    refine r_ifeqB k54_15 (fun z15 => ?_) (fun z15 => ?_)
    · refine r_pushn (v := (-1)) k54_56 rfl ?_
      have e9 : R_method J g kind s t body = ((((-1)), J)) := by unfold R_method; rw [am_ite_t z6, am_ite_f z15]
      exact r_iret k54_57 rfl ⟨by rw [e9], by rw [e9], by rw [e9]; exact hT⟩
    · have e_kind := jx_eq (by decide) (show w_in _ _ _ from z15)
      rw [show ([some (.ref 36), some (.int (nI (jx g))), some (.int (kind)), some (.int (s)), some (.int (t)), some (.int (body)), none, none, none] : am_L) = [some (.ref 36), some (.int (nI (jx g))), some (.int (nI (jx kind))), some (.int (s)), some (.int (t)), some (.int (body)), none, none, none] by rw [← e_kind.1]]
      refine r_iload k54_18 rfl ?_
      refine r_pushn (v := nI 0) k54_20 rfl ?_
      refine r_pushn (v := nI 7) k54_21 rfl ?_
      refine j_call (ml := 3) k54_23 rfl (show 0 < d.1 by omega) (show 19 + 3 ≤ d.2 by omega) ⟨Nat.le_of_ble_eq_true rfl, Nat.le_of_ble_eq_true rfl, True.intro, Nat.le_of_ble_eq_true rfl⟩ rfl (rest := []) rfl (s_r_is body (nI 0) (nI 7)) (fun r h1 hq => ?_)
      obtain ⟨rfl, rfl⟩ := hq
      show am_wp _ _ _ [some (.ref 36), some (.int (nI (jx g))), some (.int (nI (jx kind))), some (.int (s)), some (.int (t)), some (.int (body)), none, none, none] [.int (am_b (r_is body (nI 0) (nI 7)))] _ _
      refine r_ifeqB k54_26 (fun z26 => ?_) (fun z26 => ?_)
      · refine r_pushn (v := (-1)) k54_56 rfl ?_
        have e9 : R_method J g kind s t body = ((((-1)), J)) := by unfold R_method; rw [am_ite_t z6, am_ite_t z15, am_ite_f z26]
        exact r_iret k54_57 rfl ⟨by rw [e9], by rw [e9], by rw [e9]; exact hT⟩
      · have e_body := jx_eq (by decide) (show w_in _ _ _ from z26)
        rw [show ([some (.ref 36), some (.int (nI (jx g))), some (.int (nI (jx kind))), some (.int (s)), some (.int (t)), some (.int (body)), none, none, none] : am_L) = [some (.ref 36), some (.int (nI (jx g))), some (.int (nI (jx kind))), some (.int (s)), some (.int (t)), some (.int (nI (jx body))), none, none, none] by rw [← e_body.1]]
        refine r_aload k54_29 rfl ?_
        refine r_iload k54_30 rfl ?_
        refine j_call (ml := 2) k54_31 rfl (show 0 < d.1 by omega) (show 19 + 2 ≤ d.2 by omega) ⟨Nat.le_of_ble_eq_true rfl, Nat.le_of_ble_eq_true rfl, am_obB hB rfl, Nat.le_of_ble_eq_true rfl⟩ rfl (rest := []) rfl (s_R_spec hB hT s (show 1 ≤ d.1 - 1 by omega) (show 22 ≤ d.2 - 21 by omega)) (fun r h1 hq => ?_)
        obtain ⟨rfl, rfl⟩ := hq
        show am_wp _ _ _ [some (.ref 36), some (.int (nI (jx g))), some (.int (nI (jx kind))), some (.int (s)), some (.int (t)), some (.int (nI (jx body))), none, none, none] [.int (am_b (R_spec J s))] _ _
        refine r_ifeqB k54_34 (fun z34 => ?_) (fun z34 => ?_)
        · refine r_pushn (v := (-1)) k54_56 rfl ?_
          have e9 : R_method J g kind s t body = ((((-1)), J)) := by unfold R_method; rw [am_ite_t z6, am_ite_t z15, am_ite_t z26, am_ite_f z34]
          exact r_iret k54_57 rfl ⟨by rw [e9], by rw [e9], by rw [e9]; exact hT⟩
        · have e_s := R_spec_r z34
          rw [show ([some (.ref 36), some (.int (nI (jx g))), some (.int (nI (jx kind))), some (.int (s)), some (.int (t)), some (.int (nI (jx body))), none, none, none] : am_L) = [some (.ref 36), some (.int (nI (jx g))), some (.int (nI (jx kind))), some (.int (nI (jx s))), some (.int (t)), some (.int (nI (jx body))), none, none, none] by rw [← e_s.1]]
          refine r_aload k54_37 rfl ?_
          refine j_ref (b := 49) k54_38 hB rfl ?_
          refine r_iload k54_41 rfl ?_
          have b42 := ty_n hT (q := 49) (B := 3) (by decide) (by decide) (jx g)
          refine j_ald (n := 5) (j := (jx g)) (v := (nI (jn J 49 (jx g)))) k54_42 hB rfl rfl (by omega) b42.1 ?_
          refine r_pushn (v := nI 2) k54_43 rfl ?_
          refine r_icmpneN (by omega) (by omega) k54_44 (fun z44 => ?_) (fun z44 => ?_)
          · refine r_aload k54_58 rfl ?_
            refine j_ref (b := 49) k54_59 hB rfl ?_
            refine r_iload k54_62 rfl ?_
            have b63 := ty_n hT (q := 49) (B := 3) (by decide) (by decide) (jx g)
            refine j_ald (n := 5) (j := (jx g)) (v := (nI (jn J 49 (jx g)))) k54_63 hB rfl rfl (by omega) b63.1 ?_
            refine r_ifeqN (by omega) k54_64 (fun z64 => ?_) (fun z64 => ?_)
            · refine r_pushn (v := (-2)) k54_94 rfl ?_
              have e9 : R_method J g kind s t body = ((((-2)), J)) := by unfold R_method; rw [am_ite_t z6, am_ite_t z15, am_ite_t z26, am_ite_t z34, am_ite_f z44, am_ite_t z64]
              exact r_iret k54_96 rfl ⟨by rw [e9], by rw [e9], by rw [e9]; exact hT⟩
            · refine r_aload k54_67 rfl ?_
              refine r_iload k54_68 rfl ?_
              refine j_call (ml := 2) k54_69 rfl (show 0 < d.1 by omega) (show 19 + 2 ≤ d.2 by omega) ⟨Nat.le_of_ble_eq_true rfl, Nat.le_of_ble_eq_true rfl, am_obB hB rfl, Nat.le_of_ble_eq_true rfl⟩ rfl (rest := []) rfl (s_R_there hB hT (jx s) (by omega) (show 2 ≤ d.1 - 1 by omega) (show 43 ≤ d.2 - 21 by omega)) (fun r h1 hq => ?_)
              obtain ⟨rfl, rfl⟩ := hq
              show am_wp _ _ _ [some (.ref 36), some (.int (nI (jx g))), some (.int (nI (jx kind))), some (.int (nI (jx s))), some (.int (t)), some (.int (nI (jx body))), none, none, none] [.int (am_b (R_there J (jx s)))] _ _
              refine r_ifeqB k54_72 (fun z72 => ?_) (fun z72 => ?_)
              · refine r_pushn (v := (-2)) k54_94 rfl ?_
                have e9 : R_method J g kind s t body = ((((-2)), J)) := by unfold R_method; rw [am_ite_t z6, am_ite_t z15, am_ite_t z26, am_ite_t z34, am_ite_f z44, am_ite_f z64, am_ite_f z72]
                exact r_iret k54_96 rfl ⟨by rw [e9], by rw [e9], by rw [e9]; exact hT⟩
              · refine r_aload k54_75 rfl ?_
                refine j_ref (b := 49) k54_76 hB rfl ?_
                refine r_iload k54_79 rfl ?_
                have b80 := ty_n hT (q := 49) (B := 3) (by decide) (by decide) (jx g)
                refine j_ald (n := 5) (j := (jx g)) (v := (nI (jn J 49 (jx g)))) k54_80 hB rfl rfl (by omega) b80.1 ?_
                refine r_pushn (v := nI 2) k54_81 rfl ?_
                refine r_icmpneN (by omega) (by omega) k54_82 (fun z82 => ?_) (fun z82 => ?_)
                · refine r_aload k54_97 rfl ?_
                  refine j_ref (b := 49) k54_98 hB rfl ?_
                  refine r_iload k54_101 rfl ?_
                  have b102 := ty_n hT (q := 49) (B := 3) (by decide) (by decide) (jx g)
                  refine j_ald (n := 5) (j := (jx g)) (v := (nI (jn J 49 (jx g)))) k54_102 hB rfl rfl (by omega) b102.1 ?_
                  refine r_pushn (v := nI 2) k54_103 rfl ?_
                  refine r_icmpneN (by omega) (by omega) k54_104 (fun z104 => ?_) (fun z104 => ?_)
                  · refine r_pushn (v := nI 0) k54_112 rfl ?_
                    refine r_istore (L' := [some (.ref 36), some (.int (nI (jx g))), some (.int (nI (jx kind))), some (.int (nI (jx s))), some (.int (t)), some (.int (nI (jx body))), some (.int (nI 0)), none, none]) k54_113 (Nat.le_of_ble_eq_true rfl) rfl ?_
                    have e9 : R_method J g kind s t body = (R_m0 (jx g) (jx kind) (jx s) (jx body) 0 J) := by unfold R_method ; rw [am_ite_t z6, am_ite_t z15, am_ite_t z26, am_ite_t z34, am_ite_f z44, am_ite_f z64, am_ite_t z72]
                    exact wp_L (L := [some (.ref 36), some (.int (nI (jx g))), some (.int (nI (jx kind))), some (.int (nI (jx s))), none, some (.int (nI (jx body))), some (.int (nI 0)), none, none]) (⟨Or.inr rfl, Or.inr rfl, Or.inr rfl, Or.inr rfl, Or.inl rfl, Or.inr rfl, Or.inr rfl, Or.inl rfl, Or.inl rfl, True.intro⟩) (l_R_m0 hB (jx g) (jx kind) (jx s) (jx body) 0 (by omega) (by omega) (by omega) (by omega) (by omega) hd hw hT (fun hT9 => ⟨by rw [e9], by rw [e9], by rw [e9]; exact hT9⟩))
                  · exact absurd z104 z44
                · exact absurd z82 z44
          · refine r_aload k54_47 rfl ?_
            refine r_iload k54_48 rfl ?_
            refine j_call (ml := 2) k54_50 rfl (show 0 < d.1 by omega) (show 19 + 2 ≤ d.2 by omega) ⟨Nat.le_of_ble_eq_true rfl, Nat.le_of_ble_eq_true rfl, am_obB hB rfl, Nat.le_of_ble_eq_true rfl⟩ rfl (rest := []) rfl (s_R_spec hB hT t (show 1 ≤ d.1 - 1 by omega) (show 22 ≤ d.2 - 21 by omega)) (fun r h1 hq => ?_)
            obtain ⟨rfl, rfl⟩ := hq
            show am_wp _ _ _ [some (.ref 36), some (.int (nI (jx g))), some (.int (nI (jx kind))), some (.int (nI (jx s))), some (.int (t)), some (.int (nI (jx body))), none, none, none] [.int (am_b (R_spec J t))] _ _
            refine r_ifneB k54_53 (fun z53 => ?_) (fun z53 => ?_)
            · have e_t := R_spec_r z53
              rw [show ([some (.ref 36), some (.int (nI (jx g))), some (.int (nI (jx kind))), some (.int (nI (jx s))), some (.int (t)), some (.int (nI (jx body))), none, none, none] : am_L) = [some (.ref 36), some (.int (nI (jx g))), some (.int (nI (jx kind))), some (.int (nI (jx s))), some (.int (nI (jx t))), some (.int (nI (jx body))), none, none, none] by rw [← e_t.1]]
              refine r_aload k54_58 rfl ?_
              refine j_ref (b := 49) k54_59 hB rfl ?_
              refine r_iload k54_62 rfl ?_
              have b63 := ty_n hT (q := 49) (B := 3) (by decide) (by decide) (jx g)
              refine j_ald (n := 5) (j := (jx g)) (v := (nI (jn J 49 (jx g)))) k54_63 hB rfl rfl (by omega) b63.1 ?_
              refine r_ifeqN (by omega) k54_64 (fun z64 => ?_) (fun z64 => ?_)
              · refine r_pushn (v := (-2)) k54_94 rfl ?_
                have e9 : R_method J g kind s t body = ((((-2)), J)) := by unfold R_method; rw [am_ite_t z6, am_ite_t z15, am_ite_t z26, am_ite_t z34, am_ite_t z44, am_ite_t z53, am_ite_t z64]
                exact r_iret k54_96 rfl ⟨by rw [e9], by rw [e9], by rw [e9]; exact hT⟩
              · refine r_aload k54_67 rfl ?_
                refine r_iload k54_68 rfl ?_
                refine j_call (ml := 2) k54_69 rfl (show 0 < d.1 by omega) (show 19 + 2 ≤ d.2 by omega) ⟨Nat.le_of_ble_eq_true rfl, Nat.le_of_ble_eq_true rfl, am_obB hB rfl, Nat.le_of_ble_eq_true rfl⟩ rfl (rest := []) rfl (s_R_there hB hT (jx s) (by omega) (show 2 ≤ d.1 - 1 by omega) (show 43 ≤ d.2 - 21 by omega)) (fun r h1 hq => ?_)
                obtain ⟨rfl, rfl⟩ := hq
                show am_wp _ _ _ [some (.ref 36), some (.int (nI (jx g))), some (.int (nI (jx kind))), some (.int (nI (jx s))), some (.int (nI (jx t))), some (.int (nI (jx body))), none, none, none] [.int (am_b (R_there J (jx s)))] _ _
                refine r_ifeqB k54_72 (fun z72 => ?_) (fun z72 => ?_)
                · refine r_pushn (v := (-2)) k54_94 rfl ?_
                  have e9 : R_method J g kind s t body = ((((-2)), J)) := by unfold R_method; rw [am_ite_t z6, am_ite_t z15, am_ite_t z26, am_ite_t z34, am_ite_t z44, am_ite_t z53, am_ite_f z64, am_ite_f z72]
                  exact r_iret k54_96 rfl ⟨by rw [e9], by rw [e9], by rw [e9]; exact hT⟩
                · refine r_aload k54_75 rfl ?_
                  refine j_ref (b := 49) k54_76 hB rfl ?_
                  refine r_iload k54_79 rfl ?_
                  have b80 := ty_n hT (q := 49) (B := 3) (by decide) (by decide) (jx g)
                  refine j_ald (n := 5) (j := (jx g)) (v := (nI (jn J 49 (jx g)))) k54_80 hB rfl rfl (by omega) b80.1 ?_
                  refine r_pushn (v := nI 2) k54_81 rfl ?_
                  refine r_icmpneN (by omega) (by omega) k54_82 (fun z82 => ?_) (fun z82 => ?_)
                  · exact absurd z44 z82
                  · refine r_aload k54_85 rfl ?_
                    refine r_iload k54_86 rfl ?_
                    refine j_call (ml := 2) k54_88 rfl (show 0 < d.1 by omega) (show 19 + 2 ≤ d.2 by omega) ⟨Nat.le_of_ble_eq_true rfl, Nat.le_of_ble_eq_true rfl, am_obB hB rfl, Nat.le_of_ble_eq_true rfl⟩ rfl (rest := []) rfl (s_R_there hB hT (jx t) (by omega) (show 2 ≤ d.1 - 1 by omega) (show 43 ≤ d.2 - 21 by omega)) (fun r h1 hq => ?_)
                    obtain ⟨rfl, rfl⟩ := hq
                    show am_wp _ _ _ [some (.ref 36), some (.int (nI (jx g))), some (.int (nI (jx kind))), some (.int (nI (jx s))), some (.int (nI (jx t))), some (.int (nI (jx body))), none, none, none] [.int (am_b (R_there J (jx t)))] _ _
                    refine r_ifneB k54_91 (fun z91 => ?_) (fun z91 => ?_)
                    · refine r_aload k54_97 rfl ?_
                      refine j_ref (b := 49) k54_98 hB rfl ?_
                      refine r_iload k54_101 rfl ?_
                      have b102 := ty_n hT (q := 49) (B := 3) (by decide) (by decide) (jx g)
                      refine j_ald (n := 5) (j := (jx g)) (v := (nI (jn J 49 (jx g)))) k54_102 hB rfl rfl (by omega) b102.1 ?_
                      refine r_pushn (v := nI 2) k54_103 rfl ?_
                      refine r_icmpneN (by omega) (by omega) k54_104 (fun z104 => ?_) (fun z104 => ?_)
                      · exact absurd z44 z104
                      · refine r_iload k54_107 rfl ?_
                        refine r_goto k54_109 ?_
                        refine r_istore (L' := [some (.ref 36), some (.int (nI (jx g))), some (.int (nI (jx kind))), some (.int (nI (jx s))), some (.int (nI (jx t))), some (.int (nI (jx body))), some (.int (nI (jx t))), none, none]) k54_113 (Nat.le_of_ble_eq_true rfl) rfl ?_
                        have e9 : R_method J g kind s t body = (R_m0 (jx g) (jx kind) (jx s) (jx body) (jx t) J) := by unfold R_method ; rw [am_ite_t z6, am_ite_t z15, am_ite_t z26, am_ite_t z34, am_ite_t z44, am_ite_t z53, am_ite_f z64, am_ite_t z72, am_ite_t z91]
                        exact wp_L (L := [some (.ref 36), some (.int (nI (jx g))), some (.int (nI (jx kind))), some (.int (nI (jx s))), none, some (.int (nI (jx body))), some (.int (nI (jx t))), none, none]) (⟨Or.inr rfl, Or.inr rfl, Or.inr rfl, Or.inr rfl, Or.inl rfl, Or.inr rfl, Or.inr rfl, Or.inl rfl, Or.inl rfl, True.intro⟩) (l_R_m0 hB (jx g) (jx kind) (jx s) (jx body) (jx t) (by omega) (by omega) (by omega) (by omega) (by omega) hd hw hT (fun hT9 => ⟨by rw [e9], by rw [e9], by rw [e9]; exact hT9⟩))
                    · refine r_pushn (v := (-2)) k54_94 rfl ?_
                      have e9 : R_method J g kind s t body = ((((-2)), J)) := by unfold R_method; rw [am_ite_t z6, am_ite_t z15, am_ite_t z26, am_ite_t z34, am_ite_t z44, am_ite_t z53, am_ite_f z64, am_ite_t z72, am_ite_f z91]
                      exact r_iret k54_96 rfl ⟨by rw [e9], by rw [e9], by rw [e9]; exact hT⟩
            · refine r_pushn (v := (-1)) k54_56 rfl ?_
              have e9 : R_method J g kind s t body = ((((-1)), J)) := by unfold R_method; rw [am_ite_t z6, am_ite_t z15, am_ite_t z26, am_ite_t z34, am_ite_t z44, am_ite_f z53]
              exact r_iret k54_57 rfl ⟨by rw [e9], by rw [e9], by rw [e9]; exact hT⟩
theorem fr_R_method {J : Nat → Nat → Int32} {g : Int32} {kind : Int32} {s : Int32} {t : Int32} {body : Int32} (q : Nat) (hq : ¬ q = 50 ∧ ¬ q = 51 ∧ ¬ q = 52 ∧ ¬ q = 53 ∧ ¬ q = 54 ∧ ¬ q = 58) : (R_method J g kind s t body).2 q = J q := by
  unfold R_method
  refine fr_i2 (fun _ => ?_) (fun _ => ?_)
  · refine fr_i2 (fun _ => ?_) (fun _ => ?_)
    · refine fr_i2 (fun _ => ?_) (fun _ => ?_)
      · refine fr_i2 (fun _ => ?_) (fun _ => ?_)
        · refine fr_i2 (fun _ => ?_) (fun _ => ?_)
          · refine fr_i2 (fun _ => ?_) (fun _ => ?_)
            · refine fr_i2 (fun _ => ?_) (fun _ => ?_)
              · exact rfl
              · refine fr_i2 (fun _ => ?_) (fun _ => ?_)
                · refine fr_i2 (fun _ => ?_) (fun _ => ?_)
                  · exact fr_R_m0 q (by omega)
                  · exact rfl
                · exact rfl
            · exact rfl
          · refine fr_i2 (fun _ => ?_) (fun _ => ?_)
            · exact rfl
            · refine fr_i2 (fun _ => ?_) (fun _ => ?_)
              · exact fr_R_m0 q (by omega)
              · exact rfl
        · exact rfl
      · exact rfl
    · exact rfl
  · exact rfl
noncomputable def R_c0 : Nat → Nat → (Nat → Nat → Int32) → Nat → Int32
  | 0, k, J, w => (((nI w)))
  | m + 1, k, J, w => (am_ite ((jn J 37 k) = 0) (R_c0 m (k + 1) J w) (R_c0 m (k + 1) J (w + 1)))
set_option maxRecDepth 20000 in
theorem l_R_c0 {d : am_D} {h : am_H} {Q : Option Value → am_H → Prop} (hB : am_B h) (hd : 1 ≤ d.1) (hw : 22 ≤ d.2) : ∀ (m k : Nat) (J : Nat → Nat → Int32), am_ty2 J → k + m = 12 → ∀ (w : Nat), Q (some (.int (R_c0 m k J w))) (am_si h J) → am_wp d 75 46 [some (.ref 36), none, some (.int (nI (w))), some (.int (nI (k)))] [] (am_si h J) Q := by
  intro m
  induction m with
  | zero =>
    intro k J hT hk w HQ
    refine r_iload k75_46 rfl ?_
    refine r_pushn (v := nI 12) k75_47 rfl ?_
    refine r_icmpgeN (by omega) (by omega) k75_49 (fun z49 => ?_) (fun z49 => ?_)
    · refine r_iload k75_70 rfl ?_
      have e9 : R_c0 0 k J w = (((nI w))) := by rw [R_c0]
      rw [e9] at HQ
      exact r_iret k75_71 rfl HQ
    · exact absurd z49 (by omega)
  | succ m ih =>
    intro k J hT hk w HQ
    refine r_iload k75_46 rfl ?_
    refine r_pushn (v := nI 12) k75_47 rfl ?_
    refine r_icmpgeN (by omega) (by omega) k75_49 (fun z49 => ?_) (fun z49 => ?_)
    · exact absurd z49 (by omega)
    · refine r_aload k75_52 rfl ?_
      refine j_ref (b := 37) k75_53 hB rfl ?_
      refine r_iload k75_56 rfl ?_
      have b57 := ty_n hT (q := 37) (B := 2) (by decide) (by decide) k
      refine j_zld (n := 12) (j := k) (v := (nI (jn J 37 k))) k75_57 hB rfl rfl (by omega) b57.1 ?_
      refine r_ifeqN (by omega) k75_58 (fun z58 => ?_) (fun z58 => ?_)
      · refine r_iinc (v := (nI (k + 1))) (L' := [some (.ref 36), none, some (.int (nI (w))), some (.int (nI (k + 1)))]) k75_64 rfl (Nat.le_of_ble_eq_true rfl) (nI_1 _) rfl ?_
        refine r_goto k75_67 ?_
        have e9 : R_c0 (m + 1) k J w = R_c0 m (k + 1) J w := by rw [R_c0]; rw [am_ite_t z58]
        rw [e9] at HQ
        exact ih (k + 1) J hT (by omega) w HQ
      · refine r_iinc (v := (nI (w + 1))) (L' := [some (.ref 36), none, some (.int (nI (w + 1))), some (.int (nI (k)))]) k75_61 rfl (Nat.le_of_ble_eq_true rfl) (nI_1 _) rfl ?_
        refine r_iinc (v := (nI (k + 1))) (L' := [some (.ref 36), none, some (.int (nI (w + 1))), some (.int (nI (k + 1)))]) k75_64 rfl (Nat.le_of_ble_eq_true rfl) (nI_1 _) rfl ?_
        refine r_goto k75_67 ?_
        have e9 : R_c0 (m + 1) k J w = R_c0 m (k + 1) J (w + 1) := by rw [R_c0]; rw [am_ite_f z58]
        rw [e9] at HQ
        exact ih (k + 1) J hT (by omega) (w + 1) HQ
noncomputable def R_c2 : Nat → Nat → (Nat → Nat → Int32) → Nat → Int32
  | 0, k, J, w => (((nI w)))
  | m + 1, k, J, w => (am_ite ((J 50 k) < 0) (R_c2 m (k + 1) J w) (R_c2 m (k + 1) J (w + 1)))
set_option maxRecDepth 20000 in
theorem l_R_c2 {d : am_D} {h : am_H} {Q : Option Value → am_H → Prop} (hB : am_B h) (hd : 1 ≤ d.1) (hw : 22 ≤ d.2) : ∀ (m k : Nat) (J : Nat → Nat → Int32), am_ty2 J → k + m = 16 → ∀ (w : Nat), Q (some (.int (R_c2 m k J w))) (am_si h J) → am_wp d 75 79 [some (.ref 36), none, some (.int (nI (w))), some (.int (nI (k)))] [] (am_si h J) Q := by
  intro m
  induction m with
  | zero =>
    intro k J hT hk w HQ
    refine r_iload k75_79 rfl ?_
    refine r_pushn (v := nI 16) k75_80 rfl ?_
    refine r_icmpgeN (by omega) (by omega) k75_82 (fun z82 => ?_) (fun z82 => ?_)
    · refine r_iload k75_103 rfl ?_
      have e9 : R_c2 0 k J w = (((nI w))) := by rw [R_c2]
      rw [e9] at HQ
      exact r_iret k75_104 rfl HQ
    · exact absurd z82 (by omega)
  | succ m ih =>
    intro k J hT hk w HQ
    refine r_iload k75_79 rfl ?_
    refine r_pushn (v := nI 16) k75_80 rfl ?_
    refine r_icmpgeN (by omega) (by omega) k75_82 (fun z82 => ?_) (fun z82 => ?_)
    · exact absurd z82 (by omega)
    · refine r_aload k75_85 rfl ?_
      refine j_ref (b := 50) k75_86 hB rfl ?_
      refine r_iload k75_89 rfl ?_
      refine j_ald (n := 16) (j := k) (v := (J 50 k)) k75_90 hB rfl rfl (by omega) rfl ?_
      refine r_iflt k75_91 (fun z91 => ?_) (fun z91 => ?_)
      · refine r_iinc (v := (nI (k + 1))) (L' := [some (.ref 36), none, some (.int (nI (w))), some (.int (nI (k + 1)))]) k75_97 rfl (Nat.le_of_ble_eq_true rfl) (nI_1 _) rfl ?_
        refine r_goto k75_100 ?_
        have e9 : R_c2 (m + 1) k J w = R_c2 m (k + 1) J w := by rw [R_c2]; rw [am_ite_t z91]
        rw [e9] at HQ
        exact ih (k + 1) J hT (by omega) w HQ
      · have c91 := ty_ml hT (q := 50) (B := 5) (by decide) (by decide) k z91
        refine r_iinc (v := (nI (w + 1))) (L' := [some (.ref 36), none, some (.int (nI (w + 1))), some (.int (nI (k)))]) k75_94 rfl (Nat.le_of_ble_eq_true rfl) (nI_1 _) rfl ?_
        refine r_iinc (v := (nI (k + 1))) (L' := [some (.ref 36), none, some (.int (nI (w + 1))), some (.int (nI (k + 1)))]) k75_97 rfl (Nat.le_of_ble_eq_true rfl) (nI_1 _) rfl ?_
        refine r_goto k75_100 ?_
        have e9 : R_c2 (m + 1) k J w = R_c2 m (k + 1) J (w + 1) := by rw [R_c2]; rw [am_ite_f z91]
        rw [e9] at HQ
        exact ih (k + 1) J hT (by omega) (w + 1) HQ
noncomputable def R_c6 : Nat → Nat → (Nat → Nat → Int32) → Nat → Int32
  | 0, k, J, w => (((nI w)))
  | m + 1, k, J, w => (am_ite ((jn J 58 k) = 0) (R_c6 m (k + 1) J w) (R_c6 m (k + 1) J (w + 1)))
set_option maxRecDepth 20000 in
theorem l_R_c6 {d : am_D} {h : am_H} {Q : Option Value → am_H → Prop} (hB : am_B h) (hd : 1 ≤ d.1) (hw : 22 ≤ d.2) : ∀ (m k : Nat) (J : Nat → Nat → Int32), am_ty2 J → k + m = 720 → ∀ (w : Nat), Q (some (.int (R_c6 m k J w))) (am_si h J) → am_wp d 75 107 [some (.ref 36), none, some (.int (nI (w))), some (.int (nI (k)))] [] (am_si h J) Q := by
  intro m
  induction m with
  | zero =>
    intro k J hT hk w HQ
    refine r_iload k75_107 rfl ?_
    refine r_pushn (v := nI 720) k75_108 rfl ?_
    refine r_icmpgeN (by omega) (by omega) k75_111 (fun z111 => ?_) (fun z111 => ?_)
    · refine r_iload k75_132 rfl ?_
      have e9 : R_c6 0 k J w = (((nI w))) := by rw [R_c6]
      rw [e9] at HQ
      exact r_iret k75_133 rfl HQ
    · exact absurd z111 (by omega)
  | succ m ih =>
    intro k J hT hk w HQ
    refine r_iload k75_107 rfl ?_
    refine r_pushn (v := nI 720) k75_108 rfl ?_
    refine r_icmpgeN (by omega) (by omega) k75_111 (fun z111 => ?_) (fun z111 => ?_)
    · exact absurd z111 (by omega)
    · refine r_aload k75_114 rfl ?_
      refine j_ref (b := 58) k75_115 hB rfl ?_
      refine r_iload k75_118 rfl ?_
      have b119 := ty_n hT (q := 58) (B := 2) (by decide) (by decide) k
      refine j_zld (n := 720) (j := k) (v := (nI (jn J 58 k))) k75_119 hB rfl rfl (by omega) b119.1 ?_
      refine r_ifeqN (by omega) k75_120 (fun z120 => ?_) (fun z120 => ?_)
      · refine r_iinc (v := (nI (k + 1))) (L' := [some (.ref 36), none, some (.int (nI (w))), some (.int (nI (k + 1)))]) k75_126 rfl (Nat.le_of_ble_eq_true rfl) (nI_1 _) rfl ?_
        refine r_goto k75_129 ?_
        have e9 : R_c6 (m + 1) k J w = R_c6 m (k + 1) J w := by rw [R_c6]; rw [am_ite_t z120]
        rw [e9] at HQ
        exact ih (k + 1) J hT (by omega) w HQ
      · refine r_iinc (v := (nI (w + 1))) (L' := [some (.ref 36), none, some (.int (nI (w + 1))), some (.int (nI (k)))]) k75_123 rfl (Nat.le_of_ble_eq_true rfl) (nI_1 _) rfl ?_
        refine r_iinc (v := (nI (k + 1))) (L' := [some (.ref 36), none, some (.int (nI (w + 1))), some (.int (nI (k + 1)))]) k75_126 rfl (Nat.le_of_ble_eq_true rfl) (nI_1 _) rfl ?_
        refine r_goto k75_129 ?_
        have e9 : R_c6 (m + 1) k J w = R_c6 m (k + 1) J (w + 1) := by rw [R_c6]; rw [am_ite_f z120]
        rw [e9] at HQ
        exact ih (k + 1) J hT (by omega) (w + 1) HQ
noncomputable def R_count (J : Nat → Nat → Int32) (what : Int32) : Int32 := (am_ite (what = (nI 0)) (R_c0 12 0 J 0) (am_ite (what = (nI 1)) (((nI (jn J 36 37)))) (am_ite (what = (nI 2)) (R_c2 16 0 J 0) (am_ite (what = (nI 6)) (R_c6 720 0 J 0) (am_ite (r_is what (nI 0) (nI 9)) (((J 73 (jx what)))) ((((-1)))))))))
set_option maxRecDepth 20000 in
theorem s_R_count {d : am_D} {h : am_H} {J : Nat → Nat → Int32} (hB : am_B h) (hT : am_ty2 J) (what : Int32) (hd : 1 ≤ d.1) (hw : 22 ≤ d.2) : am_wp d 75 0 [some (.ref 36), some (.int (what)), none, none] [] (am_si h J) (fun r h' => r = some (.int (R_count J what)) ∧ h' = (am_si h J)) := by
  refine r_pushn (v := nI 0) k75_0 rfl ?_
  refine r_istore (L' := [some (.ref 36), some (.int (what)), some (.int (nI 0)), none]) k75_1 (Nat.le_of_ble_eq_true rfl) rfl ?_
  refine r_iload k75_2 rfl ?_
  by_cases y3_0 : what = (nI 0)
  · refine r_tsIn k75_3 (by rw [y3_0]; decide) (t := 44) (by rw [y3_0]; rfl) ?_
    rw [show ([some (.ref 36), some (.int (what)), some (.int (nI 0)), none] : am_L) = [some (.ref 36), some (.int (nI 0)), some (.int (nI 0)), none] by rw [y3_0]]
    refine r_pushn (v := nI 0) k75_44 rfl ?_
    refine r_istore (L' := [some (.ref 36), some (.int (nI 0)), some (.int (nI 0)), some (.int (nI 0))]) k75_45 (Nat.le_of_ble_eq_true rfl) rfl ?_
    have e9 : R_count J what = (R_c0 12 0 J 0) := by unfold R_count; rw [am_ite_t y3_0]
    exact wp_L (L := [some (.ref 36), none, some (.int (nI 0)), some (.int (nI 0))]) (⟨Or.inr rfl, Or.inl rfl, Or.inr rfl, Or.inr rfl, True.intro⟩) (l_R_c0 hB hd hw 12 0 J hT (by omega) 0 ⟨by rw [e9], rfl⟩)
  · by_cases y3_1 : what = (nI 1)
    · refine r_tsIn k75_3 (by rw [y3_1]; decide) (t := 72) (by rw [y3_1]; rfl) ?_
      rw [show ([some (.ref 36), some (.int (what)), some (.int (nI 0)), none] : am_L) = [some (.ref 36), some (.int (nI 1)), some (.int (nI 0)), none] by rw [y3_1]]
      refine r_aload k75_72 rfl ?_
      have b73 := ty_f hT (q := 36) (j := 37) (B := 13) (by decide) (by decide)
      refine j_get (j := 37) (v := (nI (jn J 36 37))) k75_73 hB rfl b73.1 ?_
      have e9 : R_count J what = (((nI (jn J 36 37)))) := by unfold R_count; rw [am_ite_f y3_0, am_ite_t y3_1]
      exact r_iret k75_76 rfl ⟨by rw [e9], rfl⟩
    · by_cases y3_2 : what = (nI 2)
      · refine r_tsIn k75_3 (by rw [y3_2]; decide) (t := 77) (by rw [y3_2]; rfl) ?_
        rw [show ([some (.ref 36), some (.int (what)), some (.int (nI 0)), none] : am_L) = [some (.ref 36), some (.int (nI 2)), some (.int (nI 0)), none] by rw [y3_2]]
        refine r_pushn (v := nI 0) k75_77 rfl ?_
        refine r_istore (L' := [some (.ref 36), some (.int (nI 2)), some (.int (nI 0)), some (.int (nI 0))]) k75_78 (Nat.le_of_ble_eq_true rfl) rfl ?_
        have e9 : R_count J what = (R_c2 16 0 J 0) := by unfold R_count; rw [am_ite_f y3_0, am_ite_f y3_1, am_ite_t y3_2]
        exact wp_L (L := [some (.ref 36), none, some (.int (nI 0)), some (.int (nI 0))]) (⟨Or.inr rfl, Or.inl rfl, Or.inr rfl, Or.inr rfl, True.intro⟩) (l_R_c2 hB hd hw 16 0 J hT (by omega) 0 ⟨by rw [e9], rfl⟩)
      · by_cases y3_6 : what = (nI 6)
        · refine r_tsIn k75_3 (by rw [y3_6]; decide) (t := 105) (by rw [y3_6]; rfl) ?_
          rw [show ([some (.ref 36), some (.int (what)), some (.int (nI 0)), none] : am_L) = [some (.ref 36), some (.int (nI 6)), some (.int (nI 0)), none] by rw [y3_6]]
          refine r_pushn (v := nI 0) k75_105 rfl ?_
          refine r_istore (L' := [some (.ref 36), some (.int (nI 6)), some (.int (nI 0)), some (.int (nI 0))]) k75_106 (Nat.le_of_ble_eq_true rfl) rfl ?_
          have e9 : R_count J what = (R_c6 720 0 J 0) := by unfold R_count; rw [am_ite_f y3_0, am_ite_f y3_1, am_ite_f y3_2, am_ite_t y3_6]
          exact wp_L (L := [some (.ref 36), none, some (.int (nI 0)), some (.int (nI 0))]) (⟨Or.inr rfl, Or.inl rfl, Or.inr rfl, Or.inr rfl, True.intro⟩) (l_R_c6 hB hd hw 720 0 J hT (by omega) 0 ⟨by rw [e9], rfl⟩)
        · refine am_tsd k75_3 (fun v h1 h2 => ?_) (fun v h1 h2 e1 => ?_) ?_
          · rcases (show v = 0 ∨ v = 1 ∨ v = 2 ∨ v = 3 ∨ v = 4 ∨ v = 5 ∨ v = 6 by omega) with rfl | rfl | rfl | rfl | rfl | rfl | rfl
            · exact Or.inl (fun q => y3_0 q)
            · exact Or.inl (fun q => y3_1 q)
            · exact Or.inl (fun q => y3_2 q)
            · exact Or.inr rfl
            · exact Or.inr rfl
            · exact Or.inr rfl
            · exact Or.inl (fun q => y3_6 q)
          · exact rfl
          · refine r_iload k75_134 rfl ?_
            refine r_pushn (v := nI 0) k75_135 rfl ?_
            refine r_pushn (v := nI 9) k75_136 rfl ?_
            refine j_call (ml := 3) k75_138 rfl (show 0 < d.1 by omega) (show 19 + 3 ≤ d.2 by omega) ⟨Nat.le_of_ble_eq_true rfl, Nat.le_of_ble_eq_true rfl, True.intro, Nat.le_of_ble_eq_true rfl⟩ rfl (rest := []) rfl (s_r_is what (nI 0) (nI 9)) (fun r h1 hq => ?_)
            obtain ⟨rfl, rfl⟩ := hq
            show am_wp _ _ _ [some (.ref 36), some (.int (what)), some (.int (nI 0)), none] [.int (am_b (r_is what (nI 0) (nI 9)))] _ _
            refine r_ifeqB k75_141 (fun z141 => ?_) (fun z141 => ?_)
            · refine r_pushn (v := (-1)) k75_153 rfl ?_
              have e9 : R_count J what = ((((-1)))) := by unfold R_count; rw [am_ite_f y3_0, am_ite_f y3_1, am_ite_f y3_2, am_ite_f y3_6, am_ite_f z141]
              exact r_iret k75_154 rfl ⟨by rw [e9], rfl⟩
            · have e_what := jx_eq (by decide) (show w_in _ _ _ from z141)
              rw [show ([some (.ref 36), some (.int (what)), some (.int (nI 0)), none] : am_L) = [some (.ref 36), some (.int (nI (jx what))), some (.int (nI 0)), none] by rw [← e_what.1]]
              refine r_aload k75_144 rfl ?_
              refine j_ref (b := 73) k75_145 hB rfl ?_
              refine r_iload k75_148 rfl ?_
              refine j_ald (n := 10) (j := (jx what)) (v := (J 73 (jx what))) k75_149 hB rfl rfl (by omega) rfl ?_
              refine r_goto k75_150 ?_
              have e9 : R_count J what = (((J 73 (jx what)))) := by unfold R_count; rw [am_ite_f y3_0, am_ite_f y3_1, am_ite_f y3_2, am_ite_f y3_6, am_ite_t z141]
              exact r_iret k75_154 rfl ⟨by rw [e9], rfl⟩
