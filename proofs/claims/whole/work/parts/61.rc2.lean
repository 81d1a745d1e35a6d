/-! The reference: entering a generic. -/
noncomputable def R_e1 (g : Nat) (x : Nat) (y : Nat) : Nat → Nat → (Nat → Nat → Int32) → (Nat → Nat → Int32)
  | 0, k, J => (J)
  | m + 1, k, J => (R_e1 g x y m (k + 1) (am_u2 J 60 ((4 * (jn J 36 38)) + k) (nI 0)))
set_option maxRecDepth 20000 in
theorem l_R_e1 {d : am_D} {h : am_H} {Q : Option Value → am_H → Prop} (hB : am_B h) (g : Nat) (x : Nat) (y : Nat) (hd : 4 ≤ d.1) (hw : 96 ≤ d.2) : ∀ (m k : Nat) (J : Nat → Nat → Int32), am_ty2 J → k + m = 4 → (am_ty2 (R_e1 g x y m k J) → am_wp d 60 33 [some (.ref 36), some (.int (nI (g))), some (.int (nI (x))), some (.int (nI (y))), some (.int (nI 0)), none, none, none] [] (am_si h (R_e1 g x y m k J)) Q) → am_wp d 60 6 [some (.ref 36), some (.int (nI (g))), some (.int (nI (x))), some (.int (nI (y))), some (.int (nI 0)), some (.int (nI (k))), none, none] [] (am_si h J) Q := by
  intro m
  induction m with
  | zero =>
    intro k J hT hk HQ
    refine r_iload k60_6 rfl ?_
    refine r_pushn (v := nI 4) k60_8 rfl ?_
    refine r_icmpgeN (by omega) (by omega) k60_9 (fun z9 => ?_) (fun z9 => ?_)
    · have e9 : R_e1 g x y 0 k J = (J) := by rw [R_e1]
      rw [e9] at HQ
      exact wp_L (L := [some (.ref 36), some (.int (nI (g))), some (.int (nI (x))), some (.int (nI (y))), some (.int (nI 0)), none, none, none]) (⟨Or.inr rfl, Or.inr rfl, Or.inr rfl, Or.inr rfl, Or.inr rfl, Or.inl rfl, Or.inl rfl, Or.inl rfl, True.intro⟩) (HQ hT)
    · exact absurd z9 (by omega)
  | succ m ih =>
    intro k J hT hk HQ
    refine r_iload k60_6 rfl ?_
    refine r_pushn (v := nI 4) k60_8 rfl ?_
    refine r_icmpgeN (by omega) (by omega) k60_9 (fun z9 => ?_) (fun z9 => ?_)
    · exact absurd z9 (by omega)
    · refine r_aload k60_12 rfl ?_
      refine j_ref (b := 60) k60_13 hB rfl ?_
      refine r_pushn (v := nI 4) k60_16 rfl ?_
      refine r_aload k60_17 rfl ?_
      have b18 := ty_f hT (q := 36) (j := 38) (B := 13) (by decide) (by decide)
      refine j_get (j := 38) (v := (nI (jn J 36 38))) k60_18 hB rfl b18.1 ?_
      refine r_imulN k60_21 ?_
      refine r_iload k60_22 rfl ?_
      refine r_iaddN k60_24 ?_
      refine r_pushn (v := nI 0) k60_25 rfl ?_
      refine j_ast (n := 52) (j := ((4 * (jn J 36 38)) + k)) k60_26 hB rfl rfl (by omega) ?_
      have hT26 : am_ty2 (am_u2 J 60 ((4 * (jn J 36 38)) + k) (nI 0)) := ty_w hT (tw_n (B := 17) (by decide) (by decide) (by decide) (by omega))
      refine r_iinc (v := (nI (k + 1))) (L' := [some (.ref 36), some (.int (nI (g))), some (.int (nI (x))), some (.int (nI (y))), some (.int (nI 0)), some (.int (nI (k + 1))), none, none]) k60_27 rfl (Nat.le_of_ble_eq_true rfl) (nI_1 _) rfl ?_
      refine r_goto k60_30 ?_
      have e9 : R_e1 g x y (m + 1) k J = R_e1 g x y m (k + 1) (am_u2 J 60 ((4 * (jn J 36 38)) + k) (nI 0)) := by rw [R_e1]
      rw [e9] at HQ
      exact ih (k + 1) (am_u2 J 60 ((4 * (jn J 36 38)) + k) (nI 0)) hT26 (by omega) HQ
theorem fl_R_e1 {g : Nat} {x : Nat} {y : Nat} (q : Nat) (hq : ¬ q = 60) : ∀ (m k : Nat) (J : Nat → Nat → Int32), (R_e1 g x y m k J) q = J q := by
  intro m
  induction m with
  | zero =>
    intro k J
    rw [R_e1]
    first | done | exact rfl
  | succ m ih =>
    intro k J
    rw [R_e1]
    first | done | exact (ih (k + 1) (am_u2 J 60 ((4 * (jn J 36 38)) + k) (nI 0))).trans (fr_u (by omega))
theorem R_id_60 {w x y row : Nat} : ∀ m J, R_id w x y row m J 60 = J 60 := by
  intro m J
  exact fl_R_id 60 (by omega) m J
theorem R_ins_ml {J : Nat → Nat → Int32} {w x y k : Nat} (hT : am_ty2 J) (h : ∀ kd, kd < 4 → jn J 60 ((4 * (jn J 36 38)) + kd) ≤ k) : ∀ kd, kd < 4 → jn (R_ins J w x y) 60 ((4 * (jn (R_ins J w x y) 36 38)) + kd) ≤ k + 1 := fun kd hk => by
  have b := ty_n hT (q := 51) (B := 4) (by decide) (by decide) w
  have e36 : jn (R_ins J w x y) 36 38 = jn J 36 38 := by unfold jn; rw [fr_R_ins 36 (by omega)]
  rw [e36]
  have g := h kd hk
  have e60 : R_ins J w x y 60 = am_u2 J 60 ((4 * (jn J 36 38)) + (jn J 51 w)) (nI ((jn J 60 ((4 * (jn J 36 38)) + (jn J 51 w))) + 1)) 60 := R_id_60 _ _
  unfold jn at g ⊢
  rw [e60]
  have b2 := ty_n hT (q := 60) (B := 17) (by decide) (by decide) ((4 * (jn J 36 38)) + (jn J 51 w))
  unfold am_u2
  rw [if_pos rfl]
  split
  · rename_i z
    rw [nI_clamp (by omega)]
    have q : kd = jn J 51 w := by unfold jn at *; omega
    have g2 := h (jn J 51 w) b.2
    exact Nat.succ_le_succ g2
  · exact Nat.le_succ_of_le g
theorem R_e1_0 {g x y : Nat} : ∀ m k J, k + m = 4 → (∀ kd, kd < k → jn J 60 ((4 * (jn J 36 38)) + kd) = 0) → ∀ kd, kd < 4 → jn (R_e1 g x y m k J) 60 ((4 * (jn (R_e1 g x y m k J) 36 38)) + kd) ≤ 0 := by
  intro m
  induction m with
  | zero => intro k J hk h kd hd; rw [R_e1]; exact Nat.le_of_eq (h kd (by omega))
  | succ m ih =>
    intro k J hk h kd hd
    rw [R_e1]
    refine ih (k + 1) _ (by omega) (fun i hi => ?_) kd hd
    show ((am_u2 J 60 ((4 * (jn J 36 38)) + k) (nI 0)) 60 ((4 * (jn J 36 38)) + i)).toNatClampNeg = 0
    unfold am_u2
    rw [if_pos rfl]
    split
    · rfl
    · exact h i (by omega)
noncomputable def R_e2 (g : Nat) (x : Nat) (y : Nat) : Nat → Nat → (Nat → Nat → Int32) → Int32 → (Nat → Nat → Int32) × Int32
  | 0, k, J, ow => (J, ow)
  | m + 1, k, J, ow => (am_ite ((J 50 k) = (nI g)) (am_ite (R_suits J (jn J 52 k) x) (am_ite ((jn J 49 g) = 2) (am_ite (R_suits J (jn J 53 k) y) (am_ite (15 < (jn J 52 k)) (R_e2 g x y m (k + 1) (R_ins J k x y) (ow ||| (nI 1))) (am_ite ((jn J 53 k) ≤ 15) (R_e2 g x y m (k + 1) (R_ins J k x y) (ow ||| (nI 0))) (R_e2 g x y m (k + 1) (R_ins J k x y) (ow ||| (nI 1))))) (R_e2 g x y m (k + 1) J ow)) (am_ite (15 < (jn J 52 k)) (R_e2 g x y m (k + 1) (R_ins J k x y) (ow ||| (nI 1))) (R_e2 g x y m (k + 1) (R_ins J k x y) (ow ||| (nI 0))))) (R_e2 g x y m (k + 1) J ow)) (R_e2 g x y m (k + 1) J ow))
set_option maxRecDepth 20000 in
theorem l_R_e2 {d : am_D} {h : am_H} {Q : Option Value → am_H → Prop} (hB : am_B h) (g : Nat) (x : Nat) (y : Nat) (hg : g < 5) (hx : x < 12) (hy : y < 12) (hd : 4 ≤ d.1) (hw : 96 ≤ d.2) : ∀ (m k : Nat) (J : Nat → Nat → Int32), am_ty2 J → k + m = 16 → ∀ (ow : Int32), (∀ kd, kd < 4 → jn J 60 ((4 * (jn J 36 38)) + kd) ≤ k) → (am_ty2 (R_e2 g x y m k J ow).1 → am_wp d 60 155 [some (.ref 36), some (.int (nI (g))), some (.int (nI (x))), some (.int (nI (y))), some (.int ((R_e2 g x y m k J ow).2)), none, none, none] [] (am_si h (R_e2 g x y m k J ow).1) Q) → am_wp d 60 36 [some (.ref 36), some (.int (nI (g))), some (.int (nI (x))), some (.int (nI (y))), some (.int (ow)), some (.int (nI (k))), none, none] [] (am_si h J) Q := by
  intro m
  induction m with
  | zero =>
    intro k J hT hk ow hc0 HQ
    refine r_iload k60_36 rfl ?_
    refine r_pushn (v := nI 16) k60_38 rfl ?_
    refine r_icmpgeN (by omega) (by omega) k60_40 (fun z40 => ?_) (fun z40 => ?_)
    · have e9 : R_e2 g x y 0 k J ow = (J, ow) := by rw [R_e2]
      rw [e9] at HQ
      exact wp_L (L := [some (.ref 36), some (.int (nI (g))), some (.int (nI (x))), some (.int (nI (y))), some (.int (ow)), none, none, none]) (⟨Or.inr rfl, Or.inr rfl, Or.inr rfl, Or.inr rfl, Or.inr rfl, Or.inl rfl, Or.inl rfl, Or.inl rfl, True.intro⟩) (HQ hT)
    · exact absurd z40 (by omega)
  | succ m ih =>
    intro k J hT hk ow hc0 HQ
    refine r_iload k60_36 rfl ?_
    refine r_pushn (v := nI 16) k60_38 rfl ?_
    refine r_icmpgeN (by omega) (by omega) k60_40 (fun z40 => ?_) (fun z40 => ?_)
    · exact absurd z40 (by omega)
    · refine r_aload k60_43 rfl ?_
      refine j_ref (b := 50) k60_44 hB rfl ?_
      refine r_iload k60_47 rfl ?_
      refine j_ald (n := 16) (j := k) (v := (J 50 k)) k60_49 hB rfl rfl (by omega) rfl ?_
      refine r_iload k60_50 rfl ?_
      refine r_icmpne k60_51 (fun z51 => ?_) (fun z51 => ?_)
      · refine r_iinc (v := (nI (k + 1))) (L' := [some (.ref 36), some (.int (nI (g))), some (.int (nI (x))), some (.int (nI (y))), some (.int (ow)), some (.int (nI (k + 1))), none, none]) k60_149 rfl (Nat.le_of_ble_eq_true rfl) (nI_1 _) rfl ?_
        refine r_goto k60_152 ?_
        have e9 : R_e2 g x y (m + 1) k J ow = R_e2 g x y m (k + 1) J ow := by rw [R_e2]; rw [am_ite_f z51]
        rw [e9] at HQ
        exact ih (k + 1) J hT (by omega) ow (fun kd hk => Nat.le_succ_of_le (hc0 kd hk)) HQ
      · refine r_aload k60_54 rfl ?_
        refine r_aload k60_55 rfl ?_
        refine j_ref (b := 52) k60_56 hB rfl ?_
        refine r_iload k60_59 rfl ?_
        have b61 := ty_n hT (q := 52) (B := 28) (by decide) (by decide) k
        refine j_ald (n := 16) (j := k) (v := (nI (jn J 52 k))) k60_61 hB rfl rfl (by omega) b61.1 ?_
        refine r_iload k60_62 rfl ?_
        refine j_call (ml := 3) k60_63 rfl (show 0 < d.1 by omega) (show 19 + 3 ≤ d.2 by omega) ⟨Nat.le_of_ble_eq_true rfl, Nat.le_of_ble_eq_true rfl, am_obB hB rfl, Nat.le_of_ble_eq_true rfl⟩ rfl (rest := []) rfl (s_R_suits hB hT (jn J 52 k) x (by omega) (by omega) (show 2 ≤ d.1 - 1 by omega) (show 45 ≤ d.2 - 22 by omega)) (fun r h1 hq => ?_)
        obtain ⟨rfl, rfl⟩ := hq
        show am_wp _ _ _ [some (.ref 36), some (.int (nI (g))), some (.int (nI (x))), some (.int (nI (y))), some (.int (ow)), some (.int (nI (k))), none, none] [.int (am_b (R_suits J (jn J 52 k) x))] _ _
        refine r_ifeqB k60_66 (fun z66 => ?_) (fun z66 => ?_)
        · refine r_iinc (v := (nI (k + 1))) (L' := [some (.ref 36), some (.int (nI (g))), some (.int (nI (x))), some (.int (nI (y))), some (.int (ow)), some (.int (nI (k + 1))), none, none]) k60_149 rfl (Nat.le_of_ble_eq_true rfl) (nI_1 _) rfl ?_
          refine r_goto k60_152 ?_
          have e9 : R_e2 g x y (m + 1) k J ow = R_e2 g x y m (k + 1) J ow := by rw [R_e2]; rw [am_ite_t z51, am_ite_f z66]
          rw [e9] at HQ
          exact ih (k + 1) J hT (by omega) ow (fun kd hk => Nat.le_succ_of_le (hc0 kd hk)) HQ
        · refine r_aload k60_69 rfl ?_
          refine j_ref (b := 49) k60_70 hB rfl ?_
          refine r_iload k60_73 rfl ?_
          have b74 := ty_n hT (q := 49) (B := 3) (by decide) (by decide) g
          refine j_ald (n := 5) (j := g) (v := (nI (jn J 49 g))) k60_74 hB rfl rfl (by omega) b74.1 ?_
          refine r_pushn (v := nI 2) k60_75 rfl ?_
          refine r_icmpneN (by omega) (by omega) k60_76 (fun z76 => ?_) (fun z76 => ?_)
          · refine r_iload k60_97 rfl ?_
            refine r_aload k60_99 rfl ?_
            refine j_ref (b := 52) k60_100 hB rfl ?_
            refine r_iload k60_103 rfl ?_
            have b105 := ty_n hT (q := 52) (B := 28) (by decide) (by decide) k
            refine j_ald (n := 16) (j := k) (v := (nI (jn J 52 k))) k60_105 hB rfl rfl (by omega) b105.1 ?_
            refine r_pushn (v := nI 15) k60_106 rfl ?_
            refine r_icmpgtN (by omega) (by omega) k60_108 (fun z108 => ?_) (fun z108 => ?_)
            · refine r_pushn (v := nI 1) k60_133 rfl ?_
              refine r_goto k60_134 ?_
              refine r_ior k60_138 ?_
              refine r_istore (L' := [some (.ref 36), some (.int (nI (g))), some (.int (nI (x))), some (.int (nI (y))), some (.int (ow ||| (nI 1))), some (.int (nI (k))), none, none]) k60_139 (Nat.le_of_ble_eq_true rfl) rfl ?_
              refine r_aload k60_141 rfl ?_
              refine r_iload k60_142 rfl ?_
              refine r_iload k60_144 rfl ?_
              refine r_iload k60_145 rfl ?_
              refine j_call (ml := 6) k60_146 rfl (show 0 < d.1 by omega) (show 19 + 6 ≤ d.2 by omega) ⟨Nat.le_of_ble_eq_true rfl, Nat.le_of_ble_eq_true rfl, am_obB hB rfl, Nat.le_of_ble_eq_true rfl⟩ rfl (rest := []) rfl (s_R_ins hB hT k x y (by omega) (by omega) (by omega) (Nat.lt_of_le_of_lt (hc0 _ (ty_n hT (q := 51) (B := 4) (by decide) (by decide) k).2) (by omega)) (by rw [z51]; exact nn_1 (by omega)) (show 3 ≤ d.1 - 1 by omega) (show 71 ≤ d.2 - 25 by omega)) (fun r h1 hq => ?_)
              obtain ⟨rfl, rfl, hT146⟩ := hq
              show am_wp _ _ _ [some (.ref 36), some (.int (nI (g))), some (.int (nI (x))), some (.int (nI (y))), some (.int (ow ||| (nI 1))), some (.int (nI (k))), none, none] [] _ _
              refine r_iinc (v := (nI (k + 1))) (L' := [some (.ref 36), some (.int (nI (g))), some (.int (nI (x))), some (.int (nI (y))), some (.int (ow ||| (nI 1))), some (.int (nI (k + 1))), none, none]) k60_149 rfl (Nat.le_of_ble_eq_true rfl) (nI_1 _) rfl ?_
              refine r_goto k60_152 ?_
              have e9 : R_e2 g x y (m + 1) k J ow = R_e2 g x y m (k + 1) (R_ins J k x y) (ow ||| (nI 1)) := by rw [R_e2]; rw [am_ite_t z51, am_ite_t z66, am_ite_f z76, am_ite_t z108]
              rw [e9] at HQ
              exact ih (k + 1) (R_ins J k x y) hT146 (by omega) (ow ||| (nI 1)) (R_ins_ml hT hc0) HQ
            · refine r_aload k60_111 rfl ?_
              refine j_ref (b := 49) k60_112 hB rfl ?_
              refine r_iload k60_115 rfl ?_
              have b116 := ty_n hT (q := 49) (B := 3) (by decide) (by decide) g
              refine j_ald (n := 5) (j := g) (v := (nI (jn J 49 g))) k60_116 hB rfl rfl (by omega) b116.1 ?_
              refine r_pushn (v := nI 2) k60_117 rfl ?_
              refine r_icmpneN (by omega) (by omega) k60_118 (fun z118 => ?_) (fun z118 => ?_)
              · refine r_pushn (v := nI 0) k60_137 rfl ?_
                refine r_ior k60_138 ?_
                refine r_istore (L' := [some (.ref 36), some (.int (nI (g))), some (.int (nI (x))), some (.int (nI (y))), some (.int (ow ||| (nI 0))), some (.int (nI (k))), none, none]) k60_139 (Nat.le_of_ble_eq_true rfl) rfl ?_
                refine r_aload k60_141 rfl ?_
                refine r_iload k60_142 rfl ?_
                refine r_iload k60_144 rfl ?_
                refine r_iload k60_145 rfl ?_
                refine j_call (ml := 6) k60_146 rfl (show 0 < d.1 by omega) (show 19 + 6 ≤ d.2 by omega) ⟨Nat.le_of_ble_eq_true rfl, Nat.le_of_ble_eq_true rfl, am_obB hB rfl, Nat.le_of_ble_eq_true rfl⟩ rfl (rest := []) rfl (s_R_ins hB hT k x y (by omega) (by omega) (by omega) (Nat.lt_of_le_of_lt (hc0 _ (ty_n hT (q := 51) (B := 4) (by decide) (by decide) k).2) (by omega)) (by rw [z51]; exact nn_1 (by omega)) (show 3 ≤ d.1 - 1 by omega) (show 71 ≤ d.2 - 25 by omega)) (fun r h1 hq => ?_)
                obtain ⟨rfl, rfl, hT146⟩ := hq
                show am_wp _ _ _ [some (.ref 36), some (.int (nI (g))), some (.int (nI (x))), some (.int (nI (y))), some (.int (ow ||| (nI 0))), some (.int (nI (k))), none, none] [] _ _
                refine r_iinc (v := (nI (k + 1))) (L' := [some (.ref 36), some (.int (nI (g))), some (.int (nI (x))), some (.int (nI (y))), some (.int (ow ||| (nI 0))), some (.int (nI (k + 1))), none, none]) k60_149 rfl (Nat.le_of_ble_eq_true rfl) (nI_1 _) rfl ?_
                refine r_goto k60_152 ?_
                have e9 : R_e2 g x y (m + 1) k J ow = R_e2 g x y m (k + 1) (R_ins J k x y) (ow ||| (nI 0)) := by rw [R_e2]; rw [am_ite_t z51, am_ite_t z66, am_ite_f z76, am_ite_f z108]
                rw [e9] at HQ
                exact ih (k + 1) (R_ins J k x y) hT146 (by omega) (ow ||| (nI 0)) (R_ins_ml hT hc0) HQ
              · exact absurd z118 z76
          · refine r_aload k60_79 rfl ?_
            refine r_aload k60_80 rfl ?_
            refine j_ref (b := 53) k60_81 hB rfl ?_
            refine r_iload k60_84 rfl ?_
            have b86 := ty_n hT (q := 53) (B := 28) (by decide) (by decide) k
            refine j_ald (n := 16) (j := k) (v := (nI (jn J 53 k))) k60_86 hB rfl rfl (by omega) b86.1 ?_
            refine r_iload k60_87 rfl ?_
            refine j_call (ml := 3) k60_88 rfl (show 0 < d.1 by omega) (show 19 + 3 ≤ d.2 by omega) ⟨Nat.le_of_ble_eq_true rfl, Nat.le_of_ble_eq_true rfl, am_obB hB rfl, Nat.le_of_ble_eq_true rfl⟩ rfl (rest := []) rfl (s_R_suits hB hT (jn J 53 k) y (by omega) (by omega) (show 2 ≤ d.1 - 1 by omega) (show 45 ≤ d.2 - 22 by omega)) (fun r h1 hq => ?_)
            obtain ⟨rfl, rfl⟩ := hq
            show am_wp _ _ _ [some (.ref 36), some (.int (nI (g))), some (.int (nI (x))), some (.int (nI (y))), some (.int (ow)), some (.int (nI (k))), none, none] [.int (am_b (R_suits J (jn J 53 k) y))] _ _
            refine r_ifneB k60_91 (fun z91 => ?_) (fun z91 => ?_)
            · refine r_iload k60_97 rfl ?_
              refine r_aload k60_99 rfl ?_
              refine j_ref (b := 52) k60_100 hB rfl ?_
              refine r_iload k60_103 rfl ?_
              have b105 := ty_n hT (q := 52) (B := 28) (by decide) (by decide) k
              refine j_ald (n := 16) (j := k) (v := (nI (jn J 52 k))) k60_105 hB rfl rfl (by omega) b105.1 ?_
              refine r_pushn (v := nI 15) k60_106 rfl ?_
              refine r_icmpgtN (by omega) (by omega) k60_108 (fun z108 => ?_) (fun z108 => ?_)
              · refine r_pushn (v := nI 1) k60_133 rfl ?_
                refine r_goto k60_134 ?_
                refine r_ior k60_138 ?_
                refine r_istore (L' := [some (.ref 36), some (.int (nI (g))), some (.int (nI (x))), some (.int (nI (y))), some (.int (ow ||| (nI 1))), some (.int (nI (k))), none, none]) k60_139 (Nat.le_of_ble_eq_true rfl) rfl ?_
                refine r_aload k60_141 rfl ?_
                refine r_iload k60_142 rfl ?_
                refine r_iload k60_144 rfl ?_
                refine r_iload k60_145 rfl ?_
                refine j_call (ml := 6) k60_146 rfl (show 0 < d.1 by omega) (show 19 + 6 ≤ d.2 by omega) ⟨Nat.le_of_ble_eq_true rfl, Nat.le_of_ble_eq_true rfl, am_obB hB rfl, Nat.le_of_ble_eq_true rfl⟩ rfl (rest := []) rfl (s_R_ins hB hT k x y (by omega) (by omega) (by omega) (Nat.lt_of_le_of_lt (hc0 _ (ty_n hT (q := 51) (B := 4) (by decide) (by decide) k).2) (by omega)) (by rw [z51]; exact nn_1 (by omega)) (show 3 ≤ d.1 - 1 by omega) (show 71 ≤ d.2 - 25 by omega)) (fun r h1 hq => ?_)
                obtain ⟨rfl, rfl, hT146⟩ := hq
                show am_wp _ _ _ [some (.ref 36), some (.int (nI (g))), some (.int (nI (x))), some (.int (nI (y))), some (.int (ow ||| (nI 1))), some (.int (nI (k))), none, none] [] _ _
                refine r_iinc (v := (nI (k + 1))) (L' := [some (.ref 36), some (.int (nI (g))), some (.int (nI (x))), some (.int (nI (y))), some (.int (ow ||| (nI 1))), some (.int (nI (k + 1))), none, none]) k60_149 rfl (Nat.le_of_ble_eq_true rfl) (nI_1 _) rfl ?_
                refine r_goto k60_152 ?_
                have e9 : R_e2 g x y (m + 1) k J ow = R_e2 g x y m (k + 1) (R_ins J k x y) (ow ||| (nI 1)) := by rw [R_e2]; rw [am_ite_t z51, am_ite_t z66, am_ite_t z76, am_ite_t z91, am_ite_t z108]
                rw [e9] at HQ
                exact ih (k + 1) (R_ins J k x y) hT146 (by omega) (ow ||| (nI 1)) (R_ins_ml hT hc0) HQ
              · refine r_aload k60_111 rfl ?_
                refine j_ref (b := 49) k60_112 hB rfl ?_
                refine r_iload k60_115 rfl ?_
                have b116 := ty_n hT (q := 49) (B := 3) (by decide) (by decide) g
                refine j_ald (n := 5) (j := g) (v := (nI (jn J 49 g))) k60_116 hB rfl rfl (by omega) b116.1 ?_
                refine r_pushn (v := nI 2) k60_117 rfl ?_
                refine r_icmpneN (by omega) (by omega) k60_118 (fun z118 => ?_) (fun z118 => ?_)
                · exact absurd z76 z118
                · refine r_aload k60_121 rfl ?_
                  refine j_ref (b := 53) k60_122 hB rfl ?_
                  refine r_iload k60_125 rfl ?_
                  have b127 := ty_n hT (q := 53) (B := 28) (by decide) (by decide) k
                  refine j_ald (n := 16) (j := k) (v := (nI (jn J 53 k))) k60_127 hB rfl rfl (by omega) b127.1 ?_
                  refine r_pushn (v := nI 15) k60_128 rfl ?_
                  refine r_icmpleN (by omega) (by omega) k60_130 (fun z130 => ?_) (fun z130 => ?_)
                  · refine r_pushn (v := nI 0) k60_137 rfl ?_
                    refine r_ior k60_138 ?_
                    refine r_istore (L' := [some (.ref 36), some (.int (nI (g))), some (.int (nI (x))), some (.int (nI (y))), some (.int (ow ||| (nI 0))), some (.int (nI (k))), none, none]) k60_139 (Nat.le_of_ble_eq_true rfl) rfl ?_
                    refine r_aload k60_141 rfl ?_
                    refine r_iload k60_142 rfl ?_
                    refine r_iload k60_144 rfl ?_
                    refine r_iload k60_145 rfl ?_
                    refine j_call (ml := 6) k60_146 rfl (show 0 < d.1 by omega) (show 19 + 6 ≤ d.2 by omega) ⟨Nat.le_of_ble_eq_true rfl, Nat.le_of_ble_eq_true rfl, am_obB hB rfl, Nat.le_of_ble_eq_true rfl⟩ rfl (rest := []) rfl (s_R_ins hB hT k x y (by omega) (by omega) (by omega) (Nat.lt_of_le_of_lt (hc0 _ (ty_n hT (q := 51) (B := 4) (by decide) (by decide) k).2) (by omega)) (by rw [z51]; exact nn_1 (by omega)) (show 3 ≤ d.1 - 1 by omega) (show 71 ≤ d.2 - 25 by omega)) (fun r h1 hq => ?_)
                    obtain ⟨rfl, rfl, hT146⟩ := hq
                    show am_wp _ _ _ [some (.ref 36), some (.int (nI (g))), some (.int (nI (x))), some (.int (nI (y))), some (.int (ow ||| (nI 0))), some (.int (nI (k))), none, none] [] _ _
                    refine r_iinc (v := (nI (k + 1))) (L' := [some (.ref 36), some (.int (nI (g))), some (.int (nI (x))), some (.int (nI (y))), some (.int (ow ||| (nI 0))), some (.int (nI (k + 1))), none, none]) k60_149 rfl (Nat.le_of_ble_eq_true rfl) (nI_1 _) rfl ?_
                    refine r_goto k60_152 ?_
                    have e9 : R_e2 g x y (m + 1) k J ow = R_e2 g x y m (k + 1) (R_ins J k x y) (ow ||| (nI 0)) := by rw [R_e2]; rw [am_ite_t z51, am_ite_t z66, am_ite_t z76, am_ite_t z91, am_ite_f z108, am_ite_t z130]
                    rw [e9] at HQ
                    exact ih (k + 1) (R_ins J k x y) hT146 (by omega) (ow ||| (nI 0)) (R_ins_ml hT hc0) HQ
                  · refine r_pushn (v := nI 1) k60_133 rfl ?_
                    refine r_goto k60_134 ?_
                    refine r_ior k60_138 ?_
                    refine r_istore (L' := [some (.ref 36), some (.int (nI (g))), some (.int (nI (x))), some (.int (nI (y))), some (.int (ow ||| (nI 1))), some (.int (nI (k))), none, none]) k60_139 (Nat.le_of_ble_eq_true rfl) rfl ?_
                    refine r_aload k60_141 rfl ?_
                    refine r_iload k60_142 rfl ?_
                    refine r_iload k60_144 rfl ?_
                    refine r_iload k60_145 rfl ?_
                    refine j_call (ml := 6) k60_146 rfl (show 0 < d.1 by omega) (show 19 + 6 ≤ d.2 by omega) ⟨Nat.le_of_ble_eq_true rfl, Nat.le_of_ble_eq_true rfl, am_obB hB rfl, Nat.le_of_ble_eq_true rfl⟩ rfl (rest := []) rfl (s_R_ins hB hT k x y (by omega) (by omega) (by omega) (Nat.lt_of_le_of_lt (hc0 _ (ty_n hT (q := 51) (B := 4) (by decide) (by decide) k).2) (by omega)) (by rw [z51]; exact nn_1 (by omega)) (show 3 ≤ d.1 - 1 by omega) (show 71 ≤ d.2 - 25 by omega)) (fun r h1 hq => ?_)
                    obtain ⟨rfl, rfl, hT146⟩ := hq
                    show am_wp _ _ _ [some (.ref 36), some (.int (nI (g))), some (.int (nI (x))), some (.int (nI (y))), some (.int (ow ||| (nI 1))), some (.int (nI (k))), none, none] [] _ _
                    refine r_iinc (v := (nI (k + 1))) (L' := [some (.ref 36), some (.int (nI (g))), some (.int (nI (x))), some (.int (nI (y))), some (.int (ow ||| (nI 1))), some (.int (nI (k + 1))), none, none]) k60_149 rfl (Nat.le_of_ble_eq_true rfl) (nI_1 _) rfl ?_
                    refine r_goto k60_152 ?_
                    have e9 : R_e2 g x y (m + 1) k J ow = R_e2 g x y m (k + 1) (R_ins J k x y) (ow ||| (nI 1)) := by rw [R_e2]; rw [am_ite_t z51, am_ite_t z66, am_ite_t z76, am_ite_t z91, am_ite_f z108, am_ite_f z130]
                    rw [e9] at HQ
                    exact ih (k + 1) (R_ins J k x y) hT146 (by omega) (ow ||| (nI 1)) (R_ins_ml hT hc0) HQ
            · refine r_goto k60_94 ?_
              refine r_iinc (v := (nI (k + 1))) (L' := [some (.ref 36), some (.int (nI (g))), some (.int (nI (x))), some (.int (nI (y))), some (.int (ow)), some (.int (nI (k + 1))), none, none]) k60_149 rfl (Nat.le_of_ble_eq_true rfl) (nI_1 _) rfl ?_
              refine r_goto k60_152 ?_
              have e9 : R_e2 g x y (m + 1) k J ow = R_e2 g x y m (k + 1) J ow := by rw [R_e2]; rw [am_ite_t z51, am_ite_t z66, am_ite_t z76, am_ite_f z91]
              rw [e9] at HQ
              exact ih (k + 1) J hT (by omega) ow (fun kd hk => Nat.le_succ_of_le (hc0 kd hk)) HQ
theorem fl_R_e2 {g : Nat} {x : Nat} {y : Nat} (q : Nat) (hq : ¬ q = 59 ∧ ¬ q = 60) : ∀ (m k : Nat) (J : Nat → Nat → Int32) (ow : Int32), (R_e2 g x y m k J ow).1 q = J q := by
  intro m
  induction m with
  | zero =>
    intro k J ow
    rw [R_e2]
    first | done | exact rfl
  | succ m ih =>
    intro k J ow
    rw [R_e2]
    refine fr_i1 (fun _ => ?_) (fun _ => ?_)
    · refine fr_i1 (fun _ => ?_) (fun _ => ?_)
      · refine fr_i1 (fun _ => ?_) (fun _ => ?_)
        · refine fr_i1 (fun _ => ?_) (fun _ => ?_)
          · refine fr_i1 (fun _ => ?_) (fun _ => ?_)
            · exact (ih (k + 1) (R_ins J k x y) (ow ||| (nI 1))).trans (fr_R_ins q (by omega))
            · refine fr_i1 (fun _ => ?_) (fun _ => ?_)
              · exact (ih (k + 1) (R_ins J k x y) (ow ||| (nI 0))).trans (fr_R_ins q (by omega))
              · exact (ih (k + 1) (R_ins J k x y) (ow ||| (nI 1))).trans (fr_R_ins q (by omega))
          · exact ih (k + 1) J ow
        · refine fr_i1 (fun _ => ?_) (fun _ => ?_)
          · exact (ih (k + 1) (R_ins J k x y) (ow ||| (nI 1))).trans (fr_R_ins q (by omega))
          · exact (ih (k + 1) (R_ins J k x y) (ow ||| (nI 0))).trans (fr_R_ins q (by omega))
      · exact ih (k + 1) J ow
    · exact ih (k + 1) J ow
noncomputable def R_e3 (g : Nat) (x : Nat) (y : Nat) : Nat → Nat → (Nat → Nat → Int32) → Nat → Nat
  | 0, k, J, nn => (nn)
  | m + 1, k, J, nn => (R_e3 g x y m (k + 1) J (nn + (jn J 60 ((4 * (jn J 36 38)) + k))))
set_option maxRecDepth 20000 in
theorem l_R_e3 {d : am_D} {h : am_H} {Q : Option Value → am_H → Prop} (hB : am_B h) (g : Nat) (x : Nat) (y : Nat) (hd : 4 ≤ d.1) (hw : 96 ≤ d.2) : ∀ (m k : Nat) (J : Nat → Nat → Int32), am_ty2 J → k + m = 4 → ∀ (nn : Nat), (am_wp d 60 268 [some (.ref 36), some (.int (nI (g))), some (.int (nI (x))), some (.int (nI (y))), none, none, some (.int (nI ((R_e3 g x y m k J nn)))), none] [] (am_si h J) Q) → am_wp d 60 237 [some (.ref 36), some (.int (nI (g))), some (.int (nI (x))), some (.int (nI (y))), none, none, some (.int (nI (nn))), some (.int (nI (k)))] [] (am_si h J) Q := by
  intro m
  induction m with
  | zero =>
    intro k J hT hk nn HQ
    refine r_iload k60_237 rfl ?_
    refine r_pushn (v := nI 4) k60_239 rfl ?_
    refine r_icmpgeN (by omega) (by omega) k60_240 (fun z240 => ?_) (fun z240 => ?_)
    · have e9 : R_e3 g x y 0 k J nn = (nn) := by rw [R_e3]
      rw [e9] at HQ
      exact wp_L (L := [some (.ref 36), some (.int (nI (g))), some (.int (nI (x))), some (.int (nI (y))), none, none, some (.int (nI (nn))), none]) (⟨Or.inr rfl, Or.inr rfl, Or.inr rfl, Or.inr rfl, Or.inl rfl, Or.inl rfl, Or.inr rfl, Or.inl rfl, True.intro⟩) (HQ)
    · exact absurd z240 (by omega)
  | succ m ih =>
    intro k J hT hk nn HQ
    refine r_iload k60_237 rfl ?_
    refine r_pushn (v := nI 4) k60_239 rfl ?_
    refine r_icmpgeN (by omega) (by omega) k60_240 (fun z240 => ?_) (fun z240 => ?_)
    · exact absurd z240 (by omega)
    · refine r_iload k60_243 rfl ?_
      refine r_aload k60_245 rfl ?_
      refine j_ref (b := 60) k60_246 hB rfl ?_
      refine r_pushn (v := nI 4) k60_249 rfl ?_
      refine r_aload k60_250 rfl ?_
      have b251 := ty_f hT (q := 36) (j := 38) (B := 13) (by decide) (by decide)
      refine j_get (j := 38) (v := (nI (jn J 36 38))) k60_251 hB rfl b251.1 ?_
      refine r_imulN k60_254 ?_
      refine r_iload k60_255 rfl ?_
      refine r_iaddN k60_257 ?_
      have b258 := ty_n hT (q := 60) (B := 17) (by decide) (by decide) ((4 * (jn J 36 38)) + k)
      refine j_ald (n := 52) (j := ((4 * (jn J 36 38)) + k)) (v := (nI (jn J 60 ((4 * (jn J 36 38)) + k)))) k60_258 hB rfl rfl (by omega) b258.1 ?_
      refine r_iaddN k60_259 ?_
      refine r_istore (L' := [some (.ref 36), some (.int (nI (g))), some (.int (nI (x))), some (.int (nI (y))), none, none, some (.int (nI (nn + (jn J 60 ((4 * (jn J 36 38)) + k))))), some (.int (nI (k)))]) k60_260 (Nat.le_of_ble_eq_true rfl) rfl ?_
      refine r_iinc (v := (nI (k + 1))) (L' := [some (.ref 36), some (.int (nI (g))), some (.int (nI (x))), some (.int (nI (y))), none, none, some (.int (nI (nn + (jn J 60 ((4 * (jn J 36 38)) + k))))), some (.int (nI (k + 1)))]) k60_262 rfl (Nat.le_of_ble_eq_true rfl) (nI_1 _) rfl ?_
      refine r_goto k60_265 ?_
      have e9 : R_e3 g x y (m + 1) k J nn = R_e3 g x y m (k + 1) J (nn + (jn J 60 ((4 * (jn J 36 38)) + k))) := by rw [R_e3]
      rw [e9] at HQ
      exact ih (k + 1) J hT (by omega) (nn + (jn J 60 ((4 * (jn J 36 38)) + k))) HQ
theorem R_e3_le {J : Nat → Nat → Int32} (hT : am_ty2 J) {g x y : Nat} : ∀ m k nn, R_e3 g x y m k J nn ≤ nn + 16 * m := by
  intro m
  induction m with
  | zero => intro k nn; rw [R_e3]; omega
  | succ m ih =>
    intro k nn
    rw [R_e3]
    have b := ty_n hT (q := 60) (B := 17) (by decide) (by decide) ((4 * (jn J 36 38)) + k)
    have g := ih (k + 1) (nn + (jn J 60 ((4 * (jn J 36 38)) + k)))
    omega
noncomputable def R_e9 (g : Nat) (x : Nat) (y : Nat) (ow : Int32) (J : Nat → Nat → Int32) : Int32 × (Nat → Nat → Int32) := (am_ite ((jn J 49 g) = 2) (am_ite (ow = 0) (am_ite ((jn J 58 (((144 * g) + (12 * (jn J 45 x))) + (jn J 45 y))) = 0) (am_ite (((R_e3 g x y 4 0 (am_u2 (am_u2 J 73 5 ((J 73 5) + (nI 1))) 58 (((144 * g) + (12 * (jn J 45 x))) + (jn J 45 y)) (nI 1)) 0)) = 0) (((nI 0), am_u2 (am_u2 (am_u2 J 73 5 ((J 73 5) + (nI 1))) 58 (((144 * g) + (12 * (jn J 45 x))) + (jn J 45 y)) (nI 1)) 36 40 ((-8)))) (am_ite ((jn J 60 (4 * (jn J 36 38))) = 0) (((nI 0), am_u2 (am_u2 (am_u2 J 73 5 ((J 73 5) + (nI 1))) 58 (((144 * g) + (12 * (jn J 45 x))) + (jn J 45 y)) (nI 1)) 36 40 ((-9)))) (((nI 1), R_begin (am_u2 (am_u2 (am_u2 (am_u2 (am_u2 (am_u2 J 73 5 ((J 73 5) + (nI 1))) 58 (((144 * g) + (12 * (jn J 45 x))) + (jn J 45 y)) (nI 1)) 61 (jn J 36 38) (nI x)) 62 (jn J 36 38) (nI y)) 63 (jn J 36 38) (nI g)) 36 38 (nI ((jn J 36 38) + 1))) 3 0)))) (am_ite (((R_e3 g x y 4 0 (am_u2 J 58 (((144 * g) + (12 * (jn J 45 x))) + (jn J 45 y)) (nI 1)) 0)) = 0) (((nI 0), am_u2 (am_u2 J 58 (((144 * g) + (12 * (jn J 45 x))) + (jn J 45 y)) (nI 1)) 36 40 ((-8)))) (am_ite ((jn J 60 (4 * (jn J 36 38))) = 0) (((nI 0), am_u2 (am_u2 J 58 (((144 * g) + (12 * (jn J 45 x))) + (jn J 45 y)) (nI 1)) 36 40 ((-9)))) (((nI 1), R_begin (am_u2 (am_u2 (am_u2 (am_u2 (am_u2 J 58 (((144 * g) + (12 * (jn J 45 x))) + (jn J 45 y)) (nI 1)) 61 (jn J 36 38) (nI x)) 62 (jn J 36 38) (nI y)) 63 (jn J 36 38) (nI g)) 36 38 (nI ((jn J 36 38) + 1))) 3 0))))) (am_ite (((R_e3 g x y 4 0 (am_u2 J 73 5 ((J 73 5) + (nI 1))) 0)) = 0) (((nI 0), am_u2 (am_u2 J 73 5 ((J 73 5) + (nI 1))) 36 40 ((-8)))) (am_ite ((jn J 60 (4 * (jn J 36 38))) = 0) (((nI 0), am_u2 (am_u2 J 73 5 ((J 73 5) + (nI 1))) 36 40 ((-9)))) (((nI 1), R_begin (am_u2 (am_u2 (am_u2 (am_u2 (am_u2 J 73 5 ((J 73 5) + (nI 1))) 61 (jn J 36 38) (nI x)) 62 (jn J 36 38) (nI y)) 63 (jn J 36 38) (nI g)) 36 38 (nI ((jn J 36 38) + 1))) 3 0))))) (am_ite (ow = 0) (am_ite ((jn J 58 (((144 * g) + (12 * (jn J 45 x))) + 0)) = 0) (am_ite (((R_e3 g x y 4 0 (am_u2 (am_u2 J 73 5 ((J 73 5) + (nI 1))) 58 (((144 * g) + (12 * (jn J 45 x))) + 0) (nI 1)) 0)) = 0) (((nI 0), am_u2 (am_u2 (am_u2 J 73 5 ((J 73 5) + (nI 1))) 58 (((144 * g) + (12 * (jn J 45 x))) + 0) (nI 1)) 36 40 ((-8)))) (am_ite ((jn J 60 (4 * (jn J 36 38))) = 0) (((nI 0), am_u2 (am_u2 (am_u2 J 73 5 ((J 73 5) + (nI 1))) 58 (((144 * g) + (12 * (jn J 45 x))) + 0) (nI 1)) 36 40 ((-9)))) (((nI 1), R_begin (am_u2 (am_u2 (am_u2 (am_u2 (am_u2 (am_u2 J 73 5 ((J 73 5) + (nI 1))) 58 (((144 * g) + (12 * (jn J 45 x))) + 0) (nI 1)) 61 (jn J 36 38) (nI x)) 62 (jn J 36 38) (nI y)) 63 (jn J 36 38) (nI g)) 36 38 (nI ((jn J 36 38) + 1))) 3 0)))) (am_ite (((R_e3 g x y 4 0 (am_u2 J 58 (((144 * g) + (12 * (jn J 45 x))) + 0) (nI 1)) 0)) = 0) (((nI 0), am_u2 (am_u2 J 58 (((144 * g) + (12 * (jn J 45 x))) + 0) (nI 1)) 36 40 ((-8)))) (am_ite ((jn J 60 (4 * (jn J 36 38))) = 0) (((nI 0), am_u2 (am_u2 J 58 (((144 * g) + (12 * (jn J 45 x))) + 0) (nI 1)) 36 40 ((-9)))) (((nI 1), R_begin (am_u2 (am_u2 (am_u2 (am_u2 (am_u2 J 58 (((144 * g) + (12 * (jn J 45 x))) + 0) (nI 1)) 61 (jn J 36 38) (nI x)) 62 (jn J 36 38) (nI y)) 63 (jn J 36 38) (nI g)) 36 38 (nI ((jn J 36 38) + 1))) 3 0))))) (am_ite (((R_e3 g x y 4 0 (am_u2 J 73 5 ((J 73 5) + (nI 1))) 0)) = 0) (((nI 0), am_u2 (am_u2 J 73 5 ((J 73 5) + (nI 1))) 36 40 ((-8)))) (am_ite ((jn J 60 (4 * (jn J 36 38))) = 0) (((nI 0), am_u2 (am_u2 J 73 5 ((J 73 5) + (nI 1))) 36 40 ((-9)))) (((nI 1), R_begin (am_u2 (am_u2 (am_u2 (am_u2 (am_u2 J 73 5 ((J 73 5) + (nI 1))) 61 (jn J 36 38) (nI x)) 62 (jn J 36 38) (nI y)) 63 (jn J 36 38) (nI g)) 36 38 (nI ((jn J 36 38) + 1))) 3 0))))))
set_option maxRecDepth 20000 in
theorem l_R_e9 {d : am_D} {h : am_H} {Q : Option Value → am_H → Prop} (hB : am_B h) (g : Nat) (x : Nat) (y : Nat) (ow : Int32) (hg : g < 5) (hx : x < 12) (hy : y < 12) (hd : 4 ≤ d.1) (hw : 96 ≤ d.2) {J : Nat → Nat → Int32} (hT : am_ty2 J) (hl12 : jn J 36 38 < 12) (ht : jn J 36 39 < 320) (HQ : (am_ty2 (R_e9 g x y ow J).2 → Q (some (.int (R_e9 g x y ow J).1)) (am_si h (R_e9 g x y ow J).2))) : am_wp d 60 155 [some (.ref 36), some (.int (nI (g))), some (.int (nI (x))), some (.int (nI (y))), some (.int (ow)), none, none, none] [] (am_si h J) Q := by
  refine r_pushn (v := nI 144) k60_155 rfl ?_
  refine r_iload k60_158 rfl ?_
  refine r_imulN k60_159 ?_
  refine r_pushn (v := nI 12) k60_160 rfl ?_
  refine r_aload k60_162 rfl ?_
  refine j_ref (b := 45) k60_163 hB rfl ?_
  refine r_iload k60_166 rfl ?_
  have b167 := ty_n hT (q := 45) (B := 12) (by decide) (by decide) x
  refine j_ald (n := 12) (j := x) (v := (nI (jn J 45 x))) k60_167 hB rfl rfl (by omega) b167.1 ?_
  refine r_imulN k60_168 ?_
  refine r_iaddN k60_169 ?_
  refine r_aload k60_170 rfl ?_
  refine j_ref (b := 49) k60_171 hB rfl ?_
  refine r_iload k60_174 rfl ?_
  have b175 := ty_n hT (q := 49) (B := 3) (by decide) (by decide) g
  refine j_ald (n := 5) (j := g) (v := (nI (jn J 49 g))) k60_175 hB rfl rfl (by omega) b175.1 ?_
  refine r_pushn (v := nI 2) k60_176 rfl ?_
  refine r_icmpneN (by omega) (by omega) k60_177 (fun z177 => ?_) (fun z177 => ?_)
  · refine r_pushn (v := nI 0) k60_189 rfl ?_
    refine r_iaddN k60_190 ?_
    refine r_istore (L' := [some (.ref 36), some (.int (nI (g))), some (.int (nI (x))), some (.int (nI (y))), some (.int (ow)), some (.int (nI (((144 * g) + (12 * (jn J 45 x))) + 0))), none, none]) k60_191 (Nat.le_of_ble_eq_true rfl) rfl ?_
    refine r_pushn (v := nI 0) k60_193 rfl ?_
    refine r_istore (L' := [some (.ref 36), some (.int (nI (g))), some (.int (nI (x))), some (.int (nI (y))), some (.int (ow)), some (.int (nI (((144 * g) + (12 * (jn J 45 x))) + 0))), some (.int (nI 0)), none]) k60_194 (Nat.le_of_ble_eq_true rfl) rfl ?_
    refine r_iload k60_196 rfl ?_
    refine r_ifne k60_198 (fun z198 => ?_) (fun z198 => ?_)
    · refine r_aload k60_211 rfl ?_
      refine j_ref (b := 73) k60_212 hB rfl ?_
      refine r_pushn (v := nI 5) k60_215 rfl ?_
      refine r_dup2 rfl rfl k60_216 ?_
      refine j_ald (n := 10) (j := 5) (v := (J 73 5)) k60_217 hB rfl rfl (by omega) rfl ?_
      refine r_pushn (v := nI 1) k60_218 rfl ?_
      refine r_iadd k60_219 ?_
      refine j_ast (n := 10) (j := 5) k60_220 hB rfl rfl (by omega) ?_
      have hT220 : am_ty2 (am_u2 J 73 5 ((J 73 5) + (nI 1))) := ty_w hT (tw_a (by decide) (by decide) (by decide))
      refine r_iload k60_221 rfl ?_
      refine r_ifne k60_223 (fun z223 => ?_) (fun z223 => ?_)
      · refine r_pushn (v := nI 0) k60_234 rfl ?_
        refine r_istore (L' := [some (.ref 36), some (.int (nI (g))), some (.int (nI (x))), some (.int (nI (y))), some (.int (ow)), some (.int (nI (((144 * g) + (12 * (jn J 45 x))) + 0))), some (.int (nI 0)), some (.int (nI 0))]) k60_235 (Nat.le_of_ble_eq_true rfl) rfl ?_
        refine wp_L (L := [some (.ref 36), some (.int (nI (g))), some (.int (nI (x))), some (.int (nI (y))), none, none, some (.int (nI 0)), some (.int (nI 0))]) (⟨Or.inr rfl, Or.inr rfl, Or.inr rfl, Or.inr rfl, Or.inl rfl, Or.inl rfl, Or.inr rfl, Or.inr rfl, True.intro⟩) (l_R_e3 hB g x y hd hw 4 0 (am_u2 J 73 5 ((J 73 5) + (nI 1))) hT220 (by omega) 0 ?_)
        have f9 := R_e3_le hT220 (g := g) (x := x) (y := y) 4 0 0
        refine r_iload k60_268 rfl ?_
        refine r_ifeqN (by omega) k60_270 (fun z270 => ?_) (fun z270 => ?_)
        · refine r_aload k60_287 rfl ?_
          refine r_iload k60_288 rfl ?_
          refine r_ifneN (by omega) k60_290 (fun z290 => ?_) (fun z290 => ?_)
          · exact absurd z270 z290
          · refine r_pushn (v := (-8)) k60_293 rfl ?_
            refine r_goto k60_295 ?_
            refine j_put (j := 40) k60_300 hB rfl rfl ?_
            have hT300 : am_ty2 (am_u2 (am_u2 J 73 5 ((J 73 5) + (nI 1))) 36 40 ((-8))) := ty_w hT220 (tw_u (by decide) (by decide) (by decide))
            refine r_pushn (v := nI 0) k60_303 rfl ?_
            have e9 : R_e9 g x y ow J = (((nI 0), am_u2 (am_u2 J 73 5 ((J 73 5) + (nI 1))) 36 40 ((-8)))) := by rw [R_e9]; rw [am_ite_f z177, am_ite_f z198, am_ite_t z270]
            rw [e9] at HQ
            exact r_zret k60_304 rfl (by decide) (HQ hT300)
        · refine r_aload k60_273 rfl ?_
          refine j_ref (b := 60) k60_274 hB rfl ?_
          refine r_pushn (v := nI 4) k60_277 rfl ?_
          refine r_aload k60_278 rfl ?_
          have b279 := ty_f hT (q := 36) (j := 38) (B := 13) (by decide) (by decide)
          refine j_get (j := 38) (v := (nI (jn J 36 38))) k60_279 hB rfl b279.1 ?_
          refine r_imulN k60_282 ?_
          have b283 := ty_n hT (q := 60) (B := 17) (by decide) (by decide) (4 * (jn J 36 38))
          refine j_ald (n := 52) (j := (4 * (jn J 36 38))) (v := (nI (jn J 60 (4 * (jn J 36 38))))) k60_283 hB rfl rfl (by omega) b283.1 ?_
          refine r_ifneN (by omega) k60_284 (fun z284 => ?_) (fun z284 => ?_)
          · refine r_aload k60_305 rfl ?_
            refine j_ref (b := 61) k60_306 hB rfl ?_
            refine r_aload k60_309 rfl ?_
            have b310 := ty_f hT (q := 36) (j := 38) (B := 13) (by decide) (by decide)
            refine j_get (j := 38) (v := (nI (jn J 36 38))) k60_310 hB rfl b310.1 ?_
            refine r_iload k60_313 rfl ?_
            refine j_ast (n := 13) (j := (jn J 36 38)) k60_314 hB rfl rfl (by omega) ?_
            have hT314 : am_ty2 (am_u2 (am_u2 J 73 5 ((J 73 5) + (nI 1))) 61 (jn J 36 38) (nI x)) := ty_w hT220 (tw_n (B := 12) (by decide) (by decide) (by decide) (by omega))
            refine r_aload k60_315 rfl ?_
            refine j_ref (b := 62) k60_316 hB rfl ?_
            refine r_aload k60_319 rfl ?_
            have b320 := ty_f hT (q := 36) (j := 38) (B := 13) (by decide) (by decide)
            refine j_get (j := 38) (v := (nI (jn J 36 38))) k60_320 hB rfl b320.1 ?_
            refine r_iload k60_323 rfl ?_
            refine j_ast (n := 13) (j := (jn J 36 38)) k60_324 hB rfl rfl (by omega) ?_
            have hT324 : am_ty2 (am_u2 (am_u2 (am_u2 J 73 5 ((J 73 5) + (nI 1))) 61 (jn J 36 38) (nI x)) 62 (jn J 36 38) (nI y)) := ty_w hT314 (tw_n (B := 12) (by decide) (by decide) (by decide) (by omega))
            refine r_aload k60_325 rfl ?_
            refine j_ref (b := 63) k60_326 hB rfl ?_
            refine r_aload k60_329 rfl ?_
            have b330 := ty_f hT (q := 36) (j := 38) (B := 13) (by decide) (by decide)
            refine j_get (j := 38) (v := (nI (jn J 36 38))) k60_330 hB rfl b330.1 ?_
            refine r_iload k60_333 rfl ?_
            refine j_ast (n := 13) (j := (jn J 36 38)) k60_334 hB rfl rfl (by omega) ?_
            have hT334 : am_ty2 (am_u2 (am_u2 (am_u2 (am_u2 J 73 5 ((J 73 5) + (nI 1))) 61 (jn J 36 38) (nI x)) 62 (jn J 36 38) (nI y)) 63 (jn J 36 38) (nI g)) := ty_w hT324 (tw_n (B := 5) (by decide) (by decide) (by decide) (by omega))
            refine r_aload k60_335 rfl ?_
            refine r_dup rfl k60_336 ?_
            have b337 := ty_f hT (q := 36) (j := 38) (B := 13) (by decide) (by decide)
            refine j_get (j := 38) (v := (nI (jn J 36 38))) k60_337 hB rfl b337.1 ?_
            refine r_pushn (v := nI 1) k60_340 rfl ?_
            refine r_iaddN k60_341 ?_
            refine j_put (j := 38) k60_342 hB rfl rfl ?_
            have hT342 : am_ty2 (am_u2 (am_u2 (am_u2 (am_u2 (am_u2 J 73 5 ((J 73 5) + (nI 1))) 61 (jn J 36 38) (nI x)) 62 (jn J 36 38) (nI y)) 63 (jn J 36 38) (nI g)) 36 38 (nI ((jn J 36 38) + 1))) := ty_w hT334 (tw_f (B := 13) (by decide) (by decide) (by decide) (by omega))
            refine r_aload k60_345 rfl ?_
            refine r_pushn (v := nI 3) k60_346 rfl ?_
            refine r_pushn (v := nI 0) k60_347 rfl ?_
            refine j_call (ml := 4) k60_348 rfl (show 0 < d.1 by omega) (show 19 + 4 ≤ d.2 by omega) ⟨Nat.le_of_ble_eq_true rfl, Nat.le_of_ble_eq_true rfl, am_obB hB rfl, Nat.le_of_ble_eq_true rfl⟩ rfl (rest := []) rfl (s_R_begin hB hT342 3 0 (by omega) (by omega) (by rw [jn_u (by omega)]; omega) (ht) (show 1 ≤ d.1 - 1 by omega) (show 21 ≤ d.2 - 23 by omega)) (fun r h1 hq => ?_)
            obtain ⟨rfl, rfl, hT348⟩ := hq
            show am_wp _ _ _ [some (.ref 36), some (.int (nI (g))), some (.int (nI (x))), some (.int (nI (y))), none, none, some (.int (nI ((R_e3 g x y 4 0 (am_u2 J 73 5 ((J 73 5) + (nI 1))) 0)))), none] [] _ _
            refine r_pushn (v := nI 1) k60_351 rfl ?_
            have e9 : R_e9 g x y ow J = (((nI 1), R_begin (am_u2 (am_u2 (am_u2 (am_u2 (am_u2 J 73 5 ((J 73 5) + (nI 1))) 61 (jn J 36 38) (nI x)) 62 (jn J 36 38) (nI y)) 63 (jn J 36 38) (nI g)) 36 38 (nI ((jn J 36 38) + 1))) 3 0)) := by rw [R_e9]; rw [am_ite_f z177, am_ite_f z198, am_ite_f z270, am_ite_f z284]
            rw [e9] at HQ
            exact r_zret k60_352 rfl (by decide) (HQ hT348)
          · refine r_aload k60_287 rfl ?_
            refine r_iload k60_288 rfl ?_
            refine r_ifneN (by omega) k60_290 (fun z290 => ?_) (fun z290 => ?_)
            · refine r_pushn (v := (-9)) k60_298 rfl ?_
              refine j_put (j := 40) k60_300 hB rfl rfl ?_
              have hT300 : am_ty2 (am_u2 (am_u2 J 73 5 ((J 73 5) + (nI 1))) 36 40 ((-9))) := ty_w hT220 (tw_u (by decide) (by decide) (by decide))
              refine r_pushn (v := nI 0) k60_303 rfl ?_
              have e9 : R_e9 g x y ow J = (((nI 0), am_u2 (am_u2 J 73 5 ((J 73 5) + (nI 1))) 36 40 ((-9)))) := by rw [R_e9]; rw [am_ite_f z177, am_ite_f z198, am_ite_f z270, am_ite_t z284]
              rw [e9] at HQ
              exact r_zret k60_304 rfl (by decide) (HQ hT300)
            · exact absurd z290 z270
      · exact absurd z223 z198
    · refine r_aload k60_201 rfl ?_
      refine j_ref (b := 58) k60_202 hB rfl ?_
      refine r_iload k60_205 rfl ?_
      have b207 := ty_n hT (q := 58) (B := 2) (by decide) (by decide) (((144 * g) + (12 * (jn J 45 x))) + 0)
      refine j_zld (n := 720) (j := (((144 * g) + (12 * (jn J 45 x))) + 0)) (v := (nI (jn J 58 (((144 * g) + (12 * (jn J 45 x))) + 0)))) k60_207 hB rfl rfl (by omega) b207.1 ?_
      refine r_ifneN (by omega) k60_208 (fun z208 => ?_) (fun z208 => ?_)
      · refine r_iload k60_221 rfl ?_
        refine r_ifne k60_223 (fun z223 => ?_) (fun z223 => ?_)
        · exact absurd z198 z223
        · refine r_aload k60_226 rfl ?_
          refine j_ref (b := 58) k60_227 hB rfl ?_
          refine r_iload k60_230 rfl ?_
          refine r_pushn (v := nI 1) k60_232 rfl ?_
          refine j_zst (n := 720) (j := (((144 * g) + (12 * (jn J 45 x))) + 0)) k60_233 hB rfl rfl (by omega) (by decide) ?_
          have hT233 : am_ty2 (am_u2 J 58 (((144 * g) + (12 * (jn J 45 x))) + 0) (nI 1)) := ty_w hT (tw_n (B := 2) (by decide) (by decide) (by decide) (by omega))
          refine r_pushn (v := nI 0) k60_234 rfl ?_
          refine r_istore (L' := [some (.ref 36), some (.int (nI (g))), some (.int (nI (x))), some (.int (nI (y))), some (.int (ow)), some (.int (nI (((144 * g) + (12 * (jn J 45 x))) + 0))), some (.int (nI 0)), some (.int (nI 0))]) k60_235 (Nat.le_of_ble_eq_true rfl) rfl ?_
          refine wp_L (L := [some (.ref 36), some (.int (nI (g))), some (.int (nI (x))), some (.int (nI (y))), none, none, some (.int (nI 0)), some (.int (nI 0))]) (⟨Or.inr rfl, Or.inr rfl, Or.inr rfl, Or.inr rfl, Or.inl rfl, Or.inl rfl, Or.inr rfl, Or.inr rfl, True.intro⟩) (l_R_e3 hB g x y hd hw 4 0 (am_u2 J 58 (((144 * g) + (12 * (jn J 45 x))) + 0) (nI 1)) hT233 (by omega) 0 ?_)
          have f9 := R_e3_le hT233 (g := g) (x := x) (y := y) 4 0 0
          refine r_iload k60_268 rfl ?_
          refine r_ifeqN (by omega) k60_270 (fun z270 => ?_) (fun z270 => ?_)
          · refine r_aload k60_287 rfl ?_
            refine r_iload k60_288 rfl ?_
            refine r_ifneN (by omega) k60_290 (fun z290 => ?_) (fun z290 => ?_)
            · exact absurd z270 z290
            · refine r_pushn (v := (-8)) k60_293 rfl ?_
              refine r_goto k60_295 ?_
              refine j_put (j := 40) k60_300 hB rfl rfl ?_
              have hT300 : am_ty2 (am_u2 (am_u2 J 58 (((144 * g) + (12 * (jn J 45 x))) + 0) (nI 1)) 36 40 ((-8))) := ty_w hT233 (tw_u (by decide) (by decide) (by decide))
              refine r_pushn (v := nI 0) k60_303 rfl ?_
              have e9 : R_e9 g x y ow J = (((nI 0), am_u2 (am_u2 J 58 (((144 * g) + (12 * (jn J 45 x))) + 0) (nI 1)) 36 40 ((-8)))) := by rw [R_e9]; rw [am_ite_f z177, am_ite_t z198, am_ite_f z208, am_ite_t z270]
              rw [e9] at HQ
              exact r_zret k60_304 rfl (by decide) (HQ hT300)
          · refine r_aload k60_273 rfl ?_
            refine j_ref (b := 60) k60_274 hB rfl ?_
            refine r_pushn (v := nI 4) k60_277 rfl ?_
            refine r_aload k60_278 rfl ?_
            have b279 := ty_f hT (q := 36) (j := 38) (B := 13) (by decide) (by decide)
            refine j_get (j := 38) (v := (nI (jn J 36 38))) k60_279 hB rfl b279.1 ?_
            refine r_imulN k60_282 ?_
            have b283 := ty_n hT (q := 60) (B := 17) (by decide) (by decide) (4 * (jn J 36 38))
            refine j_ald (n := 52) (j := (4 * (jn J 36 38))) (v := (nI (jn J 60 (4 * (jn J 36 38))))) k60_283 hB rfl rfl (by omega) b283.1 ?_
            refine r_ifneN (by omega) k60_284 (fun z284 => ?_) (fun z284 => ?_)
            · refine r_aload k60_305 rfl ?_
              refine j_ref (b := 61) k60_306 hB rfl ?_
              refine r_aload k60_309 rfl ?_
              have b310 := ty_f hT (q := 36) (j := 38) (B := 13) (by decide) (by decide)
              refine j_get (j := 38) (v := (nI (jn J 36 38))) k60_310 hB rfl b310.1 ?_
              refine r_iload k60_313 rfl ?_
              refine j_ast (n := 13) (j := (jn J 36 38)) k60_314 hB rfl rfl (by omega) ?_
              have hT314 : am_ty2 (am_u2 (am_u2 J 58 (((144 * g) + (12 * (jn J 45 x))) + 0) (nI 1)) 61 (jn J 36 38) (nI x)) := ty_w hT233 (tw_n (B := 12) (by decide) (by decide) (by decide) (by omega))
              refine r_aload k60_315 rfl ?_
              refine j_ref (b := 62) k60_316 hB rfl ?_
              refine r_aload k60_319 rfl ?_
              have b320 := ty_f hT (q := 36) (j := 38) (B := 13) (by decide) (by decide)
              refine j_get (j := 38) (v := (nI (jn J 36 38))) k60_320 hB rfl b320.1 ?_
              refine r_iload k60_323 rfl ?_
              refine j_ast (n := 13) (j := (jn J 36 38)) k60_324 hB rfl rfl (by omega) ?_
              have hT324 : am_ty2 (am_u2 (am_u2 (am_u2 J 58 (((144 * g) + (12 * (jn J 45 x))) + 0) (nI 1)) 61 (jn J 36 38) (nI x)) 62 (jn J 36 38) (nI y)) := ty_w hT314 (tw_n (B := 12) (by decide) (by decide) (by decide) (by omega))
              refine r_aload k60_325 rfl ?_
              refine j_ref (b := 63) k60_326 hB rfl ?_
              refine r_aload k60_329 rfl ?_
              have b330 := ty_f hT (q := 36) (j := 38) (B := 13) (by decide) (by decide)
              refine j_get (j := 38) (v := (nI (jn J 36 38))) k60_330 hB rfl b330.1 ?_
              refine r_iload k60_333 rfl ?_
              refine j_ast (n := 13) (j := (jn J 36 38)) k60_334 hB rfl rfl (by omega) ?_
              have hT334 : am_ty2 (am_u2 (am_u2 (am_u2 (am_u2 J 58 (((144 * g) + (12 * (jn J 45 x))) + 0) (nI 1)) 61 (jn J 36 38) (nI x)) 62 (jn J 36 38) (nI y)) 63 (jn J 36 38) (nI g)) := ty_w hT324 (tw_n (B := 5) (by decide) (by decide) (by decide) (by omega))
              refine r_aload k60_335 rfl ?_
              refine r_dup rfl k60_336 ?_
              have b337 := ty_f hT (q := 36) (j := 38) (B := 13) (by decide) (by decide)
              refine j_get (j := 38) (v := (nI (jn J 36 38))) k60_337 hB rfl b337.1 ?_
              refine r_pushn (v := nI 1) k60_340 rfl ?_
              refine r_iaddN k60_341 ?_
              refine j_put (j := 38) k60_342 hB rfl rfl ?_
              have hT342 : am_ty2 (am_u2 (am_u2 (am_u2 (am_u2 (am_u2 J 58 (((144 * g) + (12 * (jn J 45 x))) + 0) (nI 1)) 61 (jn J 36 38) (nI x)) 62 (jn J 36 38) (nI y)) 63 (jn J 36 38) (nI g)) 36 38 (nI ((jn J 36 38) + 1))) := ty_w hT334 (tw_f (B := 13) (by decide) (by decide) (by decide) (by omega))
              refine r_aload k60_345 rfl ?_
              refine r_pushn (v := nI 3) k60_346 rfl ?_
              refine r_pushn (v := nI 0) k60_347 rfl ?_
              refine j_call (ml := 4) k60_348 rfl (show 0 < d.1 by omega) (show 19 + 4 ≤ d.2 by omega) ⟨Nat.le_of_ble_eq_true rfl, Nat.le_of_ble_eq_true rfl, am_obB hB rfl, Nat.le_of_ble_eq_true rfl⟩ rfl (rest := []) rfl (s_R_begin hB hT342 3 0 (by omega) (by omega) (by rw [jn_u (by omega)]; omega) (ht) (show 1 ≤ d.1 - 1 by omega) (show 21 ≤ d.2 - 23 by omega)) (fun r h1 hq => ?_)
              obtain ⟨rfl, rfl, hT348⟩ := hq
              show am_wp _ _ _ [some (.ref 36), some (.int (nI (g))), some (.int (nI (x))), some (.int (nI (y))), none, none, some (.int (nI ((R_e3 g x y 4 0 (am_u2 J 58 (((144 * g) + (12 * (jn J 45 x))) + 0) (nI 1)) 0)))), none] [] _ _
              refine r_pushn (v := nI 1) k60_351 rfl ?_
              have e9 : R_e9 g x y ow J = (((nI 1), R_begin (am_u2 (am_u2 (am_u2 (am_u2 (am_u2 J 58 (((144 * g) + (12 * (jn J 45 x))) + 0) (nI 1)) 61 (jn J 36 38) (nI x)) 62 (jn J 36 38) (nI y)) 63 (jn J 36 38) (nI g)) 36 38 (nI ((jn J 36 38) + 1))) 3 0)) := by rw [R_e9]; rw [am_ite_f z177, am_ite_t z198, am_ite_f z208, am_ite_f z270, am_ite_f z284]
              rw [e9] at HQ
              exact r_zret k60_352 rfl (by decide) (HQ hT348)
            · refine r_aload k60_287 rfl ?_
              refine r_iload k60_288 rfl ?_
              refine r_ifneN (by omega) k60_290 (fun z290 => ?_) (fun z290 => ?_)
              · refine r_pushn (v := (-9)) k60_298 rfl ?_
                refine j_put (j := 40) k60_300 hB rfl rfl ?_
                have hT300 : am_ty2 (am_u2 (am_u2 J 58 (((144 * g) + (12 * (jn J 45 x))) + 0) (nI 1)) 36 40 ((-9))) := ty_w hT233 (tw_u (by decide) (by decide) (by decide))
                refine r_pushn (v := nI 0) k60_303 rfl ?_
                have e9 : R_e9 g x y ow J = (((nI 0), am_u2 (am_u2 J 58 (((144 * g) + (12 * (jn J 45 x))) + 0) (nI 1)) 36 40 ((-9)))) := by rw [R_e9]; rw [am_ite_f z177, am_ite_t z198, am_ite_f z208, am_ite_f z270, am_ite_t z284]
                rw [e9] at HQ
                exact r_zret k60_304 rfl (by decide) (HQ hT300)
              · exact absurd z290 z270
      · refine r_aload k60_211 rfl ?_
        refine j_ref (b := 73) k60_212 hB rfl ?_
        refine r_pushn (v := nI 5) k60_215 rfl ?_
        refine r_dup2 rfl rfl k60_216 ?_
        refine j_ald (n := 10) (j := 5) (v := (J 73 5)) k60_217 hB rfl rfl (by omega) rfl ?_
        refine r_pushn (v := nI 1) k60_218 rfl ?_
        refine r_iadd k60_219 ?_
        refine j_ast (n := 10) (j := 5) k60_220 hB rfl rfl (by omega) ?_
        have hT220 : am_ty2 (am_u2 J 73 5 ((J 73 5) + (nI 1))) := ty_w hT (tw_a (by decide) (by decide) (by decide))
        refine r_iload k60_221 rfl ?_
        refine r_ifne k60_223 (fun z223 => ?_) (fun z223 => ?_)
        · exact absurd z198 z223
        · refine r_aload k60_226 rfl ?_
          refine j_ref (b := 58) k60_227 hB rfl ?_
          refine r_iload k60_230 rfl ?_
          refine r_pushn (v := nI 1) k60_232 rfl ?_
          refine j_zst (n := 720) (j := (((144 * g) + (12 * (jn J 45 x))) + 0)) k60_233 hB rfl rfl (by omega) (by decide) ?_
          have hT233 : am_ty2 (am_u2 (am_u2 J 73 5 ((J 73 5) + (nI 1))) 58 (((144 * g) + (12 * (jn J 45 x))) + 0) (nI 1)) := ty_w hT220 (tw_n (B := 2) (by decide) (by decide) (by decide) (by omega))
          refine r_pushn (v := nI 0) k60_234 rfl ?_
          refine r_istore (L' := [some (.ref 36), some (.int (nI (g))), some (.int (nI (x))), some (.int (nI (y))), some (.int (ow)), some (.int (nI (((144 * g) + (12 * (jn J 45 x))) + 0))), some (.int (nI 0)), some (.int (nI 0))]) k60_235 (Nat.le_of_ble_eq_true rfl) rfl ?_
          refine wp_L (L := [some (.ref 36), some (.int (nI (g))), some (.int (nI (x))), some (.int (nI (y))), none, none, some (.int (nI 0)), some (.int (nI 0))]) (⟨Or.inr rfl, Or.inr rfl, Or.inr rfl, Or.inr rfl, Or.inl rfl, Or.inl rfl, Or.inr rfl, Or.inr rfl, True.intro⟩) (l_R_e3 hB g x y hd hw 4 0 (am_u2 (am_u2 J 73 5 ((J 73 5) + (nI 1))) 58 (((144 * g) + (12 * (jn J 45 x))) + 0) (nI 1)) hT233 (by omega) 0 ?_)
          have f9 := R_e3_le hT233 (g := g) (x := x) (y := y) 4 0 0
          refine r_iload k60_268 rfl ?_
          refine r_ifeqN (by omega) k60_270 (fun z270 => ?_) (fun z270 => ?_)
          · refine r_aload k60_287 rfl ?_
            refine r_iload k60_288 rfl ?_
            refine r_ifneN (by omega) k60_290 (fun z290 => ?_) (fun z290 => ?_)
            · exact absurd z270 z290
            · refine r_pushn (v := (-8)) k60_293 rfl ?_
              refine r_goto k60_295 ?_
              refine j_put (j := 40) k60_300 hB rfl rfl ?_
              have hT300 : am_ty2 (am_u2 (am_u2 (am_u2 J 73 5 ((J 73 5) + (nI 1))) 58 (((144 * g) + (12 * (jn J 45 x))) + 0) (nI 1)) 36 40 ((-8))) := ty_w hT233 (tw_u (by decide) (by decide) (by decide))
              refine r_pushn (v := nI 0) k60_303 rfl ?_
              have e9 : R_e9 g x y ow J = (((nI 0), am_u2 (am_u2 (am_u2 J 73 5 ((J 73 5) + (nI 1))) 58 (((144 * g) + (12 * (jn J 45 x))) + 0) (nI 1)) 36 40 ((-8)))) := by rw [R_e9]; rw [am_ite_f z177, am_ite_t z198, am_ite_t z208, am_ite_t z270]
              rw [e9] at HQ
              exact r_zret k60_304 rfl (by decide) (HQ hT300)
          · refine r_aload k60_273 rfl ?_
            refine j_ref (b := 60) k60_274 hB rfl ?_
            refine r_pushn (v := nI 4) k60_277 rfl ?_
            refine r_aload k60_278 rfl ?_
            have b279 := ty_f hT (q := 36) (j := 38) (B := 13) (by decide) (by decide)
            refine j_get (j := 38) (v := (nI (jn J 36 38))) k60_279 hB rfl b279.1 ?_
            refine r_imulN k60_282 ?_
            have b283 := ty_n hT (q := 60) (B := 17) (by decide) (by decide) (4 * (jn J 36 38))
            refine j_ald (n := 52) (j := (4 * (jn J 36 38))) (v := (nI (jn J 60 (4 * (jn J 36 38))))) k60_283 hB rfl rfl (by omega) b283.1 ?_
            refine r_ifneN (by omega) k60_284 (fun z284 => ?_) (fun z284 => ?_)
            · refine r_aload k60_305 rfl ?_
              refine j_ref (b := 61) k60_306 hB rfl ?_
              refine r_aload k60_309 rfl ?_
              have b310 := ty_f hT (q := 36) (j := 38) (B := 13) (by decide) (by decide)
              refine j_get (j := 38) (v := (nI (jn J 36 38))) k60_310 hB rfl b310.1 ?_
              refine r_iload k60_313 rfl ?_
              refine j_ast (n := 13) (j := (jn J 36 38)) k60_314 hB rfl rfl (by omega) ?_
              have hT314 : am_ty2 (am_u2 (am_u2 (am_u2 J 73 5 ((J 73 5) + (nI 1))) 58 (((144 * g) + (12 * (jn J 45 x))) + 0) (nI 1)) 61 (jn J 36 38) (nI x)) := ty_w hT233 (tw_n (B := 12) (by decide) (by decide) (by decide) (by omega))
              refine r_aload k60_315 rfl ?_
              refine j_ref (b := 62) k60_316 hB rfl ?_
              refine r_aload k60_319 rfl ?_
              have b320 := ty_f hT (q := 36) (j := 38) (B := 13) (by decide) (by decide)
              refine j_get (j := 38) (v := (nI (jn J 36 38))) k60_320 hB rfl b320.1 ?_
              refine r_iload k60_323 rfl ?_
              refine j_ast (n := 13) (j := (jn J 36 38)) k60_324 hB rfl rfl (by omega) ?_
              have hT324 : am_ty2 (am_u2 (am_u2 (am_u2 (am_u2 J 73 5 ((J 73 5) + (nI 1))) 58 (((144 * g) + (12 * (jn J 45 x))) + 0) (nI 1)) 61 (jn J 36 38) (nI x)) 62 (jn J 36 38) (nI y)) := ty_w hT314 (tw_n (B := 12) (by decide) (by decide) (by decide) (by omega))
              refine r_aload k60_325 rfl ?_
              refine j_ref (b := 63) k60_326 hB rfl ?_
              refine r_aload k60_329 rfl ?_
              have b330 := ty_f hT (q := 36) (j := 38) (B := 13) (by decide) (by decide)
              refine j_get (j := 38) (v := (nI (jn J 36 38))) k60_330 hB rfl b330.1 ?_
              refine r_iload k60_333 rfl ?_
              refine j_ast (n := 13) (j := (jn J 36 38)) k60_334 hB rfl rfl (by omega) ?_
              have hT334 : am_ty2 (am_u2 (am_u2 (am_u2 (am_u2 (am_u2 J 73 5 ((J 73 5) + (nI 1))) 58 (((144 * g) + (12 * (jn J 45 x))) + 0) (nI 1)) 61 (jn J 36 38) (nI x)) 62 (jn J 36 38) (nI y)) 63 (jn J 36 38) (nI g)) := ty_w hT324 (tw_n (B := 5) (by decide) (by decide) (by decide) (by omega))
              refine r_aload k60_335 rfl ?_
              refine r_dup rfl k60_336 ?_
              have b337 := ty_f hT (q := 36) (j := 38) (B := 13) (by decide) (by decide)
              refine j_get (j := 38) (v := (nI (jn J 36 38))) k60_337 hB rfl b337.1 ?_
              refine r_pushn (v := nI 1) k60_340 rfl ?_
              refine r_iaddN k60_341 ?_
              refine j_put (j := 38) k60_342 hB rfl rfl ?_
              have hT342 : am_ty2 (am_u2 (am_u2 (am_u2 (am_u2 (am_u2 (am_u2 J 73 5 ((J 73 5) + (nI 1))) 58 (((144 * g) + (12 * (jn J 45 x))) + 0) (nI 1)) 61 (jn J 36 38) (nI x)) 62 (jn J 36 38) (nI y)) 63 (jn J 36 38) (nI g)) 36 38 (nI ((jn J 36 38) + 1))) := ty_w hT334 (tw_f (B := 13) (by decide) (by decide) (by decide) (by omega))
              refine r_aload k60_345 rfl ?_
              refine r_pushn (v := nI 3) k60_346 rfl ?_
              refine r_pushn (v := nI 0) k60_347 rfl ?_
              refine j_call (ml := 4) k60_348 rfl (show 0 < d.1 by omega) (show 19 + 4 ≤ d.2 by omega) ⟨Nat.le_of_ble_eq_true rfl, Nat.le_of_ble_eq_true rfl, am_obB hB rfl, Nat.le_of_ble_eq_true rfl⟩ rfl (rest := []) rfl (s_R_begin hB hT342 3 0 (by omega) (by omega) (by rw [jn_u (by omega)]; omega) (ht) (show 1 ≤ d.1 - 1 by omega) (show 21 ≤ d.2 - 23 by omega)) (fun r h1 hq => ?_)
              obtain ⟨rfl, rfl, hT348⟩ := hq
              show am_wp _ _ _ [some (.ref 36), some (.int (nI (g))), some (.int (nI (x))), some (.int (nI (y))), none, none, some (.int (nI ((R_e3 g x y 4 0 (am_u2 (am_u2 J 73 5 ((J 73 5) + (nI 1))) 58 (((144 * g) + (12 * (jn J 45 x))) + 0) (nI 1)) 0)))), none] [] _ _
              refine r_pushn (v := nI 1) k60_351 rfl ?_
              have e9 : R_e9 g x y ow J = (((nI 1), R_begin (am_u2 (am_u2 (am_u2 (am_u2 (am_u2 (am_u2 J 73 5 ((J 73 5) + (nI 1))) 58 (((144 * g) + (12 * (jn J 45 x))) + 0) (nI 1)) 61 (jn J 36 38) (nI x)) 62 (jn J 36 38) (nI y)) 63 (jn J 36 38) (nI g)) 36 38 (nI ((jn J 36 38) + 1))) 3 0)) := by rw [R_e9]; rw [am_ite_f z177, am_ite_t z198, am_ite_t z208, am_ite_f z270, am_ite_f z284]
              rw [e9] at HQ
              exact r_zret k60_352 rfl (by decide) (HQ hT348)
            · refine r_aload k60_287 rfl ?_
              refine r_iload k60_288 rfl ?_
              refine r_ifneN (by omega) k60_290 (fun z290 => ?_) (fun z290 => ?_)
              · refine r_pushn (v := (-9)) k60_298 rfl ?_
                refine j_put (j := 40) k60_300 hB rfl rfl ?_
                have hT300 : am_ty2 (am_u2 (am_u2 (am_u2 J 73 5 ((J 73 5) + (nI 1))) 58 (((144 * g) + (12 * (jn J 45 x))) + 0) (nI 1)) 36 40 ((-9))) := ty_w hT233 (tw_u (by decide) (by decide) (by decide))
                refine r_pushn (v := nI 0) k60_303 rfl ?_
                have e9 : R_e9 g x y ow J = (((nI 0), am_u2 (am_u2 (am_u2 J 73 5 ((J 73 5) + (nI 1))) 58 (((144 * g) + (12 * (jn J 45 x))) + 0) (nI 1)) 36 40 ((-9)))) := by rw [R_e9]; rw [am_ite_f z177, am_ite_t z198, am_ite_t z208, am_ite_f z270, am_ite_t z284]
                rw [e9] at HQ
                exact r_zret k60_304 rfl (by decide) (HQ hT300)
              · exact absurd z290 z270
  · refine r_aload k60_180 rfl ?_
    refine j_ref (b := 45) k60_181 hB rfl ?_
    refine r_iload k60_184 rfl ?_
    have b185 := ty_n hT (q := 45) (B := 12) (by decide) (by decide) y
    refine j_ald (n := 12) (j := y) (v := (nI (jn J 45 y))) k60_185 hB rfl rfl (by omega) b185.1 ?_
    refine r_goto k60_186 ?_
    refine r_iaddN k60_190 ?_
    refine r_istore (L' := [some (.ref 36), some (.int (nI (g))), some (.int (nI (x))), some (.int (nI (y))), some (.int (ow)), some (.int (nI (((144 * g) + (12 * (jn J 45 x))) + (jn J 45 y)))), none, none]) k60_191 (Nat.le_of_ble_eq_true rfl) rfl ?_
    refine r_pushn (v := nI 0) k60_193 rfl ?_
    refine r_istore (L' := [some (.ref 36), some (.int (nI (g))), some (.int (nI (x))), some (.int (nI (y))), some (.int (ow)), some (.int (nI (((144 * g) + (12 * (jn J 45 x))) + (jn J 45 y)))), some (.int (nI 0)), none]) k60_194 (Nat.le_of_ble_eq_true rfl) rfl ?_
    refine r_iload k60_196 rfl ?_
    refine r_ifne k60_198 (fun z198 => ?_) (fun z198 => ?_)
    · refine r_aload k60_211 rfl ?_
      refine j_ref (b := 73) k60_212 hB rfl ?_
      refine r_pushn (v := nI 5) k60_215 rfl ?_
      refine r_dup2 rfl rfl k60_216 ?_
      refine j_ald (n := 10) (j := 5) (v := (J 73 5)) k60_217 hB rfl rfl (by omega) rfl ?_
      refine r_pushn (v := nI 1) k60_218 rfl ?_
      refine r_iadd k60_219 ?_
      refine j_ast (n := 10) (j := 5) k60_220 hB rfl rfl (by omega) ?_
      have hT220 : am_ty2 (am_u2 J 73 5 ((J 73 5) + (nI 1))) := ty_w hT (tw_a (by decide) (by decide) (by decide))
      refine r_iload k60_221 rfl ?_
      refine r_ifne k60_223 (fun z223 => ?_) (fun z223 => ?_)
      · refine r_pushn (v := nI 0) k60_234 rfl ?_
        refine r_istore (L' := [some (.ref 36), some (.int (nI (g))), some (.int (nI (x))), some (.int (nI (y))), some (.int (ow)), some (.int (nI (((144 * g) + (12 * (jn J 45 x))) + (jn J 45 y)))), some (.int (nI 0)), some (.int (nI 0))]) k60_235 (Nat.le_of_ble_eq_true rfl) rfl ?_
        refine wp_L (L := [some (.ref 36), some (.int (nI (g))), some (.int (nI (x))), some (.int (nI (y))), none, none, some (.int (nI 0)), some (.int (nI 0))]) (⟨Or.inr rfl, Or.inr rfl, Or.inr rfl, Or.inr rfl, Or.inl rfl, Or.inl rfl, Or.inr rfl, Or.inr rfl, True.intro⟩) (l_R_e3 hB g x y hd hw 4 0 (am_u2 J 73 5 ((J 73 5) + (nI 1))) hT220 (by omega) 0 ?_)
        have f9 := R_e3_le hT220 (g := g) (x := x) (y := y) 4 0 0
        refine r_iload k60_268 rfl ?_
        refine r_ifeqN (by omega) k60_270 (fun z270 => ?_) (fun z270 => ?_)
        · refine r_aload k60_287 rfl ?_
          refine r_iload k60_288 rfl ?_
          refine r_ifneN (by omega) k60_290 (fun z290 => ?_) (fun z290 => ?_)
          · exact absurd z270 z290
          · refine r_pushn (v := (-8)) k60_293 rfl ?_
            refine r_goto k60_295 ?_
            refine j_put (j := 40) k60_300 hB rfl rfl ?_
            have hT300 : am_ty2 (am_u2 (am_u2 J 73 5 ((J 73 5) + (nI 1))) 36 40 ((-8))) := ty_w hT220 (tw_u (by decide) (by decide) (by decide))
            refine r_pushn (v := nI 0) k60_303 rfl ?_
            have e9 : R_e9 g x y ow J = (((nI 0), am_u2 (am_u2 J 73 5 ((J 73 5) + (nI 1))) 36 40 ((-8)))) := by rw [R_e9]; rw [am_ite_t z177, am_ite_f z198, am_ite_t z270]
            rw [e9] at HQ
            exact r_zret k60_304 rfl (by decide) (HQ hT300)
        · refine r_aload k60_273 rfl ?_
          refine j_ref (b := 60) k60_274 hB rfl ?_
          refine r_pushn (v := nI 4) k60_277 rfl ?_
          refine r_aload k60_278 rfl ?_
          have b279 := ty_f hT (q := 36) (j := 38) (B := 13) (by decide) (by decide)
          refine j_get (j := 38) (v := (nI (jn J 36 38))) k60_279 hB rfl b279.1 ?_
          refine r_imulN k60_282 ?_
          have b283 := ty_n hT (q := 60) (B := 17) (by decide) (by decide) (4 * (jn J 36 38))
          refine j_ald (n := 52) (j := (4 * (jn J 36 38))) (v := (nI (jn J 60 (4 * (jn J 36 38))))) k60_283 hB rfl rfl (by omega) b283.1 ?_
          refine r_ifneN (by omega) k60_284 (fun z284 => ?_) (fun z284 => ?_)
          · refine r_aload k60_305 rfl ?_
            refine j_ref (b := 61) k60_306 hB rfl ?_
            refine r_aload k60_309 rfl ?_
            have b310 := ty_f hT (q := 36) (j := 38) (B := 13) (by decide) (by decide)
            refine j_get (j := 38) (v := (nI (jn J 36 38))) k60_310 hB rfl b310.1 ?_
            refine r_iload k60_313 rfl ?_
            refine j_ast (n := 13) (j := (jn J 36 38)) k60_314 hB rfl rfl (by omega) ?_
            have hT314 : am_ty2 (am_u2 (am_u2 J 73 5 ((J 73 5) + (nI 1))) 61 (jn J 36 38) (nI x)) := ty_w hT220 (tw_n (B := 12) (by decide) (by decide) (by decide) (by omega))
            refine r_aload k60_315 rfl ?_
            refine j_ref (b := 62) k60_316 hB rfl ?_
            refine r_aload k60_319 rfl ?_
            have b320 := ty_f hT (q := 36) (j := 38) (B := 13) (by decide) (by decide)
            refine j_get (j := 38) (v := (nI (jn J 36 38))) k60_320 hB rfl b320.1 ?_
            refine r_iload k60_323 rfl ?_
            refine j_ast (n := 13) (j := (jn J 36 38)) k60_324 hB rfl rfl (by omega) ?_
            have hT324 : am_ty2 (am_u2 (am_u2 (am_u2 J 73 5 ((J 73 5) + (nI 1))) 61 (jn J 36 38) (nI x)) 62 (jn J 36 38) (nI y)) := ty_w hT314 (tw_n (B := 12) (by decide) (by decide) (by decide) (by omega))
            refine r_aload k60_325 rfl ?_
            refine j_ref (b := 63) k60_326 hB rfl ?_
            refine r_aload k60_329 rfl ?_
            have b330 := ty_f hT (q := 36) (j := 38) (B := 13) (by decide) (by decide)
            refine j_get (j := 38) (v := (nI (jn J 36 38))) k60_330 hB rfl b330.1 ?_
            refine r_iload k60_333 rfl ?_
            refine j_ast (n := 13) (j := (jn J 36 38)) k60_334 hB rfl rfl (by omega) ?_
            have hT334 : am_ty2 (am_u2 (am_u2 (am_u2 (am_u2 J 73 5 ((J 73 5) + (nI 1))) 61 (jn J 36 38) (nI x)) 62 (jn J 36 38) (nI y)) 63 (jn J 36 38) (nI g)) := ty_w hT324 (tw_n (B := 5) (by decide) (by decide) (by decide) (by omega))
            refine r_aload k60_335 rfl ?_
            refine r_dup rfl k60_336 ?_
            have b337 := ty_f hT (q := 36) (j := 38) (B := 13) (by decide) (by decide)
            refine j_get (j := 38) (v := (nI (jn J 36 38))) k60_337 hB rfl b337.1 ?_
            refine r_pushn (v := nI 1) k60_340 rfl ?_
            refine r_iaddN k60_341 ?_
            refine j_put (j := 38) k60_342 hB rfl rfl ?_
            have hT342 : am_ty2 (am_u2 (am_u2 (am_u2 (am_u2 (am_u2 J 73 5 ((J 73 5) + (nI 1))) 61 (jn J 36 38) (nI x)) 62 (jn J 36 38) (nI y)) 63 (jn J 36 38) (nI g)) 36 38 (nI ((jn J 36 38) + 1))) := ty_w hT334 (tw_f (B := 13) (by decide) (by decide) (by decide) (by omega))
            refine r_aload k60_345 rfl ?_
            refine r_pushn (v := nI 3) k60_346 rfl ?_
            refine r_pushn (v := nI 0) k60_347 rfl ?_
            refine j_call (ml := 4) k60_348 rfl (show 0 < d.1 by omega) (show 19 + 4 ≤ d.2 by omega) ⟨Nat.le_of_ble_eq_true rfl, Nat.le_of_ble_eq_true rfl, am_obB hB rfl, Nat.le_of_ble_eq_true rfl⟩ rfl (rest := []) rfl (s_R_begin hB hT342 3 0 (by omega) (by omega) (by rw [jn_u (by omega)]; omega) (ht) (show 1 ≤ d.1 - 1 by omega) (show 21 ≤ d.2 - 23 by omega)) (fun r h1 hq => ?_)
            obtain ⟨rfl, rfl, hT348⟩ := hq
            show am_wp _ _ _ [some (.ref 36), some (.int (nI (g))), some (.int (nI (x))), some (.int (nI (y))), none, none, some (.int (nI ((R_e3 g x y 4 0 (am_u2 J 73 5 ((J 73 5) + (nI 1))) 0)))), none] [] _ _
            refine r_pushn (v := nI 1) k60_351 rfl ?_
            have e9 : R_e9 g x y ow J = (((nI 1), R_begin (am_u2 (am_u2 (am_u2 (am_u2 (am_u2 J 73 5 ((J 73 5) + (nI 1))) 61 (jn J 36 38) (nI x)) 62 (jn J 36 38) (nI y)) 63 (jn J 36 38) (nI g)) 36 38 (nI ((jn J 36 38) + 1))) 3 0)) := by rw [R_e9]; rw [am_ite_t z177, am_ite_f z198, am_ite_f z270, am_ite_f z284]
            rw [e9] at HQ
            exact r_zret k60_352 rfl (by decide) (HQ hT348)
          · refine r_aload k60_287 rfl ?_
            refine r_iload k60_288 rfl ?_
            refine r_ifneN (by omega) k60_290 (fun z290 => ?_) (fun z290 => ?_)
            · refine r_pushn (v := (-9)) k60_298 rfl ?_
              refine j_put (j := 40) k60_300 hB rfl rfl ?_
              have hT300 : am_ty2 (am_u2 (am_u2 J 73 5 ((J 73 5) + (nI 1))) 36 40 ((-9))) := ty_w hT220 (tw_u (by decide) (by decide) (by decide))
              refine r_pushn (v := nI 0) k60_303 rfl ?_
              have e9 : R_e9 g x y ow J = (((nI 0), am_u2 (am_u2 J 73 5 ((J 73 5) + (nI 1))) 36 40 ((-9)))) := by rw [R_e9]; rw [am_ite_t z177, am_ite_f z198, am_ite_f z270, am_ite_t z284]
              rw [e9] at HQ
              exact r_zret k60_304 rfl (by decide) (HQ hT300)
            · exact absurd z290 z270
      · exact absurd z223 z198
    · refine r_aload k60_201 rfl ?_
      refine j_ref (b := 58) k60_202 hB rfl ?_
      refine r_iload k60_205 rfl ?_
      have b207 := ty_n hT (q := 58) (B := 2) (by decide) (by decide) (((144 * g) + (12 * (jn J 45 x))) + (jn J 45 y))
      refine j_zld (n := 720) (j := (((144 * g) + (12 * (jn J 45 x))) + (jn J 45 y))) (v := (nI (jn J 58 (((144 * g) + (12 * (jn J 45 x))) + (jn J 45 y))))) k60_207 hB rfl rfl (by omega) b207.1 ?_
      refine r_ifneN (by omega) k60_208 (fun z208 => ?_) (fun z208 => ?_)
      · refine r_iload k60_221 rfl ?_
        refine r_ifne k60_223 (fun z223 => ?_) (fun z223 => ?_)
        · exact absurd z198 z223
        · refine r_aload k60_226 rfl ?_
          refine j_ref (b := 58) k60_227 hB rfl ?_
          refine r_iload k60_230 rfl ?_
          refine r_pushn (v := nI 1) k60_232 rfl ?_
          refine j_zst (n := 720) (j := (((144 * g) + (12 * (jn J 45 x))) + (jn J 45 y))) k60_233 hB rfl rfl (by omega) (by decide) ?_
          have hT233 : am_ty2 (am_u2 J 58 (((144 * g) + (12 * (jn J 45 x))) + (jn J 45 y)) (nI 1)) := ty_w hT (tw_n (B := 2) (by decide) (by decide) (by decide) (by omega))
          refine r_pushn (v := nI 0) k60_234 rfl ?_
          refine r_istore (L' := [some (.ref 36), some (.int (nI (g))), some (.int (nI (x))), some (.int (nI (y))), some (.int (ow)), some (.int (nI (((144 * g) + (12 * (jn J 45 x))) + (jn J 45 y)))), some (.int (nI 0)), some (.int (nI 0))]) k60_235 (Nat.le_of_ble_eq_true rfl) rfl ?_
          refine wp_L (L := [some (.ref 36), some (.int (nI (g))), some (.int (nI (x))), some (.int (nI (y))), none, none, some (.int (nI 0)), some (.int (nI 0))]) (⟨Or.inr rfl, Or.inr rfl, Or.inr rfl, Or.inr rfl, Or.inl rfl, Or.inl rfl, Or.inr rfl, Or.inr rfl, True.intro⟩) (l_R_e3 hB g x y hd hw 4 0 (am_u2 J 58 (((144 * g) + (12 * (jn J 45 x))) + (jn J 45 y)) (nI 1)) hT233 (by omega) 0 ?_)
          have f9 := R_e3_le hT233 (g := g) (x := x) (y := y) 4 0 0
          refine r_iload k60_268 rfl ?_
          refine r_ifeqN (by omega) k60_270 (fun z270 => ?_) (fun z270 => ?_)
          · refine r_aload k60_287 rfl ?_
            refine r_iload k60_288 rfl ?_
            refine r_ifneN (by omega) k60_290 (fun z290 => ?_) (fun z290 => ?_)
            · exact absurd z270 z290
            · refine r_pushn (v := (-8)) k60_293 rfl ?_
              refine r_goto k60_295 ?_
              refine j_put (j := 40) k60_300 hB rfl rfl ?_
              have hT300 : am_ty2 (am_u2 (am_u2 J 58 (((144 * g) + (12 * (jn J 45 x))) + (jn J 45 y)) (nI 1)) 36 40 ((-8))) := ty_w hT233 (tw_u (by decide) (by decide) (by decide))
              refine r_pushn (v := nI 0) k60_303 rfl ?_
              have e9 : R_e9 g x y ow J = (((nI 0), am_u2 (am_u2 J 58 (((144 * g) + (12 * (jn J 45 x))) + (jn J 45 y)) (nI 1)) 36 40 ((-8)))) := by rw [R_e9]; rw [am_ite_t z177, am_ite_t z198, am_ite_f z208, am_ite_t z270]
              rw [e9] at HQ
              exact r_zret k60_304 rfl (by decide) (HQ hT300)
          · refine r_aload k60_273 rfl ?_
            refine j_ref (b := 60) k60_274 hB rfl ?_
            refine r_pushn (v := nI 4) k60_277 rfl ?_
            refine r_aload k60_278 rfl ?_
            have b279 := ty_f hT (q := 36) (j := 38) (B := 13) (by decide) (by decide)
            refine j_get (j := 38) (v := (nI (jn J 36 38))) k60_279 hB rfl b279.1 ?_
            refine r_imulN k60_282 ?_
            have b283 := ty_n hT (q := 60) (B := 17) (by decide) (by decide) (4 * (jn J 36 38))
            refine j_ald (n := 52) (j := (4 * (jn J 36 38))) (v := (nI (jn J 60 (4 * (jn J 36 38))))) k60_283 hB rfl rfl (by omega) b283.1 ?_
            refine r_ifneN (by omega) k60_284 (fun z284 => ?_) (fun z284 => ?_)
            · refine r_aload k60_305 rfl ?_
              refine j_ref (b := 61) k60_306 hB rfl ?_
              refine r_aload k60_309 rfl ?_
              have b310 := ty_f hT (q := 36) (j := 38) (B := 13) (by decide) (by decide)
              refine j_get (j := 38) (v := (nI (jn J 36 38))) k60_310 hB rfl b310.1 ?_
              refine r_iload k60_313 rfl ?_
              refine j_ast (n := 13) (j := (jn J 36 38)) k60_314 hB rfl rfl (by omega) ?_
              have hT314 : am_ty2 (am_u2 (am_u2 J 58 (((144 * g) + (12 * (jn J 45 x))) + (jn J 45 y)) (nI 1)) 61 (jn J 36 38) (nI x)) := ty_w hT233 (tw_n (B := 12) (by decide) (by decide) (by decide) (by omega))
              refine r_aload k60_315 rfl ?_
              refine j_ref (b := 62) k60_316 hB rfl ?_
              refine r_aload k60_319 rfl ?_
              have b320 := ty_f hT (q := 36) (j := 38) (B := 13) (by decide) (by decide)
              refine j_get (j := 38) (v := (nI (jn J 36 38))) k60_320 hB rfl b320.1 ?_
              refine r_iload k60_323 rfl ?_
              refine j_ast (n := 13) (j := (jn J 36 38)) k60_324 hB rfl rfl (by omega) ?_
              have hT324 : am_ty2 (am_u2 (am_u2 (am_u2 J 58 (((144 * g) + (12 * (jn J 45 x))) + (jn J 45 y)) (nI 1)) 61 (jn J 36 38) (nI x)) 62 (jn J 36 38) (nI y)) := ty_w hT314 (tw_n (B := 12) (by decide) (by decide) (by decide) (by omega))
              refine r_aload k60_325 rfl ?_
              refine j_ref (b := 63) k60_326 hB rfl ?_
              refine r_aload k60_329 rfl ?_
              have b330 := ty_f hT (q := 36) (j := 38) (B := 13) (by decide) (by decide)
              refine j_get (j := 38) (v := (nI (jn J 36 38))) k60_330 hB rfl b330.1 ?_
              refine r_iload k60_333 rfl ?_
              refine j_ast (n := 13) (j := (jn J 36 38)) k60_334 hB rfl rfl (by omega) ?_
              have hT334 : am_ty2 (am_u2 (am_u2 (am_u2 (am_u2 J 58 (((144 * g) + (12 * (jn J 45 x))) + (jn J 45 y)) (nI 1)) 61 (jn J 36 38) (nI x)) 62 (jn J 36 38) (nI y)) 63 (jn J 36 38) (nI g)) := ty_w hT324 (tw_n (B := 5) (by decide) (by decide) (by decide) (by omega))
              refine r_aload k60_335 rfl ?_
              refine r_dup rfl k60_336 ?_
              have b337 := ty_f hT (q := 36) (j := 38) (B := 13) (by decide) (by decide)
              refine j_get (j := 38) (v := (nI (jn J 36 38))) k60_337 hB rfl b337.1 ?_
              refine r_pushn (v := nI 1) k60_340 rfl ?_
              refine r_iaddN k60_341 ?_
              refine j_put (j := 38) k60_342 hB rfl rfl ?_
              have hT342 : am_ty2 (am_u2 (am_u2 (am_u2 (am_u2 (am_u2 J 58 (((144 * g) + (12 * (jn J 45 x))) + (jn J 45 y)) (nI 1)) 61 (jn J 36 38) (nI x)) 62 (jn J 36 38) (nI y)) 63 (jn J 36 38) (nI g)) 36 38 (nI ((jn J 36 38) + 1))) := ty_w hT334 (tw_f (B := 13) (by decide) (by decide) (by decide) (by omega))
              refine r_aload k60_345 rfl ?_
              refine r_pushn (v := nI 3) k60_346 rfl ?_
              refine r_pushn (v := nI 0) k60_347 rfl ?_
              refine j_call (ml := 4) k60_348 rfl (show 0 < d.1 by omega) (show 19 + 4 ≤ d.2 by omega) ⟨Nat.le_of_ble_eq_true rfl, Nat.le_of_ble_eq_true rfl, am_obB hB rfl, Nat.le_of_ble_eq_true rfl⟩ rfl (rest := []) rfl (s_R_begin hB hT342 3 0 (by omega) (by omega) (by rw [jn_u (by omega)]; omega) (ht) (show 1 ≤ d.1 - 1 by omega) (show 21 ≤ d.2 - 23 by omega)) (fun r h1 hq => ?_)
              obtain ⟨rfl, rfl, hT348⟩ := hq
              show am_wp _ _ _ [some (.ref 36), some (.int (nI (g))), some (.int (nI (x))), some (.int (nI (y))), none, none, some (.int (nI ((R_e3 g x y 4 0 (am_u2 J 58 (((144 * g) + (12 * (jn J 45 x))) + (jn J 45 y)) (nI 1)) 0)))), none] [] _ _
              refine r_pushn (v := nI 1) k60_351 rfl ?_
              have e9 : R_e9 g x y ow J = (((nI 1), R_begin (am_u2 (am_u2 (am_u2 (am_u2 (am_u2 J 58 (((144 * g) + (12 * (jn J 45 x))) + (jn J 45 y)) (nI 1)) 61 (jn J 36 38) (nI x)) 62 (jn J 36 38) (nI y)) 63 (jn J 36 38) (nI g)) 36 38 (nI ((jn J 36 38) + 1))) 3 0)) := by rw [R_e9]; rw [am_ite_t z177, am_ite_t z198, am_ite_f z208, am_ite_f z270, am_ite_f z284]
              rw [e9] at HQ
              exact r_zret k60_352 rfl (by decide) (HQ hT348)
            · refine r_aload k60_287 rfl ?_
              refine r_iload k60_288 rfl ?_
              refine r_ifneN (by omega) k60_290 (fun z290 => ?_) (fun z290 => ?_)
              · refine r_pushn (v := (-9)) k60_298 rfl ?_
                refine j_put (j := 40) k60_300 hB rfl rfl ?_
                have hT300 : am_ty2 (am_u2 (am_u2 J 58 (((144 * g) + (12 * (jn J 45 x))) + (jn J 45 y)) (nI 1)) 36 40 ((-9))) := ty_w hT233 (tw_u (by decide) (by decide) (by decide))
                refine r_pushn (v := nI 0) k60_303 rfl ?_
                have e9 : R_e9 g x y ow J = (((nI 0), am_u2 (am_u2 J 58 (((144 * g) + (12 * (jn J 45 x))) + (jn J 45 y)) (nI 1)) 36 40 ((-9)))) := by rw [R_e9]; rw [am_ite_t z177, am_ite_t z198, am_ite_f z208, am_ite_f z270, am_ite_t z284]
                rw [e9] at HQ
                exact r_zret k60_304 rfl (by decide) (HQ hT300)
              · exact absurd z290 z270
      · refine r_aload k60_211 rfl ?_
        refine j_ref (b := 73) k60_212 hB rfl ?_
        refine r_pushn (v := nI 5) k60_215 rfl ?_
        refine r_dup2 rfl rfl k60_216 ?_
        refine j_ald (n := 10) (j := 5) (v := (J 73 5)) k60_217 hB rfl rfl (by omega) rfl ?_
        refine r_pushn (v := nI 1) k60_218 rfl ?_
        refine r_iadd k60_219 ?_
        refine j_ast (n := 10) (j := 5) k60_220 hB rfl rfl (by omega) ?_
        have hT220 : am_ty2 (am_u2 J 73 5 ((J 73 5) + (nI 1))) := ty_w hT (tw_a (by decide) (by decide) (by decide))
        refine r_iload k60_221 rfl ?_
        refine r_ifne k60_223 (fun z223 => ?_) (fun z223 => ?_)
        · exact absurd z198 z223
        · refine r_aload k60_226 rfl ?_
          refine j_ref (b := 58) k60_227 hB rfl ?_
          refine r_iload k60_230 rfl ?_
          refine r_pushn (v := nI 1) k60_232 rfl ?_
          refine j_zst (n := 720) (j := (((144 * g) + (12 * (jn J 45 x))) + (jn J 45 y))) k60_233 hB rfl rfl (by omega) (by decide) ?_
          have hT233 : am_ty2 (am_u2 (am_u2 J 73 5 ((J 73 5) + (nI 1))) 58 (((144 * g) + (12 * (jn J 45 x))) + (jn J 45 y)) (nI 1)) := ty_w hT220 (tw_n (B := 2) (by decide) (by decide) (by decide) (by omega))
          refine r_pushn (v := nI 0) k60_234 rfl ?_
          refine r_istore (L' := [some (.ref 36), some (.int (nI (g))), some (.int (nI (x))), some (.int (nI (y))), some (.int (ow)), some (.int (nI (((144 * g) + (12 * (jn J 45 x))) + (jn J 45 y)))), some (.int (nI 0)), some (.int (nI 0))]) k60_235 (Nat.le_of_ble_eq_true rfl) rfl ?_
          refine wp_L (L := [some (.ref 36), some (.int (nI (g))), some (.int (nI (x))), some (.int (nI (y))), none, none, some (.int (nI 0)), some (.int (nI 0))]) (⟨Or.inr rfl, Or.inr rfl, Or.inr rfl, Or.inr rfl, Or.inl rfl, Or.inl rfl, Or.inr rfl, Or.inr rfl, True.intro⟩) (l_R_e3 hB g x y hd hw 4 0 (am_u2 (am_u2 J 73 5 ((J 73 5) + (nI 1))) 58 (((144 * g) + (12 * (jn J 45 x))) + (jn J 45 y)) (nI 1)) hT233 (by omega) 0 ?_)
          have f9 := R_e3_le hT233 (g := g) (x := x) (y := y) 4 0 0
          refine r_iload k60_268 rfl ?_
          refine r_ifeqN (by omega) k60_270 (fun z270 => ?_) (fun z270 => ?_)
          · refine r_aload k60_287 rfl ?_
            refine r_iload k60_288 rfl ?_
            refine r_ifneN (by omega) k60_290 (fun z290 => ?_) (fun z290 => ?_)
            · exact absurd z270 z290
            · refine r_pushn (v := (-8)) k60_293 rfl ?_
              refine r_goto k60_295 ?_
              refine j_put (j := 40) k60_300 hB rfl rfl ?_
              have hT300 : am_ty2 (am_u2 (am_u2 (am_u2 J 73 5 ((J 73 5) + (nI 1))) 58 (((144 * g) + (12 * (jn J 45 x))) + (jn J 45 y)) (nI 1)) 36 40 ((-8))) := ty_w hT233 (tw_u (by decide) (by decide) (by decide))
              refine r_pushn (v := nI 0) k60_303 rfl ?_
              have e9 : R_e9 g x y ow J = (((nI 0), am_u2 (am_u2 (am_u2 J 73 5 ((J 73 5) + (nI 1))) 58 (((144 * g) + (12 * (jn J 45 x))) + (jn J 45 y)) (nI 1)) 36 40 ((-8)))) := by rw [R_e9]; rw [am_ite_t z177, am_ite_t z198, am_ite_t z208, am_ite_t z270]
              rw [e9] at HQ
              exact r_zret k60_304 rfl (by decide) (HQ hT300)
          · refine r_aload k60_273 rfl ?_
            refine j_ref (b := 60) k60_274 hB rfl ?_
            refine r_pushn (v := nI 4) k60_277 rfl ?_
            refine r_aload k60_278 rfl ?_
            have b279 := ty_f hT (q := 36) (j := 38) (B := 13) (by decide) (by decide)
            refine j_get (j := 38) (v := (nI (jn J 36 38))) k60_279 hB rfl b279.1 ?_
            refine r_imulN k60_282 ?_
            have b283 := ty_n hT (q := 60) (B := 17) (by decide) (by decide) (4 * (jn J 36 38))
            refine j_ald (n := 52) (j := (4 * (jn J 36 38))) (v := (nI (jn J 60 (4 * (jn J 36 38))))) k60_283 hB rfl rfl (by omega) b283.1 ?_
            refine r_ifneN (by omega) k60_284 (fun z284 => ?_) (fun z284 => ?_)
            · refine r_aload k60_305 rfl ?_
              refine j_ref (b := 61) k60_306 hB rfl ?_
              refine r_aload k60_309 rfl ?_
              have b310 := ty_f hT (q := 36) (j := 38) (B := 13) (by decide) (by decide)
              refine j_get (j := 38) (v := (nI (jn J 36 38))) k60_310 hB rfl b310.1 ?_
              refine r_iload k60_313 rfl ?_
              refine j_ast (n := 13) (j := (jn J 36 38)) k60_314 hB rfl rfl (by omega) ?_
              have hT314 : am_ty2 (am_u2 (am_u2 (am_u2 J 73 5 ((J 73 5) + (nI 1))) 58 (((144 * g) + (12 * (jn J 45 x))) + (jn J 45 y)) (nI 1)) 61 (jn J 36 38) (nI x)) := ty_w hT233 (tw_n (B := 12) (by decide) (by decide) (by decide) (by omega))
              refine r_aload k60_315 rfl ?_
              refine j_ref (b := 62) k60_316 hB rfl ?_
              refine r_aload k60_319 rfl ?_
              have b320 := ty_f hT (q := 36) (j := 38) (B := 13) (by decide) (by decide)
              refine j_get (j := 38) (v := (nI (jn J 36 38))) k60_320 hB rfl b320.1 ?_
              refine r_iload k60_323 rfl ?_
              refine j_ast (n := 13) (j := (jn J 36 38)) k60_324 hB rfl rfl (by omega) ?_
              have hT324 : am_ty2 (am_u2 (am_u2 (am_u2 (am_u2 J 73 5 ((J 73 5) + (nI 1))) 58 (((144 * g) + (12 * (jn J 45 x))) + (jn J 45 y)) (nI 1)) 61 (jn J 36 38) (nI x)) 62 (jn J 36 38) (nI y)) := ty_w hT314 (tw_n (B := 12) (by decide) (by decide) (by decide) (by omega))
              refine r_aload k60_325 rfl ?_
              refine j_ref (b := 63) k60_326 hB rfl ?_
              refine r_aload k60_329 rfl ?_
              have b330 := ty_f hT (q := 36) (j := 38) (B := 13) (by decide) (by decide)
              refine j_get (j := 38) (v := (nI (jn J 36 38))) k60_330 hB rfl b330.1 ?_
              refine r_iload k60_333 rfl ?_
              refine j_ast (n := 13) (j := (jn J 36 38)) k60_334 hB rfl rfl (by omega) ?_
              have hT334 : am_ty2 (am_u2 (am_u2 (am_u2 (am_u2 (am_u2 J 73 5 ((J 73 5) + (nI 1))) 58 (((144 * g) + (12 * (jn J 45 x))) + (jn J 45 y)) (nI 1)) 61 (jn J 36 38) (nI x)) 62 (jn J 36 38) (nI y)) 63 (jn J 36 38) (nI g)) := ty_w hT324 (tw_n (B := 5) (by decide) (by decide) (by decide) (by omega))
              refine r_aload k60_335 rfl ?_
              refine r_dup rfl k60_336 ?_
              have b337 := ty_f hT (q := 36) (j := 38) (B := 13) (by decide) (by decide)
              refine j_get (j := 38) (v := (nI (jn J 36 38))) k60_337 hB rfl b337.1 ?_
              refine r_pushn (v := nI 1) k60_340 rfl ?_
              refine r_iaddN k60_341 ?_
              refine j_put (j := 38) k60_342 hB rfl rfl ?_
              have hT342 : am_ty2 (am_u2 (am_u2 (am_u2 (am_u2 (am_u2 (am_u2 J 73 5 ((J 73 5) + (nI 1))) 58 (((144 * g) + (12 * (jn J 45 x))) + (jn J 45 y)) (nI 1)) 61 (jn J 36 38) (nI x)) 62 (jn J 36 38) (nI y)) 63 (jn J 36 38) (nI g)) 36 38 (nI ((jn J 36 38) + 1))) := ty_w hT334 (tw_f (B := 13) (by decide) (by decide) (by decide) (by omega))
              refine r_aload k60_345 rfl ?_
              refine r_pushn (v := nI 3) k60_346 rfl ?_
              refine r_pushn (v := nI 0) k60_347 rfl ?_
              refine j_call (ml := 4) k60_348 rfl (show 0 < d.1 by omega) (show 19 + 4 ≤ d.2 by omega) ⟨Nat.le_of_ble_eq_true rfl, Nat.le_of_ble_eq_true rfl, am_obB hB rfl, Nat.le_of_ble_eq_true rfl⟩ rfl (rest := []) rfl (s_R_begin hB hT342 3 0 (by omega) (by omega) (by rw [jn_u (by omega)]; omega) (ht) (show 1 ≤ d.1 - 1 by omega) (show 21 ≤ d.2 - 23 by omega)) (fun r h1 hq => ?_)
              obtain ⟨rfl, rfl, hT348⟩ := hq
              show am_wp _ _ _ [some (.ref 36), some (.int (nI (g))), some (.int (nI (x))), some (.int (nI (y))), none, none, some (.int (nI ((R_e3 g x y 4 0 (am_u2 (am_u2 J 73 5 ((J 73 5) + (nI 1))) 58 (((144 * g) + (12 * (jn J 45 x))) + (jn J 45 y)) (nI 1)) 0)))), none] [] _ _
              refine r_pushn (v := nI 1) k60_351 rfl ?_
              have e9 : R_e9 g x y ow J = (((nI 1), R_begin (am_u2 (am_u2 (am_u2 (am_u2 (am_u2 (am_u2 J 73 5 ((J 73 5) + (nI 1))) 58 (((144 * g) + (12 * (jn J 45 x))) + (jn J 45 y)) (nI 1)) 61 (jn J 36 38) (nI x)) 62 (jn J 36 38) (nI y)) 63 (jn J 36 38) (nI g)) 36 38 (nI ((jn J 36 38) + 1))) 3 0)) := by rw [R_e9]; rw [am_ite_t z177, am_ite_t z198, am_ite_t z208, am_ite_f z270, am_ite_f z284]
              rw [e9] at HQ
              exact r_zret k60_352 rfl (by decide) (HQ hT348)
            · refine r_aload k60_287 rfl ?_
              refine r_iload k60_288 rfl ?_
              refine r_ifneN (by omega) k60_290 (fun z290 => ?_) (fun z290 => ?_)
              · refine r_pushn (v := (-9)) k60_298 rfl ?_
                refine j_put (j := 40) k60_300 hB rfl rfl ?_
                have hT300 : am_ty2 (am_u2 (am_u2 (am_u2 J 73 5 ((J 73 5) + (nI 1))) 58 (((144 * g) + (12 * (jn J 45 x))) + (jn J 45 y)) (nI 1)) 36 40 ((-9))) := ty_w hT233 (tw_u (by decide) (by decide) (by decide))
                refine r_pushn (v := nI 0) k60_303 rfl ?_
                have e9 : R_e9 g x y ow J = (((nI 0), am_u2 (am_u2 (am_u2 J 73 5 ((J 73 5) + (nI 1))) 58 (((144 * g) + (12 * (jn J 45 x))) + (jn J 45 y)) (nI 1)) 36 40 ((-9)))) := by rw [R_e9]; rw [am_ite_t z177, am_ite_t z198, am_ite_t z208, am_ite_f z270, am_ite_t z284]
                rw [e9] at HQ
                exact r_zret k60_304 rfl (by decide) (HQ hT300)
              · exact absurd z290 z270
theorem fr_R_e9 {g : Nat} {x : Nat} {y : Nat} {ow : Int32} {J : Nat → Nat → Int32} (q : Nat) (hq : ¬ q = 36 ∧ ¬ q = 58 ∧ ¬ q = 61 ∧ ¬ q = 62 ∧ ¬ q = 63 ∧ ¬ q = 64 ∧ ¬ q = 65 ∧ ¬ q = 66 ∧ ¬ q = 67 ∧ ¬ q = 68 ∧ ¬ q = 69 ∧ ¬ q = 70 ∧ ¬ q = 71 ∧ ¬ q = 73) : (R_e9 g x y ow J).2 q = J q := by
  unfold R_e9
  refine fr_i2 (fun _ => ?_) (fun _ => ?_)
  · refine fr_i2 (fun _ => ?_) (fun _ => ?_)
    · refine fr_i2 (fun _ => ?_) (fun _ => ?_)
      · refine fr_i2 (fun _ => ?_) (fun _ => ?_)
        · exact (fr_u (by omega)).trans ((fr_u (by omega)).trans (fr_u (by omega)))
        · refine fr_i2 (fun _ => ?_) (fun _ => ?_)
          · exact (fr_u (by omega)).trans ((fr_u (by omega)).trans (fr_u (by omega)))
          · exact (fr_R_begin q (by omega)).trans ((fr_u (by omega)).trans ((fr_u (by omega)).trans ((fr_u (by omega)).trans ((fr_u (by omega)).trans ((fr_u (by omega)).trans (fr_u (by omega)))))))
      · refine fr_i2 (fun _ => ?_) (fun _ => ?_)
        · exact (fr_u (by omega)).trans (fr_u (by omega))
        · refine fr_i2 (fun _ => ?_) (fun _ => ?_)
          · exact (fr_u (by omega)).trans (fr_u (by omega))
          · exact (fr_R_begin q (by omega)).trans ((fr_u (by omega)).trans ((fr_u (by omega)).trans ((fr_u (by omega)).trans ((fr_u (by omega)).trans (fr_u (by omega))))))
    · refine fr_i2 (fun _ => ?_) (fun _ => ?_)
      · exact (fr_u (by omega)).trans (fr_u (by omega))
      · refine fr_i2 (fun _ => ?_) (fun _ => ?_)
        · exact (fr_u (by omega)).trans (fr_u (by omega))
        · exact (fr_R_begin q (by omega)).trans ((fr_u (by omega)).trans ((fr_u (by omega)).trans ((fr_u (by omega)).trans ((fr_u (by omega)).trans (fr_u (by omega))))))
  · refine fr_i2 (fun _ => ?_) (fun _ => ?_)
    · refine fr_i2 (fun _ => ?_) (fun _ => ?_)
      · refine fr_i2 (fun _ => ?_) (fun _ => ?_)
        · exact (fr_u (by omega)).trans ((fr_u (by omega)).trans (fr_u (by omega)))
        · refine fr_i2 (fun _ => ?_) (fun _ => ?_)
          · exact (fr_u (by omega)).trans ((fr_u (by omega)).trans (fr_u (by omega)))
          · exact (fr_R_begin q (by omega)).trans ((fr_u (by omega)).trans ((fr_u (by omega)).trans ((fr_u (by omega)).trans ((fr_u (by omega)).trans ((fr_u (by omega)).trans (fr_u (by omega)))))))
      · refine fr_i2 (fun _ => ?_) (fun _ => ?_)
        · exact (fr_u (by omega)).trans (fr_u (by omega))
        · refine fr_i2 (fun _ => ?_) (fun _ => ?_)
          · exact (fr_u (by omega)).trans (fr_u (by omega))
          · exact (fr_R_begin q (by omega)).trans ((fr_u (by omega)).trans ((fr_u (by omega)).trans ((fr_u (by omega)).trans ((fr_u (by omega)).trans (fr_u (by omega))))))
    · refine fr_i2 (fun _ => ?_) (fun _ => ?_)
      · exact (fr_u (by omega)).trans (fr_u (by omega))
      · refine fr_i2 (fun _ => ?_) (fun _ => ?_)
        · exact (fr_u (by omega)).trans (fr_u (by omega))
        · exact (fr_R_begin q (by omega)).trans ((fr_u (by omega)).trans ((fr_u (by omega)).trans ((fr_u (by omega)).trans ((fr_u (by omega)).trans (fr_u (by omega))))))
noncomputable def R_enter (J : Nat → Nat → Int32) (g : Nat) (x : Nat) (y : Nat) : Int32 × (Nat → Nat → Int32) := (R_e9 g x y ((R_e2 g x y 16 0 ((R_e1 g x y 4 0 J)) (nI 0)).2) ((R_e2 g x y 16 0 ((R_e1 g x y 4 0 J)) (nI 0)).1))
set_option maxRecDepth 20000 in
theorem s_R_enter {d : am_D} {h : am_H} {J : Nat → Nat → Int32} (hB : am_B h) (hT : am_ty2 J) (g : Nat) (x : Nat) (y : Nat) (hg : g < 5) (hx : x < 12) (hy : y < 12) (hl12 : jn J 36 38 < 12) (ht : jn J 36 39 < 320) (hd : 4 ≤ d.1) (hw : 96 ≤ d.2) : am_wp d 60 0 [some (.ref 36), some (.int (nI (g))), some (.int (nI (x))), some (.int (nI (y))), none, none, none, none] [] (am_si h J) (fun r h' => r = some (.int (R_enter J g x y).1) ∧ h' = am_si h (R_enter J g x y).2 ∧ am_ty2 (R_enter J g x y).2) := by
  refine r_pushn (v := nI 0) k60_0 rfl ?_
  refine r_istore (L' := [some (.ref 36), some (.int (nI (g))), some (.int (nI (x))), some (.int (nI (y))), some (.int (nI 0)), none, none, none]) k60_1 (Nat.le_of_ble_eq_true rfl) rfl ?_
  refine r_pushn (v := nI 0) k60_3 rfl ?_
  refine r_istore (L' := [some (.ref 36), some (.int (nI (g))), some (.int (nI (x))), some (.int (nI (y))), some (.int (nI 0)), some (.int (nI 0)), none, none]) k60_4 (Nat.le_of_ble_eq_true rfl) rfl ?_
  refine (l_R_e1 hB g x y hd hw 4 0 J hT (by omega) (fun hT9R_e1 => ?_))
  refine r_pushn (v := nI 0) k60_33 rfl ?_
  refine r_istore (L' := [some (.ref 36), some (.int (nI (g))), some (.int (nI (x))), some (.int (nI (y))), some (.int (nI 0)), some (.int (nI 0)), none, none]) k60_34 (Nat.le_of_ble_eq_true rfl) rfl ?_
  refine (l_R_e2 hB g x y (by omega) (by omega) (by omega) hd hw 16 0 ((R_e1 g x y 4 0 J)) hT9R_e1 (by omega) (nI 0) (R_e1_0 4 0 J (by omega) (fun kd h9 => absurd h9 (by omega))) (fun hT9R_e2 => ?_))
  have f36 : ((R_e2 g x y 16 0 ((R_e1 g x y 4 0 J)) (nI 0)).1) 36 = J 36 := (fl_R_e2 36 (by omega) _ _ _ _).trans (fl_R_e1 36 (by omega) _ _ _)
  have g38 : jn ((R_e2 g x y 16 0 ((R_e1 g x y 4 0 J)) (nI 0)).1) 36 38 < 12 := by unfold jn at hl12 ⊢; rw [f36]; exact hl12
  have g39 : jn ((R_e2 g x y 16 0 ((R_e1 g x y 4 0 J)) (nI 0)).1) 36 39 < 320 := by unfold jn at ht ⊢; rw [f36]; exact ht
  have e9 : R_enter J g x y = (R_e9 g x y ((R_e2 g x y 16 0 ((R_e1 g x y 4 0 J)) (nI 0)).2) ((R_e2 g x y 16 0 ((R_e1 g x y 4 0 J)) (nI 0)).1)) := rfl
  exact (l_R_e9 hB g x y ((R_e2 g x y 16 0 ((R_e1 g x y 4 0 J)) (nI 0)).2) (by omega) (by omega) (by omega) hd hw hT9R_e2 g38 g39 (fun hT9 => ⟨by rw [e9], by rw [e9], by rw [e9]; exact hT9⟩))
theorem fr_R_enter {J : Nat → Nat → Int32} {g : Nat} {x : Nat} {y : Nat} (q : Nat) (hq : ¬ q = 36 ∧ ¬ q = 58 ∧ ¬ q = 59 ∧ ¬ q = 60 ∧ ¬ q = 61 ∧ ¬ q = 62 ∧ ¬ q = 63 ∧ ¬ q = 64 ∧ ¬ q = 65 ∧ ¬ q = 66 ∧ ¬ q = 67 ∧ ¬ q = 68 ∧ ¬ q = 69 ∧ ¬ q = 70 ∧ ¬ q = 71 ∧ ¬ q = 73) : (R_enter J g x y).2 q = J q := by
  unfold R_enter
  exact (fr_R_e9 q (by omega)).trans ((fl_R_e2 q (by omega) _ _ _ _).trans (fl_R_e1 q (by omega) _ _ _))
