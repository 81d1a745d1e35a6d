/-! The reference: instances. -/
theorem R_sl_congr {J K : Nat → Nat → Int32} (h1 : K 39 = J 39) (h2 : K 43 = J 43) {c nm : Nat} : ∀ m k, R_sl c nm m k K = R_sl c nm m k J := by
  intro m
  induction m with
  | zero => intro k; rfl
  | succ m ih =>
    intro k
    rw [R_sl, R_sl, ih (k + 1)]
    unfold jn
    rw [h1, h2]
theorem R_slotOf_congr {J K : Nat → Nat → Int32} (h1 : K 39 = J 39) (h2 : K 43 = J 43) (h3 : K 40 = J 40) {c nm : Nat} : R_slotOf K c nm = R_slotOf J c nm := by
  unfold R_slotOf
  rw [R_sl_congr h1 h2]
  unfold jn
  rw [h3]
def R_now (J : Nat → Nat → Int32) (i : Nat) (now : Int32) : Prop := ∀ nm, nm < 6 → ¬ (now &&& ((nI 1) <<< ((nI nm) &&& 31))) = 0 → ¬ R_slotOf J (jn J 45 i) nm = -1
theorem R_now_u {J K : Nat → Nat → Int32} {i : Nat} {now : Int32} (h : R_now J i now) (h1 : K 39 = J 39) (h2 : K 43 = J 43) (h3 : K 40 = J 40) (h4 : K 45 = J 45) : R_now K i now := fun nm hn z => by
  have e : jn K 45 i = jn J 45 i := by unfold jn; rw [h4]
  rw [e, R_slotOf_congr h1 h2 h3]
  exact h nm hn z
theorem i_orand (a b c : Int32) : (a ||| b) &&& c = (a &&& c) ||| (b &&& c) := by
  apply Int32.toBitVec_inj.mp
  show (a.toBitVec ||| b.toBitVec) &&& c.toBitVec = (a.toBitVec &&& c.toBitVec) ||| (b.toBitVec &&& c.toBitVec)
  ext i
  simp [Bool.and_or_distrib_right]
theorem i_bits : ∀ k, k < 6 → ∀ n, n < 6 → ¬ k = n → ((nI 1) <<< ((nI k) &&& 31)) &&& ((nI 1) <<< ((nI n) &&& 31)) = 0 := by decide
theorem R_lc_0 {J : Nat → Nat → Int32} {c nm : Nat} (hn : nm < 6) (hs : R_slotOf J c nm = -1) : ∀ m k w, k + m = 6 → w &&& ((nI 1) <<< ((nI nm) &&& 31)) = 0 → (R_lc c m k J w) &&& ((nI 1) <<< ((nI nm) &&& 31)) = 0 := by
  intro m
  induction m with
  | zero => intro k w _ h; rw [R_lc]; exact h
  | succ m ih =>
    intro k w hk h
    rw [R_lc]
    by_cases z1 : (R_slotOf J c k) < 0
    · rw [am_ite_t z1]; exact ih (k + 1) w (by omega) h
    · rw [am_ite_f z1]
      by_cases z2 : (jn J 43 (jx (R_slotOf J c k))) = 3
      · rw [am_ite_t z2]; exact ih (k + 1) w (by omega) h
      · rw [am_ite_f z2]
        refine ih (k + 1) _ (by omega) ?_
        have hne : ¬ k = nm := fun e => z1 (by rw [e, hs]; decide)
        rw [i_orand, h, i_bits k (by omega) nm hn hne]
        decide
theorem R_now_0 {J : Nat → Nat → Int32} {i : Nat} : R_now J i (R_locals J (jn J 45 i)) := fun nm hn z e => z (R_lc_0 hn e 6 0 _ (by omega) (by
  show (nI 0) &&& _ = 0
  rw [nI_0]
  exact Int32.zero_and))
noncomputable def R_fl (i : Nat) (now : Int32) : Nat → Nat → (Nat → Nat → Int32) → (Nat → Nat → Int32)
  | 0, k, J => (J)
  | m + 1, k, J => (am_ite ((now &&& ((nI 1) <<< ((nI k) &&& 31))) = 0) (R_fl i now m (k + 1) (am_u2 J 47 i ((J 47 i) &&& (((nI 1) <<< ((nI k) &&& 31)) ^^^ ((-1)))))) (am_ite (((J 46 i) &&& ((nI 1) <<< ((nI k) &&& 31))) = 0) (am_ite ((jn J 43 (jx (R_slotOf J (jn J 45 i) k))) = 1) (R_fl i now m (k + 1) (am_u2 (am_u2 J 47 i ((J 47 i) ||| ((nI 1) <<< ((nI k) &&& 31)))) 48 ((6 * i) + k) (J 44 (jx (R_slotOf J (jn J 45 i) k))))) (R_fl i now m (k + 1) (am_u2 J 47 i ((J 47 i) &&& (((nI 1) <<< ((nI k) &&& 31)) ^^^ ((-1))))))) (R_fl i now m (k + 1) J)))
set_option maxRecDepth 20000 in
theorem l_R_fl {d : am_D} {h : am_H} {Q : Option Value → am_H → Prop} (hB : am_B h) (i : Nat) (now : Int32) (hi : i < 12) (hd : 2 ≤ d.1) (hw : 48 ≤ d.2) : ∀ (m k : Nat) (J : Nat → Nat → Int32), am_ty2 J → k + m = 6 → R_now J i now → (am_ty2 (R_fl i now m k J) → am_wp d 41 146 [some (.ref 36), some (.int (nI (i))), some (.int (now)), none, none, none] [] (am_si h (R_fl i now m k J)) Q) → am_wp d 41 13 [some (.ref 36), some (.int (nI (i))), some (.int (now)), some (.int (nI (k))), none, none] [] (am_si h J) Q := by
  intro m
  induction m with
  | zero =>
    intro k J hT hk hc0 HQ
    refine r_iload k41_13 rfl ?_
    refine r_pushn (v := nI 6) k41_14 rfl ?_
    refine r_icmpgeN (by omega) (by omega) k41_16 (fun z16 => ?_) (fun z16 => ?_)
    · have e9 : R_fl i now 0 k J = (J) := by rw [R_fl]
      rw [e9] at HQ
      exact wp_L (L := [some (.ref 36), some (.int (nI (i))), some (.int (now)), none, none, none]) (⟨Or.inr rfl, Or.inr rfl, Or.inr rfl, Or.inl rfl, Or.inl rfl, Or.inl rfl, True.intro⟩) (HQ hT)
    · exact absurd z16 (by omega)
  | succ m ih =>
    intro k J hT hk hc0 HQ
    refine r_iload k41_13 rfl ?_
    refine r_pushn (v := nI 6) k41_14 rfl ?_
    refine r_icmpgeN (by omega) (by omega) k41_16 (fun z16 => ?_) (fun z16 => ?_)
    · exact absurd z16 (by omega)
    · refine r_pushn (v := nI 1) k41_19 rfl ?_
      refine r_iload k41_20 rfl ?_
      refine r_ishl k41_21 ?_
      refine r_istore (L' := [some (.ref 36), some (.int (nI (i))), some (.int (now)), some (.int (nI (k))), some (.int ((nI 1) <<< ((nI k) &&& 31))), none]) k41_22 (Nat.le_of_ble_eq_true rfl) rfl ?_
      refine r_aload k41_24 rfl ?_
      refine r_aload k41_25 rfl ?_
      refine j_ref (b := 45) k41_26 hB rfl ?_
      refine r_iload k41_29 rfl ?_
      have b30 := ty_n hT (q := 45) (B := 12) (by decide) (by decide) i
      refine j_ald (n := 12) (j := i) (v := (nI (jn J 45 i))) k41_30 hB rfl rfl (by omega) b30.1 ?_
      refine r_iload k41_31 rfl ?_
      refine j_call (ml := 5) k41_32 rfl (show 0 < d.1 by omega) (show 19 + 5 ≤ d.2 by omega) ⟨Nat.le_of_ble_eq_true rfl, Nat.le_of_ble_eq_true rfl, am_obB hB rfl, Nat.le_of_ble_eq_true rfl⟩ rfl (rest := []) rfl (s_R_slotOf hB hT (jn J 45 i) k (by omega) (by omega)) (fun r h1 hq => ?_)
      obtain ⟨rfl, rfl⟩ := hq
      show am_wp _ _ _ [some (.ref 36), some (.int (nI (i))), some (.int (now)), some (.int (nI (k))), some (.int ((nI 1) <<< ((nI k) &&& 31))), none] [.int (R_slotOf J (jn J 45 i) k)] _ _
      refine r_istore (L' := [some (.ref 36), some (.int (nI (i))), some (.int (now)), some (.int (nI (k))), some (.int ((nI 1) <<< ((nI k) &&& 31))), some (.int (R_slotOf J (jn J 45 i) k))]) k41_35 (Nat.le_of_ble_eq_true rfl) rfl ?_
      refine r_iload k41_37 rfl ?_
      refine r_iload k41_38 rfl ?_
      refine r_iand k41_40 ?_
      refine r_ifne k41_41 (fun z41 => ?_) (fun z41 => ?_)
      · refine r_aload k41_60 rfl ?_
        refine j_ref (b := 46) k41_61 hB rfl ?_
        refine r_iload k41_64 rfl ?_
        refine j_ald (n := 12) (j := i) (v := (J 46 i)) k41_65 hB rfl rfl (by omega) rfl ?_
        refine r_iload k41_66 rfl ?_
        refine r_iand k41_68 ?_
        refine r_ifne k41_69 (fun z69 => ?_) (fun z69 => ?_)
        · refine r_aload k41_115 rfl ?_
          refine j_ref (b := 46) k41_116 hB rfl ?_
          refine r_iload k41_119 rfl ?_
          refine j_ald (n := 12) (j := i) (v := (J 46 i)) k41_120 hB rfl rfl (by omega) rfl ?_
          refine r_iload k41_121 rfl ?_
          refine r_iand k41_123 ?_
          refine r_ifne k41_124 (fun z124 => ?_) (fun z124 => ?_)
          · refine r_iinc (v := (nI (k + 1))) (L' := [some (.ref 36), some (.int (nI (i))), some (.int (now)), some (.int (nI (k + 1))), some (.int ((nI 1) <<< ((nI k) &&& 31))), some (.int (R_slotOf J (jn J 45 i) k))]) k41_140 rfl (Nat.le_of_ble_eq_true rfl) (nI_1 _) rfl ?_
            refine r_goto k41_143 ?_
            have e9 : R_fl i now (m + 1) k J = R_fl i now m (k + 1) J := by rw [R_fl]; rw [am_ite_f z41, am_ite_f z69]
            rw [e9] at HQ
            exact wp_L (L := [some (.ref 36), some (.int (nI (i))), some (.int (now)), some (.int (nI (k + 1))), none, none]) (⟨Or.inr rfl, Or.inr rfl, Or.inr rfl, Or.inr rfl, Or.inl rfl, Or.inl rfl, True.intro⟩) (ih (k + 1) J hT (by omega) (R_now_u hc0 rfl rfl rfl rfl) HQ)
          · exact absurd z124 z69
        · have c72 := R_slotOf_n hT (by omega) (hc0 _ (by omega) z41)
          rw [show ([some (.ref 36), some (.int (nI (i))), some (.int (now)), some (.int (nI (k))), some (.int ((nI 1) <<< ((nI k) &&& 31))), some (.int (R_slotOf J (jn J 45 i) k))] : am_L) = [some (.ref 36), some (.int (nI (i))), some (.int (now)), some (.int (nI (k))), some (.int ((nI 1) <<< ((nI k) &&& 31))), some (.int (nI (jx (R_slotOf J (jn J 45 i) k))))] by rw [← c72.1]]
          refine r_aload k41_72 rfl ?_
          refine j_ref (b := 43) k41_73 hB rfl ?_
          refine r_iload k41_76 rfl ?_
          have b78 := ty_n hT (q := 43) (B := 4) (by decide) (by decide) (jx (R_slotOf J (jn J 45 i) k))
          refine j_ald (n := 72) (j := (jx (R_slotOf J (jn J 45 i) k))) (v := (nI (jn J 43 (jx (R_slotOf J (jn J 45 i) k))))) k41_78 hB rfl rfl (by omega) b78.1 ?_
          refine r_pushn (v := nI 1) k41_79 rfl ?_
          refine r_icmpneN (by omega) (by omega) k41_80 (fun z80 => ?_) (fun z80 => ?_)
          · refine r_aload k41_115 rfl ?_
            refine j_ref (b := 46) k41_116 hB rfl ?_
            refine r_iload k41_119 rfl ?_
            refine j_ald (n := 12) (j := i) (v := (J 46 i)) k41_120 hB rfl rfl (by omega) rfl ?_
            refine r_iload k41_121 rfl ?_
            refine r_iand k41_123 ?_
            refine r_ifne k41_124 (fun z124 => ?_) (fun z124 => ?_)
            · exact absurd z69 z124
            · refine r_aload k41_127 rfl ?_
              refine j_ref (b := 47) k41_128 hB rfl ?_
              refine r_iload k41_131 rfl ?_
              refine r_dup2 rfl rfl k41_132 ?_
              refine j_ald (n := 12) (j := i) (v := (J 47 i)) k41_133 hB rfl rfl (by omega) rfl ?_
              refine r_iload k41_134 rfl ?_
              refine r_pushn (v := (-1)) k41_136 rfl ?_
              refine r_ixor k41_137 ?_
              refine r_iand k41_138 ?_
              refine j_ast (n := 12) (j := i) k41_139 hB rfl rfl (by omega) ?_
              have hT139 : am_ty2 (am_u2 J 47 i ((J 47 i) &&& (((nI 1) <<< ((nI k) &&& 31)) ^^^ ((-1))))) := ty_w hT (tw_a (by decide) (by decide) (by decide))
              refine r_iinc (v := (nI (k + 1))) (L' := [some (.ref 36), some (.int (nI (i))), some (.int (now)), some (.int (nI (k + 1))), some (.int ((nI 1) <<< ((nI k) &&& 31))), some (.int (nI (jx (R_slotOf J (jn J 45 i) k))))]) k41_140 rfl (Nat.le_of_ble_eq_true rfl) (nI_1 _) rfl ?_
              refine r_goto k41_143 ?_
              have e9 : R_fl i now (m + 1) k J = R_fl i now m (k + 1) (am_u2 J 47 i ((J 47 i) &&& (((nI 1) <<< ((nI k) &&& 31)) ^^^ ((-1))))) := by rw [R_fl]; rw [am_ite_f z41, am_ite_t z69, am_ite_f z80]
              rw [e9] at HQ
              exact wp_L (L := [some (.ref 36), some (.int (nI (i))), some (.int (now)), some (.int (nI (k + 1))), none, none]) (⟨Or.inr rfl, Or.inr rfl, Or.inr rfl, Or.inr rfl, Or.inl rfl, Or.inl rfl, True.intro⟩) (ih (k + 1) (am_u2 J 47 i ((J 47 i) &&& (((nI 1) <<< ((nI k) &&& 31)) ^^^ ((-1))))) hT139 (by omega) (R_now_u hc0 rfl rfl rfl rfl) HQ)
          · refine r_aload k41_83 rfl ?_
            refine j_ref (b := 47) k41_84 hB rfl ?_
            refine r_iload k41_87 rfl ?_
            refine r_dup2 rfl rfl k41_88 ?_
            refine j_ald (n := 12) (j := i) (v := (J 47 i)) k41_89 hB rfl rfl (by omega) rfl ?_
            refine r_iload k41_90 rfl ?_
            refine r_ior k41_92 ?_
            refine j_ast (n := 12) (j := i) k41_93 hB rfl rfl (by omega) ?_
            have hT93 : am_ty2 (am_u2 J 47 i ((J 47 i) ||| ((nI 1) <<< ((nI k) &&& 31)))) := ty_w hT (tw_a (by decide) (by decide) (by decide))
            refine r_aload k41_94 rfl ?_
            refine j_ref (b := 48) k41_95 hB rfl ?_
            refine r_pushn (v := nI 6) k41_98 rfl ?_
            refine r_iload k41_100 rfl ?_
            refine r_imulN k41_101 ?_
            refine r_iload k41_102 rfl ?_
            refine r_iaddN k41_103 ?_
            refine r_aload k41_104 rfl ?_
            refine j_ref (b := 44) k41_105 hB rfl ?_
            refine r_iload k41_108 rfl ?_
            refine j_ald (n := 72) (j := (jx (R_slotOf J (jn J 45 i) k))) (v := (J 44 (jx (R_slotOf J (jn J 45 i) k)))) k41_110 hB rfl rfl (by omega) rfl ?_
            refine j_ast (n := 72) (j := ((6 * i) + k)) k41_111 hB rfl rfl (by omega) ?_
            have hT111 : am_ty2 (am_u2 (am_u2 J 47 i ((J 47 i) ||| ((nI 1) <<< ((nI k) &&& 31)))) 48 ((6 * i) + k) (J 44 (jx (R_slotOf J (jn J 45 i) k)))) := ty_w hT93 (tw_a (by decide) (by decide) (by decide))
            refine r_goto k41_112 ?_
            refine r_iinc (v := (nI (k + 1))) (L' := [some (.ref 36), some (.int (nI (i))), some (.int (now)), some (.int (nI (k + 1))), some (.int ((nI 1) <<< ((nI k) &&& 31))), some (.int (nI (jx (R_slotOf J (jn J 45 i) k))))]) k41_140 rfl (Nat.le_of_ble_eq_true rfl) (nI_1 _) rfl ?_
            refine r_goto k41_143 ?_
            have e9 : R_fl i now (m + 1) k J = R_fl i now m (k + 1) (am_u2 (am_u2 J 47 i ((J 47 i) ||| ((nI 1) <<< ((nI k) &&& 31)))) 48 ((6 * i) + k) (J 44 (jx (R_slotOf J (jn J 45 i) k)))) := by rw [R_fl]; rw [am_ite_f z41, am_ite_t z69, am_ite_t z80]
            rw [e9] at HQ
            exact wp_L (L := [some (.ref 36), some (.int (nI (i))), some (.int (now)), some (.int (nI (k + 1))), none, none]) (⟨Or.inr rfl, Or.inr rfl, Or.inr rfl, Or.inr rfl, Or.inl rfl, Or.inl rfl, True.intro⟩) (ih (k + 1) (am_u2 (am_u2 J 47 i ((J 47 i) ||| ((nI 1) <<< ((nI k) &&& 31)))) 48 ((6 * i) + k) (J 44 (jx (R_slotOf J (jn J 45 i) k)))) hT111 (by omega) (R_now_u hc0 rfl rfl rfl rfl) HQ)
      · refine r_aload k41_44 rfl ?_
        refine j_ref (b := 47) k41_45 hB rfl ?_
        refine r_iload k41_48 rfl ?_
        refine r_dup2 rfl rfl k41_49 ?_
        refine j_ald (n := 12) (j := i) (v := (J 47 i)) k41_50 hB rfl rfl (by omega) rfl ?_
        refine r_iload k41_51 rfl ?_
        refine r_pushn (v := (-1)) k41_53 rfl ?_
        refine r_ixor k41_54 ?_
        refine r_iand k41_55 ?_
        refine j_ast (n := 12) (j := i) k41_56 hB rfl rfl (by omega) ?_
        have hT56 : am_ty2 (am_u2 J 47 i ((J 47 i) &&& (((nI 1) <<< ((nI k) &&& 31)) ^^^ ((-1))))) := ty_w hT (tw_a (by decide) (by decide) (by decide))
        refine r_goto k41_57 ?_
        refine r_iinc (v := (nI (k + 1))) (L' := [some (.ref 36), some (.int (nI (i))), some (.int (now)), some (.int (nI (k + 1))), some (.int ((nI 1) <<< ((nI k) &&& 31))), some (.int (R_slotOf J (jn J 45 i) k))]) k41_140 rfl (Nat.le_of_ble_eq_true rfl) (nI_1 _) rfl ?_
        refine r_goto k41_143 ?_
        have e9 : R_fl i now (m + 1) k J = R_fl i now m (k + 1) (am_u2 J 47 i ((J 47 i) &&& (((nI 1) <<< ((nI k) &&& 31)) ^^^ ((-1))))) := by rw [R_fl]; rw [am_ite_t z41]
        rw [e9] at HQ
        exact wp_L (L := [some (.ref 36), some (.int (nI (i))), some (.int (now)), some (.int (nI (k + 1))), none, none]) (⟨Or.inr rfl, Or.inr rfl, Or.inr rfl, Or.inr rfl, Or.inl rfl, Or.inl rfl, True.intro⟩) (ih (k + 1) (am_u2 J 47 i ((J 47 i) &&& (((nI 1) <<< ((nI k) &&& 31)) ^^^ ((-1))))) hT56 (by omega) (R_now_u hc0 rfl rfl rfl rfl) HQ)
theorem fl_R_fl {i : Nat} {now : Int32} (q : Nat) (hq : ¬ q = 47 ∧ ¬ q = 48) : ∀ (m k : Nat) (J : Nat → Nat → Int32), (R_fl i now m k J) q = J q := by
  intro m
  induction m with
  | zero =>
    intro k J
    rw [R_fl]
    first | done | exact rfl
  | succ m ih =>
    intro k J
    rw [R_fl]
    refine fr_i0 (fun _ => ?_) (fun _ => ?_)
    · exact (ih (k + 1) (am_u2 J 47 i ((J 47 i) &&& (((nI 1) <<< ((nI k) &&& 31)) ^^^ ((-1)))))).trans (fr_u (by omega))
    · refine fr_i0 (fun _ => ?_) (fun _ => ?_)
      · refine fr_i0 (fun _ => ?_) (fun _ => ?_)
        · exact (ih (k + 1) (am_u2 (am_u2 J 47 i ((J 47 i) ||| ((nI 1) <<< ((nI k) &&& 31)))) 48 ((6 * i) + k) (J 44 (jx (R_slotOf J (jn J 45 i) k))))).trans ((fr_u (by omega)).trans (fr_u (by omega)))
        · exact (ih (k + 1) (am_u2 J 47 i ((J 47 i) &&& (((nI 1) <<< ((nI k) &&& 31)) ^^^ ((-1)))))).trans (fr_u (by omega))
      · exact ih (k + 1) J
noncomputable def R_follow (J : Nat → Nat → Int32) (i : Nat) : (Nat → Nat → Int32) := (am_u2 ((R_fl i (R_locals J (jn J 45 i)) 6 0 J)) 46 i (R_locals J (jn J 45 i)))
set_option maxRecDepth 20000 in
theorem s_R_follow {d : am_D} {h : am_H} {J : Nat → Nat → Int32} (hB : am_B h) (hT : am_ty2 J) (i : Nat) (hi : i < 12) (hd : 2 ≤ d.1) (hw : 48 ≤ d.2) : am_wp d 41 0 [some (.ref 36), some (.int (nI (i))), none, none, none, none] [] (am_si h J) (fun r h' => r = none ∧ h' = am_si h (R_follow J i) ∧ am_ty2 (R_follow J i)) := by
  refine r_aload k41_0 rfl ?_
  refine r_aload k41_1 rfl ?_
  refine j_ref (b := 45) k41_2 hB rfl ?_
  refine r_iload k41_5 rfl ?_
  have b6 := ty_n hT (q := 45) (B := 12) (by decide) (by decide) i
  refine j_ald (n := 12) (j := i) (v := (nI (jn J 45 i))) k41_6 hB rfl rfl (by omega) b6.1 ?_
  refine j_call (ml := 5) k41_7 rfl (show 0 < d.1 by omega) (show 19 + 5 ≤ d.2 by omega) ⟨Nat.le_of_ble_eq_true rfl, Nat.le_of_ble_eq_true rfl, am_obB hB rfl, Nat.le_of_ble_eq_true rfl⟩ rfl (rest := []) rfl (s_R_locals hB hT (jn J 45 i) (by omega) (show 1 ≤ d.1 - 1 by omega) (show 24 ≤ d.2 - 24 by omega)) (fun r h1 hq => ?_)
  obtain ⟨rfl, rfl⟩ := hq
  show am_wp _ _ _ [some (.ref 36), some (.int (nI (i))), none, none, none, none] [.int (R_locals J (jn J 45 i))] _ _
  refine r_istore (L' := [some (.ref 36), some (.int (nI (i))), some (.int (R_locals J (jn J 45 i))), none, none, none]) k41_10 (Nat.le_of_ble_eq_true rfl) rfl ?_
  refine r_pushn (v := nI 0) k41_11 rfl ?_
  refine r_istore (L' := [some (.ref 36), some (.int (nI (i))), some (.int (R_locals J (jn J 45 i))), some (.int (nI 0)), none, none]) k41_12 (Nat.le_of_ble_eq_true rfl) rfl ?_
  refine (l_R_fl hB i (R_locals J (jn J 45 i)) (by omega) hd hw 6 0 J hT (by omega) R_now_0 (fun hT9R_fl => ?_))
  refine r_aload k41_146 rfl ?_
  refine j_ref (b := 46) k41_147 hB rfl ?_
  refine r_iload k41_150 rfl ?_
  refine r_iload k41_151 rfl ?_
  refine j_ast (n := 12) (j := i) k41_152 hB rfl rfl (by omega) ?_
  have hT152 : am_ty2 (am_u2 ((R_fl i (R_locals J (jn J 45 i)) 6 0 J)) 46 i (R_locals J (jn J 45 i))) := ty_w hT9R_fl (tw_a (by decide) (by decide) (by decide))
  have e9 : R_follow J i = (am_u2 ((R_fl i (R_locals J (jn J 45 i)) 6 0 J)) 46 i (R_locals J (jn J 45 i))) := rfl
  exact r_vret k41_153 rfl ⟨rfl, by rw [e9], by rw [e9]; exact hT152⟩
theorem fr_R_follow {J : Nat → Nat → Int32} {i : Nat} (q : Nat) (hq : ¬ q = 46 ∧ ¬ q = 47 ∧ ¬ q = 48) : (R_follow J i) q = J q := by
  unfold R_follow
  exact (fr_u (by omega)).trans (fl_R_fl q (by omega) _ _ _)
noncomputable def R_touch (J : Nat → Nat → Int32) (i : Nat) : (Nat → Nat → Int32) := (am_ite ((J 46 i) = (R_locals J (jn J 45 i))) (R_follow J i) (R_follow (am_u2 J 73 7 ((J 73 7) + (nI 1))) i))
set_option maxRecDepth 20000 in
theorem s_R_touch {d : am_D} {h : am_H} {J : Nat → Nat → Int32} (hB : am_B h) (hT : am_ty2 J) (i : Nat) (hi : i < 12) (hd : 3 ≤ d.1) (hw : 73 ≤ d.2) : am_wp d 42 0 [some (.ref 36), some (.int (nI (i)))] [] (am_si h J) (fun r h' => r = none ∧ h' = am_si h (R_touch J i) ∧ am_ty2 (R_touch J i)) := by
  refine r_aload k42_0 rfl ?_
  refine j_ref (b := 46) k42_1 hB rfl ?_
  refine r_iload k42_4 rfl ?_
  refine j_ald (n := 12) (j := i) (v := (J 46 i)) k42_5 hB rfl rfl (by omega) rfl ?_
  refine r_aload k42_6 rfl ?_
  refine r_aload k42_7 rfl ?_
  refine j_ref (b := 45) k42_8 hB rfl ?_
  refine r_iload k42_11 rfl ?_
  have b12 := ty_n hT (q := 45) (B := 12) (by decide) (by decide) i
  refine j_ald (n := 12) (j := i) (v := (nI (jn J 45 i))) k42_12 hB rfl rfl (by omega) b12.1 ?_
  refine j_call (ml := 5) k42_13 rfl (show 0 < d.1 by omega) (show 19 + 5 ≤ d.2 by omega) ⟨Nat.le_of_ble_eq_true rfl, Nat.le_of_ble_eq_true rfl, am_obB hB rfl, Nat.le_of_ble_eq_true rfl⟩ rfl (rest := [.int (J 46 i)]) rfl (s_R_locals hB hT (jn J 45 i) (by omega) (show 1 ≤ d.1 - 1 by omega) (show 24 ≤ d.2 - 24 by omega)) (fun r h1 hq => ?_)
  obtain ⟨rfl, rfl⟩ := hq
  show am_wp _ _ _ [some (.ref 36), some (.int (nI (i)))] [.int (R_locals J (jn J 45 i)), .int (J 46 i)] _ _
  refine r_icmpeq k42_16 (fun z16 => ?_) (fun z16 => ?_)
  · refine r_aload k42_30 rfl ?_
    refine r_iload k42_31 rfl ?_
    refine j_call (ml := 6) k42_32 rfl (show 0 < d.1 by omega) (show 19 + 6 ≤ d.2 by omega) ⟨Nat.le_of_ble_eq_true rfl, Nat.le_of_ble_eq_true rfl, am_obB hB rfl, Nat.le_of_ble_eq_true rfl⟩ rfl (rest := []) rfl (s_R_follow hB hT i (by omega) (show 2 ≤ d.1 - 1 by omega) (show 48 ≤ d.2 - 25 by omega)) (fun r h1 hq => ?_)
    obtain ⟨rfl, rfl, hT32⟩ := hq
    show am_wp _ _ _ [some (.ref 36), some (.int (nI (i)))] [] _ _
    have e9 : R_touch J i = (R_follow J i) := by unfold R_touch; rw [am_ite_t z16]
    exact r_vret k42_35 rfl ⟨rfl, by rw [e9], by rw [e9]; exact hT32⟩
  · refine r_aload k42_19 rfl ?_
    refine j_ref (b := 73) k42_20 hB rfl ?_
    refine r_pushn (v := nI 7) k42_23 rfl ?_
    refine r_dup2 rfl rfl k42_25 ?_
    refine j_ald (n := 10) (j := 7) (v := (J 73 7)) k42_26 hB rfl rfl (by omega) rfl ?_
    refine r_pushn (v := nI 1) k42_27 rfl ?_
    refine r_iadd k42_28 ?_
    refine j_ast (n := 10) (j := 7) k42_29 hB rfl rfl (by omega) ?_
    have hT29 : am_ty2 (am_u2 J 73 7 ((J 73 7) + (nI 1))) := ty_w hT (tw_a (by decide) (by decide) (by decide))
    refine r_aload k42_30 rfl ?_
    refine r_iload k42_31 rfl ?_
    refine j_call (ml := 6) k42_32 rfl (show 0 < d.1 by omega) (show 19 + 6 ≤ d.2 by omega) ⟨Nat.le_of_ble_eq_true rfl, Nat.le_of_ble_eq_true rfl, am_obB hB rfl, Nat.le_of_ble_eq_true rfl⟩ rfl (rest := []) rfl (s_R_follow hB hT29 i (by omega) (show 2 ≤ d.1 - 1 by omega) (show 48 ≤ d.2 - 25 by omega)) (fun r h1 hq => ?_)
    obtain ⟨rfl, rfl, hT32⟩ := hq
    show am_wp _ _ _ [some (.ref 36), some (.int (nI (i)))] [] _ _
    have e9 : R_touch J i = (R_follow (am_u2 J 73 7 ((J 73 7) + (nI 1))) i) := by unfold R_touch; rw [am_ite_f z16]
    exact r_vret k42_35 rfl ⟨rfl, by rw [e9], by rw [e9]; exact hT32⟩
theorem fr_R_touch {J : Nat → Nat → Int32} {i : Nat} (q : Nat) (hq : ¬ q = 46 ∧ ¬ q = 47 ∧ ¬ q = 48 ∧ ¬ q = 73) : (R_touch J i) q = J q := by
  unfold R_touch
  refine fr_i0 (fun _ => ?_) (fun _ => ?_)
  · exact fr_R_follow q (by omega)
  · exact (fr_R_follow q (by omega)).trans (fr_u (by omega))
noncomputable def R_make (J : Nat → Nat → Int32) (c : Int32) : Int32 × (Nat → Nat → Int32) := (am_ite (R_class J c) (am_ite ((jn J 36 37) = 12) ((((-3)), J)) (((nI (jn J 36 37)), R_follow (am_u2 (am_u2 (am_u2 (am_u2 J 36 37 (nI ((jn J 36 37) + 1))) 45 (jn J 36 37) (nI (jx c))) 46 (jn J 36 37) (nI 0)) 47 (jn J 36 37) (nI 0)) (jn J 36 37)))) ((((-2)), J)))
set_option maxRecDepth 20000 in
theorem s_R_make {d : am_D} {h : am_H} {J : Nat → Nat → Int32} (hB : am_B h) (hT : am_ty2 J) (c : Int32) (hd : 3 ≤ d.1) (hw : 73 ≤ d.2) : am_wp d 43 0 [some (.ref 36), some (.int (c)), none] [] (am_si h J) (fun r h' => r = some (.int (R_make J c).1) ∧ h' = am_si h (R_make J c).2 ∧ am_ty2 (R_make J c).2) := by
  refine r_aload k43_0 rfl ?_
  refine r_iload k43_1 rfl ?_
  refine j_call (ml := 2) k43_2 rfl (show 0 < d.1 by omega) (show 19 + 2 ≤ d.2 by omega) ⟨Nat.le_of_ble_eq_true rfl, Nat.le_of_ble_eq_true rfl, am_obB hB rfl, Nat.le_of_ble_eq_true rfl⟩ rfl (rest := []) rfl (s_R_class hB hT c (show 1 ≤ d.1 - 1 by omega) (show 22 ≤ d.2 - 21 by omega)) (fun r h1 hq => ?_)
  obtain ⟨rfl, rfl⟩ := hq
  show am_wp _ _ _ [some (.ref 36), some (.int (c)), none] [.int (am_b (R_class J c))] _ _
  refine r_ifneB k43_5 (fun z5 => ?_) (fun z5 => ?_)
  · have e_c := R_class_r z5
    rw [show ([some (.ref 36), some (.int (c)), none] : am_L) = [some (.ref 36), some (.int (nI (jx c))), none] by rw [← e_c.1]]
    refine r_aload k43_11 rfl ?_
    have b12 := ty_f hT (q := 36) (j := 37) (B := 13) (by decide) (by decide)
    refine j_get (j := 37) (v := (nI (jn J 36 37))) k43_12 hB rfl b12.1 ?_
    refine r_pushn (v := nI 12) k43_15 rfl ?_
    refine r_icmpneN (by omega) (by omega) k43_17 (fun z17 => ?_) (fun z17 => ?_)
    · refine r_aload k43_23 rfl ?_
      refine r_dup rfl k43_24 ?_
      have b25 := ty_f hT (q := 36) (j := 37) (B := 13) (by decide) (by decide)
      refine j_get (j := 37) (v := (nI (jn J 36 37))) k43_25 hB rfl b25.1 ?_
      refine r_dupx1 rfl rfl k43_28 ?_
      refine r_pushn (v := nI 1) k43_29 rfl ?_
      refine r_iaddN k43_30 ?_
      refine j_put (j := 37) k43_31 hB rfl rfl ?_
      have hT31 : am_ty2 (am_u2 J 36 37 (nI ((jn J 36 37) + 1))) := ty_w hT (tw_f (B := 13) (by decide) (by decide) (by decide) (by omega))
      refine r_istore (L' := [some (.ref 36), some (.int (nI (jx c))), some (.int (nI (jn J 36 37)))]) k43_34 (Nat.le_of_ble_eq_true rfl) rfl ?_
      refine r_aload k43_35 rfl ?_
      refine j_ref (b := 45) k43_36 hB rfl ?_
      refine r_iload k43_39 rfl ?_
      refine r_iload k43_40 rfl ?_
      refine j_ast (n := 12) (j := (jn J 36 37)) k43_41 hB rfl rfl (by omega) ?_
      have hT41 : am_ty2 (am_u2 (am_u2 J 36 37 (nI ((jn J 36 37) + 1))) 45 (jn J 36 37) (nI (jx c))) := ty_w hT31 (tw_n (B := 12) (by decide) (by decide) (by decide) (by omega))
      refine r_aload k43_42 rfl ?_
      refine j_ref (b := 46) k43_43 hB rfl ?_
      refine r_iload k43_46 rfl ?_
      refine r_pushn (v := nI 0) k43_47 rfl ?_
      refine j_ast (n := 12) (j := (jn J 36 37)) k43_48 hB rfl rfl (by omega) ?_
      have hT48 : am_ty2 (am_u2 (am_u2 (am_u2 J 36 37 (nI ((jn J 36 37) + 1))) 45 (jn J 36 37) (nI (jx c))) 46 (jn J 36 37) (nI 0)) := ty_w hT41 (tw_a (by decide) (by decide) (by decide))
      refine r_aload k43_49 rfl ?_
      refine j_ref (b := 47) k43_50 hB rfl ?_
      refine r_iload k43_53 rfl ?_
      refine r_pushn (v := nI 0) k43_54 rfl ?_
      refine j_ast (n := 12) (j := (jn J 36 37)) k43_55 hB rfl rfl (by omega) ?_
      have hT55 : am_ty2 (am_u2 (am_u2 (am_u2 (am_u2 J 36 37 (nI ((jn J 36 37) + 1))) 45 (jn J 36 37) (nI (jx c))) 46 (jn J 36 37) (nI 0)) 47 (jn J 36 37) (nI 0)) := ty_w hT48 (tw_a (by decide) (by decide) (by decide))
      refine r_aload k43_56 rfl ?_
      refine r_iload k43_57 rfl ?_
      refine j_call (ml := 6) k43_58 rfl (show 0 < d.1 by omega) (show 19 + 6 ≤ d.2 by omega) ⟨Nat.le_of_ble_eq_true rfl, Nat.le_of_ble_eq_true rfl, am_obB hB rfl, Nat.le_of_ble_eq_true rfl⟩ rfl (rest := []) rfl (s_R_follow hB hT55 (jn J 36 37) (by omega) (show 2 ≤ d.1 - 1 by omega) (show 48 ≤ d.2 - 25 by omega)) (fun r h1 hq => ?_)
      obtain ⟨rfl, rfl, hT58⟩ := hq
      show am_wp _ _ _ [some (.ref 36), some (.int (nI (jx c))), some (.int (nI (jn J 36 37)))] [] _ _
      refine r_iload k43_61 rfl ?_
      have e9 : R_make J c = (((nI (jn J 36 37)), R_follow (am_u2 (am_u2 (am_u2 (am_u2 J 36 37 (nI ((jn J 36 37) + 1))) 45 (jn J 36 37) (nI (jx c))) 46 (jn J 36 37) (nI 0)) 47 (jn J 36 37) (nI 0)) (jn J 36 37))) := by unfold R_make; rw [am_ite_t z5, am_ite_f z17]
      exact r_iret k43_62 rfl ⟨by rw [e9], by rw [e9], by rw [e9]; exact hT58⟩
    · refine r_pushn (v := (-3)) k43_20 rfl ?_
      have e9 : R_make J c = ((((-3)), J)) := by unfold R_make; rw [am_ite_t z5, am_ite_t z17]
      exact r_iret k43_22 rfl ⟨by rw [e9], by rw [e9], by rw [e9]; exact hT⟩
  · refine r_pushn (v := (-2)) k43_8 rfl ?_
    have e9 : R_make J c = ((((-2)), J)) := by unfold R_make; rw [am_ite_f z5]
    exact r_iret k43_10 rfl ⟨by rw [e9], by rw [e9], by rw [e9]; exact hT⟩
theorem fr_R_make {J : Nat → Nat → Int32} {c : Int32} (q : Nat) (hq : ¬ q = 36 ∧ ¬ q = 45 ∧ ¬ q = 46 ∧ ¬ q = 47 ∧ ¬ q = 48) : (R_make J c).2 q = J q := by
  unfold R_make
  refine fr_i2 (fun _ => ?_) (fun _ => ?_)
  · refine fr_i2 (fun _ => ?_) (fun _ => ?_)
    · exact rfl
    · exact (fr_R_follow q (by omega)).trans ((fr_u (by omega)).trans ((fr_u (by omega)).trans ((fr_u (by omega)).trans (fr_u (by omega)))))
  · exact rfl
noncomputable def R_become (J : Nat → Nat → Int32) (i : Int32) (c : Int32) : Int32 × (Nat → Nat → Int32) := (am_ite (R_inst J i) (am_ite (R_class J c) (((nI 1), R_touch (am_u2 (R_touch J (jx i)) 45 (jx i) (nI (jx c))) (jx i))) ((((-2)), J))) ((((-2)), J)))
set_option maxRecDepth 20000 in
theorem s_R_become {d : am_D} {h : am_H} {J : Nat → Nat → Int32} (hB : am_B h) (hT : am_ty2 J) (i : Int32) (c : Int32) (hd : 4 ≤ d.1) (hw : 94 ≤ d.2) : am_wp d 44 0 [some (.ref 36), some (.int (i)), some (.int (c))] [] (am_si h J) (fun r h' => r = some (.int (R_become J i c).1) ∧ h' = am_si h (R_become J i c).2 ∧ am_ty2 (R_become J i c).2) := by
  refine r_aload k44_0 rfl ?_
  refine r_iload k44_1 rfl ?_
  refine j_call (ml := 2) k44_2 rfl (show 0 < d.1 by omega) (show 19 + 2 ≤ d.2 by omega) ⟨Nat.le_of_ble_eq_true rfl, Nat.le_of_ble_eq_true rfl, am_obB hB rfl, Nat.le_of_ble_eq_true rfl⟩ rfl (rest := []) rfl (s_R_inst hB hT i (show 1 ≤ d.1 - 1 by omega) (show 22 ≤ d.2 - 21 by omega)) (fun r h1 hq => ?_)
  obtain ⟨rfl, rfl⟩ := hq
  show am_wp _ _ _ [some (.ref 36), some (.int (i)), some (.int (c))] [.int (am_b (R_inst J i))] _ _
  refine r_ifeqB k44_5 (fun z5 => ?_) (fun z5 => ?_)
  · refine r_pushn (v := (-2)) k44_16 rfl ?_
    have e9 : R_become J i c = ((((-2)), J)) := by unfold R_become; rw [am_ite_f z5]
    exact r_iret k44_18 rfl ⟨by rw [e9], by rw [e9], by rw [e9]; exact hT⟩
  · have e_i := R_inst_r hT z5
    rw [show ([some (.ref 36), some (.int (i)), some (.int (c))] : am_L) = [some (.ref 36), some (.int (nI (jx i))), some (.int (c))] by rw [← e_i.1]]
    refine r_aload k44_8 rfl ?_
    refine r_iload k44_9 rfl ?_
    refine j_call (ml := 2) k44_10 rfl (show 0 < d.1 by omega) (show 19 + 2 ≤ d.2 by omega) ⟨Nat.le_of_ble_eq_true rfl, Nat.le_of_ble_eq_true rfl, am_obB hB rfl, Nat.le_of_ble_eq_true rfl⟩ rfl (rest := []) rfl (s_R_class hB hT c (show 1 ≤ d.1 - 1 by omega) (show 22 ≤ d.2 - 21 by omega)) (fun r h1 hq => ?_)
    obtain ⟨rfl, rfl⟩ := hq
    show am_wp _ _ _ [some (.ref 36), some (.int (nI (jx i))), some (.int (c))] [.int (am_b (R_class J c))] _ _
    refine r_ifneB k44_13 (fun z13 => ?_) (fun z13 => ?_)
    · have e_c := R_class_r z13
      rw [show ([some (.ref 36), some (.int (nI (jx i))), some (.int (c))] : am_L) = [some (.ref 36), some (.int (nI (jx i))), some (.int (nI (jx c)))] by rw [← e_c.1]]
      refine r_aload k44_19 rfl ?_
      refine r_iload k44_20 rfl ?_
      refine j_call (ml := 2) k44_21 rfl (show 0 < d.1 by omega) (show 19 + 2 ≤ d.2 by omega) ⟨Nat.le_of_ble_eq_true rfl, Nat.le_of_ble_eq_true rfl, am_obB hB rfl, Nat.le_of_ble_eq_true rfl⟩ rfl (rest := []) rfl (s_R_touch hB hT (jx i) (by omega) (show 3 ≤ d.1 - 1 by omega) (show 73 ≤ d.2 - 21 by omega)) (fun r h1 hq => ?_)
      obtain ⟨rfl, rfl, hT21⟩ := hq
      show am_wp _ _ _ [some (.ref 36), some (.int (nI (jx i))), some (.int (nI (jx c)))] [] _ _
      refine r_aload k44_24 rfl ?_
      refine j_ref (b := 45) k44_25 hB rfl ?_
      refine r_iload k44_28 rfl ?_
      refine r_iload k44_29 rfl ?_
      refine j_ast (n := 12) (j := (jx i)) k44_30 hB rfl rfl (by omega) ?_
      have hT30 : am_ty2 (am_u2 (R_touch J (jx i)) 45 (jx i) (nI (jx c))) := ty_w hT21 (tw_n (B := 12) (by decide) (by decide) (by decide) (by omega))
      refine r_aload k44_31 rfl ?_
      refine r_iload k44_32 rfl ?_
      refine j_call (ml := 2) k44_33 rfl (show 0 < d.1 by omega) (show 19 + 2 ≤ d.2 by omega) ⟨Nat.le_of_ble_eq_true rfl, Nat.le_of_ble_eq_true rfl, am_obB hB rfl, Nat.le_of_ble_eq_true rfl⟩ rfl (rest := []) rfl (s_R_touch hB hT30 (jx i) (by omega) (show 3 ≤ d.1 - 1 by omega) (show 73 ≤ d.2 - 21 by omega)) (fun r h1 hq => ?_)
      obtain ⟨rfl, rfl, hT33⟩ := hq
      show am_wp _ _ _ [some (.ref 36), some (.int (nI (jx i))), some (.int (nI (jx c)))] [] _ _
      refine r_pushn (v := nI 1) k44_36 rfl ?_
      have e9 : R_become J i c = (((nI 1), R_touch (am_u2 (R_touch J (jx i)) 45 (jx i) (nI (jx c))) (jx i))) := by unfold R_become; rw [am_ite_t z5, am_ite_t z13]
      exact r_iret k44_37 rfl ⟨by rw [e9], by rw [e9], by rw [e9]; exact hT33⟩
    · refine r_pushn (v := (-2)) k44_16 rfl ?_
      have e9 : R_become J i c = ((((-2)), J)) := by unfold R_become; rw [am_ite_t z5, am_ite_f z13]
      exact r_iret k44_18 rfl ⟨by rw [e9], by rw [e9], by rw [e9]; exact hT⟩
theorem fr_R_become {J : Nat → Nat → Int32} {i : Int32} {c : Int32} (q : Nat) (hq : ¬ q = 45 ∧ ¬ q = 46 ∧ ¬ q = 47 ∧ ¬ q = 48 ∧ ¬ q = 73) : (R_become J i c).2 q = J q := by
  unfold R_become
  refine fr_i2 (fun _ => ?_) (fun _ => ?_)
  · refine fr_i2 (fun _ => ?_) (fun _ => ?_)
    · exact (fr_R_touch q (by omega)).trans ((fr_u (by omega)).trans (fr_R_touch q (by omega)))
    · exact rfl
  · exact rfl
noncomputable def R_reach (J : Nat → Nat → Int32) (i : Int32) (nm : Int32) : Int32 × (Nat → Nat → Int32) := (am_ite (R_inst J i) (am_ite (r_is nm (nI 0) (nI 5)) (am_ite (0 ≤ (R_slotOf (R_touch J (jx i)) (jn (R_touch J (jx i)) 45 (jx i)) (jx nm))) (((nI (jx (R_slotOf (R_touch J (jx i)) (jn (R_touch J (jx i)) 45 (jx i)) (jx nm)))), R_touch J (jx i))) ((((-6)), R_touch J (jx i)))) ((((-1)), J))) ((((-2)), J)))
set_option maxRecDepth 20000 in
theorem s_R_reach {d : am_D} {h : am_H} {J : Nat → Nat → Int32} (hB : am_B h) (hT : am_ty2 J) (i : Int32) (nm : Int32) (hd : 4 ≤ d.1) (hw : 94 ≤ d.2) : am_wp d 46 0 [some (.ref 36), some (.int (i)), some (.int (nm)), none] [] (am_si h J) (fun r h' => r = some (.int (R_reach J i nm).1) ∧ h' = am_si h (R_reach J i nm).2 ∧ am_ty2 (R_reach J i nm).2) := by
  refine r_aload k46_0 rfl ?_
  refine r_iload k46_1 rfl ?_
  refine j_call (ml := 2) k46_2 rfl (show 0 < d.1 by omega) (show 19 + 2 ≤ d.2 by omega) ⟨Nat.le_of_ble_eq_true rfl, Nat.le_of_ble_eq_true rfl, am_obB hB rfl, Nat.le_of_ble_eq_true rfl⟩ rfl (rest := []) rfl (s_R_inst hB hT i (show 1 ≤ d.1 - 1 by omega) (show 22 ≤ d.2 - 21 by omega)) (fun r h1 hq => ?_)
  obtain ⟨rfl, rfl⟩ := hq
  show am_wp _ _ _ [some (.ref 36), some (.int (i)), some (.int (nm)), none] [.int (am_b (R_inst J i))] _ _
  refine r_ifneB k46_5 (fun z5 => ?_) (fun z5 => ?_)
  · have e_i := R_inst_r hT z5
    rw [show ([some (.ref 36), some (.int (i)), some (.int (nm)), none] : am_L) = [some (.ref 36), some (.int (nI (jx i))), some (.int (nm)), none] by rw [← e_i.1]]
    refine r_iload k46_11 rfl ?_
    refine r_pushn (v := nI 0) k46_12 rfl ?_
    refine r_pushn (v := nI 5) k46_13 rfl ?_
    refine j_call (ml := 3) k46_14 rfl (show 0 < d.1 by omega) (show 19 + 3 ≤ d.2 by omega) ⟨Nat.le_of_ble_eq_true rfl, Nat.le_of_ble_eq_true rfl, True.intro, Nat.le_of_ble_eq_true rfl⟩ rfl (rest := []) rfl (s_r_is nm (nI 0) (nI 5)) (fun r h1 hq => ?_)
    obtain ⟨rfl, rfl⟩ := hq
    show am_wp _ _ _ [some (.ref 36), some (.int (nI (jx i))), some (.int (nm)), none] [.int (am_b (r_is nm (nI 0) (nI 5)))] _ _
    refine r_ifneB k46_17 (fun z17 => ?_) (fun z17 => ?_)
    · have e_nm := jx_eq (by decide) (show w_in _ _ _ from z17)
      rw [show ([some (.ref 36), some (.int (nI (jx i))), some (.int (nm)), none] : am_L) = [some (.ref 36), some (.int (nI (jx i))), some (.int (nI (jx nm))), none] by rw [← e_nm.1]]
      refine r_aload k46_22 rfl ?_
      refine r_iload k46_23 rfl ?_
      refine j_call (ml := 2) k46_24 rfl (show 0 < d.1 by omega) (show 19 + 2 ≤ d.2 by omega) ⟨Nat.le_of_ble_eq_true rfl, Nat.le_of_ble_eq_true rfl, am_obB hB rfl, Nat.le_of_ble_eq_true rfl⟩ rfl (rest := []) rfl (s_R_touch hB hT (jx i) (by omega) (show 3 ≤ d.1 - 1 by omega) (show 73 ≤ d.2 - 21 by omega)) (fun r h1 hq => ?_)
      obtain ⟨rfl, rfl, hT24⟩ := hq
      show am_wp _ _ _ [some (.ref 36), some (.int (nI (jx i))), some (.int (nI (jx nm))), none] [] _ _
      refine r_aload k46_27 rfl ?_
      refine r_aload k46_28 rfl ?_
      refine j_ref (b := 45) k46_29 hB rfl ?_
      refine r_iload k46_32 rfl ?_
      have b33 := ty_n hT24 (q := 45) (B := 12) (by decide) (by decide) (jx i)
      refine j_ald (n := 12) (j := (jx i)) (v := (nI (jn (R_touch J (jx i)) 45 (jx i)))) k46_33 hB rfl rfl (by omega) b33.1 ?_
      refine r_iload k46_34 rfl ?_
      refine j_call (ml := 5) k46_35 rfl (show 0 < d.1 by omega) (show 19 + 5 ≤ d.2 by omega) ⟨Nat.le_of_ble_eq_true rfl, Nat.le_of_ble_eq_true rfl, am_obB hB rfl, Nat.le_of_ble_eq_true rfl⟩ rfl (rest := []) rfl (s_R_slotOf hB hT24 (jn (R_touch J (jx i)) 45 (jx i)) (jx nm) (by omega) (by omega)) (fun r h1 hq => ?_)
      obtain ⟨rfl, rfl⟩ := hq
      show am_wp _ _ _ [some (.ref 36), some (.int (nI (jx i))), some (.int (nI (jx nm))), none] [.int (R_slotOf (R_touch J (jx i)) (jn (R_touch J (jx i)) 45 (jx i)) (jx nm))] _ _
      refine r_istore (L' := [some (.ref 36), some (.int (nI (jx i))), some (.int (nI (jx nm))), some (.int (R_slotOf (R_touch J (jx i)) (jn (R_touch J (jx i)) 45 (jx i)) (jx nm)))]) k46_38 (Nat.le_of_ble_eq_true rfl) rfl ?_
      refine r_iload k46_39 rfl ?_
      refine r_ifge k46_40 (fun z40 => ?_) (fun z40 => ?_)
      · have c40 := R_slotOf_ng hT24 (by omega) z40
        rw [show ([some (.ref 36), some (.int (nI (jx i))), some (.int (nI (jx nm))), some (.int (R_slotOf (R_touch J (jx i)) (jn (R_touch J (jx i)) 45 (jx i)) (jx nm)))] : am_L) = [some (.ref 36), some (.int (nI (jx i))), some (.int (nI (jx nm))), some (.int (nI (jx (R_slotOf (R_touch J (jx i)) (jn (R_touch J (jx i)) 45 (jx i)) (jx nm)))))] by rw [← c40.1]]
        refine r_iload k46_48 rfl ?_
        have e9 : R_reach J i nm = (((nI (jx (R_slotOf (R_touch J (jx i)) (jn (R_touch J (jx i)) 45 (jx i)) (jx nm)))), R_touch J (jx i))) := by unfold R_reach; rw [am_ite_t z5, am_ite_t z17, am_ite_t z40]
        exact r_iret k46_49 rfl ⟨by rw [e9], by rw [e9], by rw [e9]; exact hT24⟩
      · refine r_pushn (v := (-6)) k46_43 rfl ?_
        refine r_goto k46_45 ?_
        have e9 : R_reach J i nm = ((((-6)), R_touch J (jx i))) := by unfold R_reach; rw [am_ite_t z5, am_ite_t z17, am_ite_f z40]
        exact r_iret k46_49 rfl ⟨by rw [e9], by rw [e9], by rw [e9]; exact hT24⟩
    · refine r_pushn (v := (-1)) k46_20 rfl ?_
      have e9 : R_reach J i nm = ((((-1)), J)) := by unfold R_reach; rw [am_ite_t z5, am_ite_f z17]
      exact r_iret k46_21 rfl ⟨by rw [e9], by rw [e9], by rw [e9]; exact hT⟩
  · refine r_pushn (v := (-2)) k46_8 rfl ?_
    have e9 : R_reach J i nm = ((((-2)), J)) := by unfold R_reach; rw [am_ite_f z5]
    exact r_iret k46_10 rfl ⟨by rw [e9], by rw [e9], by rw [e9]; exact hT⟩
theorem fr_R_reach {J : Nat → Nat → Int32} {i : Int32} {nm : Int32} (q : Nat) (hq : ¬ q = 46 ∧ ¬ q = 47 ∧ ¬ q = 48 ∧ ¬ q = 73) : (R_reach J i nm).2 q = J q := by
  unfold R_reach
  refine fr_i2 (fun _ => ?_) (fun _ => ?_)
  · refine fr_i2 (fun _ => ?_) (fun _ => ?_)
    · refine fr_i2 (fun _ => ?_) (fun _ => ?_)
      · exact fr_R_touch q (by omega)
      · exact fr_R_touch q (by omega)
    · exact rfl
  · exact rfl
theorem R_touch_ty {J : Nat → Nat → Int32} {i : Nat} (h : am_H) (hB : am_B h) (hT : am_ty2 J) (hi : i < 12) : am_ty2 (R_touch J i) := by
  obtain ⟨n, r, h', _, _, _, g⟩ := s_R_touch (d := (11, 434)) hB hT i hi (by decide) (by decide)
  exact g
theorem R_reach_r {J : Nat → Nat → Int32} (h : am_H) (hB : am_B h) (hT : am_ty2 J) {i nm : Int32} (z : 0 ≤ (R_reach J i nm).1) : (i = nI (jx i) ∧ jx i < 12) ∧ (nm = nI (jx nm) ∧ jx nm ≤ 5) ∧ (R_reach J i nm).1 = nI (jx (R_reach J i nm).1) ∧ jx (R_reach J i nm).1 < 72 := by
  unfold R_reach at z ⊢
  by_cases z1 : R_inst J i
  · have g1 := R_inst_r hT z1
    rw [am_ite_t z1] at z ⊢
    by_cases z2 : r_is nm (nI 0) (nI 5)
    · have g2 := jx_eq (by decide) (show w_in _ _ _ from z2)
      rw [am_ite_t z2] at z ⊢
      have hT2 := R_touch_ty h hB hT (i := jx i) (by omega)
      by_cases z3 : 0 ≤ (R_slotOf (R_touch J (jx i)) (jn (R_touch J (jx i)) 45 (jx i)) (jx nm))
      · rw [am_ite_t z3] at z ⊢
        have g3 := R_slotOf_ng hT2 (by omega) z3
        refine ⟨⟨g1.1, g1.2.2⟩, g2, ?_⟩
        rw [show ∀ a b, (((nI a), b) : Int32 × (Nat → Nat → Int32)).1 = nI a from fun _ _ => rfl, jx_nI (by omega)]
        exact ⟨rfl, g3.2⟩
      · rw [am_ite_f z3] at z; exact absurd (show (0 : Int32) ≤ (-6) from z) (by decide)
    · rw [am_ite_f z2] at z; exact absurd (show (0 : Int32) ≤ (-1) from z) (by decide)
  · rw [am_ite_f z1] at z; exact absurd (show (0 : Int32) ≤ (-2) from z) (by decide)
noncomputable def R_get (J : Nat → Nat → Int32) (i : Int32) (nm : Int32) : Int64 × (Nat → Nat → Int32) := (am_ite (0 ≤ ((R_reach J i nm).1)) (am_ite ((jn ((R_reach J i nm).2) 43 (jx ((R_reach J i nm).1))) = 3) (((((R_reach J i nm).2) 44 (jx ((R_reach J i nm).1))).toInt64, (R_reach J i nm).2)) (am_ite ((((((R_reach J i nm).2) 47 (jx i)) >>> ((nI (jx nm)) &&& 31)) &&& (nI 1)) = (nI 1)) (((((R_reach J i nm).2) 48 ((6 * (jx i)) + (jx nm))).toInt64, (R_reach J i nm).2)) (((R_fail ((R_reach J i nm).2) ((-7))).1, (R_fail ((R_reach J i nm).2) ((-7))).2)))) (((R_fail ((R_reach J i nm).2) ((R_reach J i nm).1)).1, (R_fail ((R_reach J i nm).2) ((R_reach J i nm).1)).2)))
set_option maxRecDepth 20000 in
theorem s_R_get {d : am_D} {h : am_H} {J : Nat → Nat → Int32} (hB : am_B h) (hT : am_ty2 J) (i : Int32) (nm : Int32) (hd : 5 ≤ d.1) (hw : 117 ≤ d.2) : am_wp d 47 0 [some (.ref 36), some (.int (i)), some (.int (nm)), none] [] (am_si h J) (fun r h' => r = some (.long (R_get J i nm).1) ∧ h' = am_si h (R_get J i nm).2 ∧ am_ty2 (R_get J i nm).2) := by
  refine r_aload k47_0 rfl ?_
  refine r_iload k47_1 rfl ?_
  refine r_iload k47_2 rfl ?_
  refine j_call (ml := 4) k47_3 rfl (show 0 < d.1 by omega) (show 19 + 4 ≤ d.2 by omega) ⟨Nat.le_of_ble_eq_true rfl, Nat.le_of_ble_eq_true rfl, am_obB hB rfl, Nat.le_of_ble_eq_true rfl⟩ rfl (rest := []) rfl (s_R_reach hB hT i nm (show 4 ≤ d.1 - 1 by omega) (show 94 ≤ d.2 - 23 by omega)) (fun r h1 hq => ?_)
  obtain ⟨rfl, rfl, hT3⟩ := hq
  show am_wp _ _ _ [some (.ref 36), some (.int (i)), some (.int (nm)), none] [.int ((R_reach J i nm).1)] _ _
  refine r_istore (L' := [some (.ref 36), some (.int (i)), some (.int (nm)), some (.int ((R_reach J i nm).1))]) k47_6 (Nat.le_of_ble_eq_true rfl) rfl ?_
  refine r_iload k47_7 rfl ?_
  refine r_ifge k47_8 (fun z8 => ?_) (fun z8 => ?_)
  · have e0_z8 := (R_reach_r h hB hT z8).1
    rw [show ([some (.ref 36), some (.int (i)), some (.int (nm)), some (.int ((R_reach J i nm).1))] : am_L) = [some (.ref 36), some (.int (nI (jx i))), some (.int (nm)), some (.int ((R_reach J i nm).1))] by rw [← e0_z8.1]]
    have e1_z8 := (R_reach_r h hB hT z8).2.1
    rw [show ([some (.ref 36), some (.int (nI (jx i))), some (.int (nm)), some (.int ((R_reach J i nm).1))] : am_L) = [some (.ref 36), some (.int (nI (jx i))), some (.int (nI (jx nm))), some (.int ((R_reach J i nm).1))] by rw [← e1_z8.1]]
    have e2_z8 := (R_reach_r h hB hT z8).2.2
    rw [show ([some (.ref 36), some (.int (nI (jx i))), some (.int (nI (jx nm))), some (.int ((R_reach J i nm).1))] : am_L) = [some (.ref 36), some (.int (nI (jx i))), some (.int (nI (jx nm))), some (.int (nI (jx ((R_reach J i nm).1))))] by rw [← e2_z8.1]]
    refine r_aload k47_17 rfl ?_
    refine j_ref (b := 43) k47_18 hB rfl ?_
    refine r_iload k47_21 rfl ?_
    have b22 := ty_n hT3 (q := 43) (B := 4) (by decide) (by decide) (jx ((R_reach J i nm).1))
    refine j_ald (n := 72) (j := (jx ((R_reach J i nm).1))) (v := (nI (jn ((R_reach J i nm).2) 43 (jx ((R_reach J i nm).1))))) k47_22 hB rfl rfl (by omega) b22.1 ?_
    refine r_pushn (v := nI 3) k47_23 rfl ?_
    refine r_icmpneN (by omega) (by omega) k47_24 (fun z24 => ?_) (fun z24 => ?_)
    · refine r_aload k47_35 rfl ?_
      refine j_ref (b := 47) k47_36 hB rfl ?_
      refine r_iload k47_39 rfl ?_
      refine j_ald (n := 12) (j := (jx i)) (v := (((R_reach J i nm).2) 47 (jx i))) k47_40 hB rfl rfl (by omega) rfl ?_
      refine r_iload k47_41 rfl ?_
      refine r_ishr k47_42 ?_
      refine r_pushn (v := nI 1) k47_43 rfl ?_
      refine r_iand k47_44 ?_
      refine r_pushn (v := nI 1) k47_45 rfl ?_
      refine r_icmpne k47_46 (fun z46 => ?_) (fun z46 => ?_)
      · refine r_aload k47_64 rfl ?_
        refine r_pushn (v := (-7)) k47_65 rfl ?_
        refine j_call (ml := 2) k47_67 rfl (show 0 < d.1 by omega) (show 19 + 2 ≤ d.2 by omega) ⟨Nat.le_of_ble_eq_true rfl, Nat.le_of_ble_eq_true rfl, am_obB hB rfl, Nat.le_of_ble_eq_true rfl⟩ rfl (rest := []) rfl (s_R_fail hB hT3 ((-7))) (fun r h1 hq => ?_)
        obtain ⟨rfl, rfl, hT67⟩ := hq
        show am_wp _ _ _ [some (.ref 36), some (.int (nI (jx i))), some (.int (nI (jx nm))), some (.int (nI (jx ((R_reach J i nm).1))))] [.long ((R_fail ((R_reach J i nm).2) ((-7))).1)] _ _
        have e9 : R_get J i nm = (((R_fail ((R_reach J i nm).2) ((-7))).1, (R_fail ((R_reach J i nm).2) ((-7))).2)) := by unfold R_get; rw [am_ite_t z8, am_ite_f z24, am_ite_f z46]
        exact r_lret k47_70 rfl ⟨by rw [e9], by rw [e9], by rw [e9]; exact hT67⟩
      · refine r_aload k47_49 rfl ?_
        refine j_ref (b := 48) k47_50 hB rfl ?_
        refine r_pushn (v := nI 6) k47_53 rfl ?_
        refine r_iload k47_55 rfl ?_
        refine r_imulN k47_56 ?_
        refine r_iload k47_57 rfl ?_
        refine r_iaddN k47_58 ?_
        refine j_ald (n := 72) (j := ((6 * (jx i)) + (jx nm))) (v := (((R_reach J i nm).2) 48 ((6 * (jx i)) + (jx nm)))) k47_59 hB rfl rfl (by omega) rfl ?_
        refine r_i2l k47_60 ?_
        refine r_goto k47_61 ?_
        have e9 : R_get J i nm = (((((R_reach J i nm).2) 48 ((6 * (jx i)) + (jx nm))).toInt64, (R_reach J i nm).2)) := by unfold R_get; rw [am_ite_t z8, am_ite_f z24, am_ite_t z46]
        exact r_lret k47_70 rfl ⟨by rw [e9], by rw [e9], by rw [e9]; exact hT3⟩
    · refine r_aload k47_27 rfl ?_
      refine j_ref (b := 44) k47_28 hB rfl ?_
      refine r_iload k47_31 rfl ?_
      refine j_ald (n := 72) (j := (jx ((R_reach J i nm).1))) (v := (((R_reach J i nm).2) 44 (jx ((R_reach J i nm).1)))) k47_32 hB rfl rfl (by omega) rfl ?_
      refine r_i2l k47_33 ?_
      have e9 : R_get J i nm = (((((R_reach J i nm).2) 44 (jx ((R_reach J i nm).1))).toInt64, (R_reach J i nm).2)) := by unfold R_get; rw [am_ite_t z8, am_ite_t z24]
      exact r_lret k47_34 rfl ⟨by rw [e9], by rw [e9], by rw [e9]; exact hT3⟩
  · refine r_aload k47_11 rfl ?_
    refine r_iload k47_12 rfl ?_
    refine j_call (ml := 2) k47_13 rfl (show 0 < d.1 by omega) (show 19 + 2 ≤ d.2 by omega) ⟨Nat.le_of_ble_eq_true rfl, Nat.le_of_ble_eq_true rfl, am_obB hB rfl, Nat.le_of_ble_eq_true rfl⟩ rfl (rest := []) rfl (s_R_fail hB hT3 ((R_reach J i nm).1)) (fun r h1 hq => ?_)
    obtain ⟨rfl, rfl, hT13⟩ := hq
    show am_wp _ _ _ [some (.ref 36), some (.int (i)), some (.int (nm)), some (.int ((R_reach J i nm).1))] [.long ((R_fail ((R_reach J i nm).2) ((R_reach J i nm).1)).1)] _ _
    have e9 : R_get J i nm = (((R_fail ((R_reach J i nm).2) ((R_reach J i nm).1)).1, (R_fail ((R_reach J i nm).2) ((R_reach J i nm).1)).2)) := by unfold R_get; rw [am_ite_f z8]
    exact r_lret k47_16 rfl ⟨by rw [e9], by rw [e9], by rw [e9]; exact hT13⟩
theorem fr_R_get {J : Nat → Nat → Int32} {i : Int32} {nm : Int32} (q : Nat) (hq : ¬ q = 36 ∧ ¬ q = 46 ∧ ¬ q = 47 ∧ ¬ q = 48 ∧ ¬ q = 73) : (R_get J i nm).2 q = J q := by
  unfold R_get
  refine fr_i2 (fun _ => ?_) (fun _ => ?_)
  · refine fr_i2 (fun _ => ?_) (fun _ => ?_)
    · exact fr_R_reach q (by omega)
    · refine fr_i2 (fun _ => ?_) (fun _ => ?_)
      · exact fr_R_reach q (by omega)
      · exact (fr_R_fail q (by omega)).trans (fr_R_reach q (by omega))
  · exact (fr_R_fail q (by omega)).trans (fr_R_reach q (by omega))
noncomputable def R_put (J : Nat → Nat → Int32) (i : Int32) (nm : Int32) (v : Int32) : Int64 × (Nat → Nat → Int32) := (am_ite (0 ≤ ((R_reach J i nm).1)) (am_ite ((jn ((R_reach J i nm).2) 43 (jx ((R_reach J i nm).1))) = 3) ((Int64.ofInt 1, am_u2 ((R_reach J i nm).2) 44 (jx ((R_reach J i nm).1)) v)) ((Int64.ofInt 1, am_u2 (am_u2 ((R_reach J i nm).2) 48 ((6 * (jx i)) + (jx nm)) v) 47 (jx i) ((((R_reach J i nm).2) 47 (jx i)) ||| ((nI 1) <<< ((nI (jx nm)) &&& 31)))))) (((R_fail ((R_reach J i nm).2) ((R_reach J i nm).1)).1, (R_fail ((R_reach J i nm).2) ((R_reach J i nm).1)).2)))
set_option maxRecDepth 20000 in
theorem s_R_put {d : am_D} {h : am_H} {J : Nat → Nat → Int32} (hB : am_B h) (hT : am_ty2 J) (i : Int32) (nm : Int32) (v : Int32) (hd : 5 ≤ d.1) (hw : 117 ≤ d.2) : am_wp d 48 0 [some (.ref 36), some (.int (i)), some (.int (nm)), some (.int (v)), none] [] (am_si h J) (fun r h' => r = some (.long (R_put J i nm v).1) ∧ h' = am_si h (R_put J i nm v).2 ∧ am_ty2 (R_put J i nm v).2) := by
  refine r_aload k48_0 rfl ?_
  refine r_iload k48_1 rfl ?_
  refine r_iload k48_2 rfl ?_
  refine j_call (ml := 4) k48_3 rfl (show 0 < d.1 by omega) (show 19 + 4 ≤ d.2 by omega) ⟨Nat.le_of_ble_eq_true rfl, Nat.le_of_ble_eq_true rfl, am_obB hB rfl, Nat.le_of_ble_eq_true rfl⟩ rfl (rest := []) rfl (s_R_reach hB hT i nm (show 4 ≤ d.1 - 1 by omega) (show 94 ≤ d.2 - 23 by omega)) (fun r h1 hq => ?_)
  obtain ⟨rfl, rfl, hT3⟩ := hq
  show am_wp _ _ _ [some (.ref 36), some (.int (i)), some (.int (nm)), some (.int (v)), none] [.int ((R_reach J i nm).1)] _ _
  refine r_istore (L' := [some (.ref 36), some (.int (i)), some (.int (nm)), some (.int (v)), some (.int ((R_reach J i nm).1))]) k48_6 (Nat.le_of_ble_eq_true rfl) rfl ?_
  refine r_iload k48_8 rfl ?_
  refine r_ifge k48_10 (fun z10 => ?_) (fun z10 => ?_)
  · have e0_z10 := (R_reach_r h hB hT z10).1
    rw [show ([some (.ref 36), some (.int (i)), some (.int (nm)), some (.int (v)), some (.int ((R_reach J i nm).1))] : am_L) = [some (.ref 36), some (.int (nI (jx i))), some (.int (nm)), some (.int (v)), some (.int ((R_reach J i nm).1))] by rw [← e0_z10.1]]
    have e1_z10 := (R_reach_r h hB hT z10).2.1
    rw [show ([some (.ref 36), some (.int (nI (jx i))), some (.int (nm)), some (.int (v)), some (.int ((R_reach J i nm).1))] : am_L) = [some (.ref 36), some (.int (nI (jx i))), some (.int (nI (jx nm))), some (.int (v)), some (.int ((R_reach J i nm).1))] by rw [← e1_z10.1]]
    have e2_z10 := (R_reach_r h hB hT z10).2.2
    rw [show ([some (.ref 36), some (.int (nI (jx i))), some (.int (nI (jx nm))), some (.int (v)), some (.int ((R_reach J i nm).1))] : am_L) = [some (.ref 36), some (.int (nI (jx i))), some (.int (nI (jx nm))), some (.int (v)), some (.int (nI (jx ((R_reach J i nm).1))))] by rw [← e2_z10.1]]
    refine r_aload k48_20 rfl ?_
    refine j_ref (b := 43) k48_21 hB rfl ?_
    refine r_iload k48_24 rfl ?_
    have b26 := ty_n hT3 (q := 43) (B := 4) (by decide) (by decide) (jx ((R_reach J i nm).1))
    refine j_ald (n := 72) (j := (jx ((R_reach J i nm).1))) (v := (nI (jn ((R_reach J i nm).2) 43 (jx ((R_reach J i nm).1))))) k48_26 hB rfl rfl (by omega) b26.1 ?_
    refine r_pushn (v := nI 3) k48_27 rfl ?_
    refine r_icmpneN (by omega) (by omega) k48_28 (fun z28 => ?_) (fun z28 => ?_)
    · refine r_aload k48_42 rfl ?_
      refine j_ref (b := 48) k48_43 hB rfl ?_
      refine r_pushn (v := nI 6) k48_46 rfl ?_
      refine r_iload k48_48 rfl ?_
      refine r_imulN k48_49 ?_
      refine r_iload k48_50 rfl ?_
      refine r_iaddN k48_51 ?_
      refine r_iload k48_52 rfl ?_
      refine j_ast (n := 72) (j := ((6 * (jx i)) + (jx nm))) k48_53 hB rfl rfl (by omega) ?_
      have hT53 : am_ty2 (am_u2 ((R_reach J i nm).2) 48 ((6 * (jx i)) + (jx nm)) v) := ty_w hT3 (tw_a (by decide) (by decide) (by decide))
      refine r_aload k48_54 rfl ?_
      refine j_ref (b := 47) k48_55 hB rfl ?_
      refine r_iload k48_58 rfl ?_
      refine r_dup2 rfl rfl k48_59 ?_
      refine j_ald (n := 12) (j := (jx i)) (v := (((R_reach J i nm).2) 47 (jx i))) k48_60 hB rfl rfl (by omega) rfl ?_
      refine r_pushn (v := nI 1) k48_61 rfl ?_
      refine r_iload k48_62 rfl ?_
      refine r_ishl k48_63 ?_
      refine r_ior k48_64 ?_
      refine j_ast (n := 12) (j := (jx i)) k48_65 hB rfl rfl (by omega) ?_
      have hT65 : am_ty2 (am_u2 (am_u2 ((R_reach J i nm).2) 48 ((6 * (jx i)) + (jx nm)) v) 47 (jx i) ((((R_reach J i nm).2) 47 (jx i)) ||| ((nI 1) <<< ((nI (jx nm)) &&& 31)))) := ty_w hT53 (tw_a (by decide) (by decide) (by decide))
      refine r_pushl k48_66 ?_
      have e9 : R_put J i nm v = ((Int64.ofInt 1, am_u2 (am_u2 ((R_reach J i nm).2) 48 ((6 * (jx i)) + (jx nm)) v) 47 (jx i) ((((R_reach J i nm).2) 47 (jx i)) ||| ((nI 1) <<< ((nI (jx nm)) &&& 31))))) := by unfold R_put; rw [am_ite_t z10, am_ite_f z28]
      exact r_lret k48_67 rfl ⟨by rw [e9], by rw [e9], by rw [e9]; exact hT65⟩
    · refine r_aload k48_31 rfl ?_
      refine j_ref (b := 44) k48_32 hB rfl ?_
      refine r_iload k48_35 rfl ?_
      refine r_iload k48_37 rfl ?_
      refine j_ast (n := 72) (j := (jx ((R_reach J i nm).1))) k48_38 hB rfl rfl (by omega) ?_
      have hT38 : am_ty2 (am_u2 ((R_reach J i nm).2) 44 (jx ((R_reach J i nm).1)) v) := ty_w hT3 (tw_a (by decide) (by decide) (by decide))
      refine r_goto k48_39 ?_
      refine r_pushl k48_66 ?_
      have e9 : R_put J i nm v = ((Int64.ofInt 1, am_u2 ((R_reach J i nm).2) 44 (jx ((R_reach J i nm).1)) v)) := by unfold R_put; rw [am_ite_t z10, am_ite_t z28]
      exact r_lret k48_67 rfl ⟨by rw [e9], by rw [e9], by rw [e9]; exact hT38⟩
  · refine r_aload k48_13 rfl ?_
    refine r_iload k48_14 rfl ?_
    refine j_call (ml := 2) k48_16 rfl (show 0 < d.1 by omega) (show 19 + 2 ≤ d.2 by omega) ⟨Nat.le_of_ble_eq_true rfl, Nat.le_of_ble_eq_true rfl, am_obB hB rfl, Nat.le_of_ble_eq_true rfl⟩ rfl (rest := []) rfl (s_R_fail hB hT3 ((R_reach J i nm).1)) (fun r h1 hq => ?_)
    obtain ⟨rfl, rfl, hT16⟩ := hq
    show am_wp _ _ _ [some (.ref 36), some (.int (i)), some (.int (nm)), some (.int (v)), some (.int ((R_reach J i nm).1))] [.long ((R_fail ((R_reach J i nm).2) ((R_reach J i nm).1)).1)] _ _
    have e9 : R_put J i nm v = (((R_fail ((R_reach J i nm).2) ((R_reach J i nm).1)).1, (R_fail ((R_reach J i nm).2) ((R_reach J i nm).1)).2)) := by unfold R_put; rw [am_ite_f z10]
    exact r_lret k48_19 rfl ⟨by rw [e9], by rw [e9], by rw [e9]; exact hT16⟩
theorem fr_R_put {J : Nat → Nat → Int32} {i : Int32} {nm : Int32} {v : Int32} (q : Nat) (hq : ¬ q = 36 ∧ ¬ q = 44 ∧ ¬ q = 46 ∧ ¬ q = 47 ∧ ¬ q = 48 ∧ ¬ q = 73) : (R_put J i nm v).2 q = J q := by
  unfold R_put
  refine fr_i2 (fun _ => ?_) (fun _ => ?_)
  · refine fr_i2 (fun _ => ?_) (fun _ => ?_)
    · exact (fr_u (by omega)).trans (fr_R_reach q (by omega))
    · exact (fr_u (by omega)).trans ((fr_u (by omega)).trans (fr_R_reach q (by omega)))
  · exact (fr_R_fail q (by omega)).trans (fr_R_reach q (by omega))
noncomputable def R_unbind (J : Nat → Nat → Int32) (i : Int32) (nm : Int32) : Int64 × (Nat → Nat → Int32) := (am_ite (0 ≤ ((R_reach J i nm).1)) (am_ite ((jn ((R_reach J i nm).2) 43 (jx ((R_reach J i nm).1))) = 3) (((R_fail ((R_reach J i nm).2) ((-6))).1, (R_fail ((R_reach J i nm).2) ((-6))).2)) (((((((R_reach J i nm).2) 47 (jx i)) >>> ((nI (jx nm)) &&& 31)) &&& (nI 1)).toInt64, am_u2 ((R_reach J i nm).2) 47 (jx i) ((((R_reach J i nm).2) 47 (jx i)) &&& (((nI 1) <<< ((nI (jx nm)) &&& 31)) ^^^ ((-1))))))) (((R_fail ((R_reach J i nm).2) ((R_reach J i nm).1)).1, (R_fail ((R_reach J i nm).2) ((R_reach J i nm).1)).2)))
set_option maxRecDepth 20000 in
theorem s_R_unbind {d : am_D} {h : am_H} {J : Nat → Nat → Int32} (hB : am_B h) (hT : am_ty2 J) (i : Int32) (nm : Int32) (hd : 5 ≤ d.1) (hw : 117 ≤ d.2) : am_wp d 49 0 [some (.ref 36), some (.int (i)), some (.int (nm)), none, none] [] (am_si h J) (fun r h' => r = some (.long (R_unbind J i nm).1) ∧ h' = am_si h (R_unbind J i nm).2 ∧ am_ty2 (R_unbind J i nm).2) := by
  refine r_aload k49_0 rfl ?_
  refine r_iload k49_1 rfl ?_
  refine r_iload k49_2 rfl ?_
  refine j_call (ml := 4) k49_3 rfl (show 0 < d.1 by omega) (show 19 + 4 ≤ d.2 by omega) ⟨Nat.le_of_ble_eq_true rfl, Nat.le_of_ble_eq_true rfl, am_obB hB rfl, Nat.le_of_ble_eq_true rfl⟩ rfl (rest := []) rfl (s_R_reach hB hT i nm (show 4 ≤ d.1 - 1 by omega) (show 94 ≤ d.2 - 23 by omega)) (fun r h1 hq => ?_)
  obtain ⟨rfl, rfl, hT3⟩ := hq
  show am_wp _ _ _ [some (.ref 36), some (.int (i)), some (.int (nm)), none, none] [.int ((R_reach J i nm).1)] _ _
  refine r_istore (L' := [some (.ref 36), some (.int (i)), some (.int (nm)), some (.int ((R_reach J i nm).1)), none]) k49_6 (Nat.le_of_ble_eq_true rfl) rfl ?_
  refine r_iload k49_7 rfl ?_
  refine r_ifge k49_8 (fun z8 => ?_) (fun z8 => ?_)
  · have e0_z8 := (R_reach_r h hB hT z8).1
    rw [show ([some (.ref 36), some (.int (i)), some (.int (nm)), some (.int ((R_reach J i nm).1)), none] : am_L) = [some (.ref 36), some (.int (nI (jx i))), some (.int (nm)), some (.int ((R_reach J i nm).1)), none] by rw [← e0_z8.1]]
    have e1_z8 := (R_reach_r h hB hT z8).2.1
    rw [show ([some (.ref 36), some (.int (nI (jx i))), some (.int (nm)), some (.int ((R_reach J i nm).1)), none] : am_L) = [some (.ref 36), some (.int (nI (jx i))), some (.int (nI (jx nm))), some (.int ((R_reach J i nm).1)), none] by rw [← e1_z8.1]]
    have e2_z8 := (R_reach_r h hB hT z8).2.2
    rw [show ([some (.ref 36), some (.int (nI (jx i))), some (.int (nI (jx nm))), some (.int ((R_reach J i nm).1)), none] : am_L) = [some (.ref 36), some (.int (nI (jx i))), some (.int (nI (jx nm))), some (.int (nI (jx ((R_reach J i nm).1)))), none] by rw [← e2_z8.1]]
    refine r_aload k49_17 rfl ?_
    refine j_ref (b := 43) k49_18 hB rfl ?_
    refine r_iload k49_21 rfl ?_
    have b22 := ty_n hT3 (q := 43) (B := 4) (by decide) (by decide) (jx ((R_reach J i nm).1))
    refine j_ald (n := 72) (j := (jx ((R_reach J i nm).1))) (v := (nI (jn ((R_reach J i nm).2) 43 (jx ((R_reach J i nm).1))))) k49_22 hB rfl rfl (by omega) b22.1 ?_
    refine r_pushn (v := nI 3) k49_23 rfl ?_
    refine r_icmpneN (by omega) (by omega) k49_24 (fun z24 => ?_) (fun z24 => ?_)
    · refine r_aload k49_34 rfl ?_
      refine j_ref (b := 47) k49_35 hB rfl ?_
      refine r_iload k49_38 rfl ?_
      refine j_ald (n := 12) (j := (jx i)) (v := (((R_reach J i nm).2) 47 (jx i))) k49_39 hB rfl rfl (by omega) rfl ?_
      refine r_iload k49_40 rfl ?_
      refine r_ishr k49_41 ?_
      refine r_pushn (v := nI 1) k49_42 rfl ?_
      refine r_iand k49_43 ?_
      refine r_istore (L' := [some (.ref 36), some (.int (nI (jx i))), some (.int (nI (jx nm))), some (.int (nI (jx ((R_reach J i nm).1)))), some (.int (((((R_reach J i nm).2) 47 (jx i)) >>> ((nI (jx nm)) &&& 31)) &&& (nI 1)))]) k49_44 (Nat.le_of_ble_eq_true rfl) rfl ?_
      refine r_aload k49_46 rfl ?_
      refine j_ref (b := 47) k49_47 hB rfl ?_
      refine r_iload k49_50 rfl ?_
      refine r_dup2 rfl rfl k49_51 ?_
      refine j_ald (n := 12) (j := (jx i)) (v := (((R_reach J i nm).2) 47 (jx i))) k49_52 hB rfl rfl (by omega) rfl ?_
      refine r_pushn (v := nI 1) k49_53 rfl ?_
      refine r_iload k49_54 rfl ?_
      refine r_ishl k49_55 ?_
      refine r_pushn (v := (-1)) k49_56 rfl ?_
      refine r_ixor k49_57 ?_
      refine r_iand k49_58 ?_
      refine j_ast (n := 12) (j := (jx i)) k49_59 hB rfl rfl (by omega) ?_
      have hT59 : am_ty2 (am_u2 ((R_reach J i nm).2) 47 (jx i) ((((R_reach J i nm).2) 47 (jx i)) &&& (((nI 1) <<< ((nI (jx nm)) &&& 31)) ^^^ ((-1))))) := ty_w hT3 (tw_a (by decide) (by decide) (by decide))
      refine r_iload k49_60 rfl ?_
      refine r_i2l k49_62 ?_
      have e9 : R_unbind J i nm = (((((((R_reach J i nm).2) 47 (jx i)) >>> ((nI (jx nm)) &&& 31)) &&& (nI 1)).toInt64, am_u2 ((R_reach J i nm).2) 47 (jx i) ((((R_reach J i nm).2) 47 (jx i)) &&& (((nI 1) <<< ((nI (jx nm)) &&& 31)) ^^^ ((-1)))))) := by unfold R_unbind; rw [am_ite_t z8, am_ite_f z24]
      exact r_lret k49_63 rfl ⟨by rw [e9], by rw [e9], by rw [e9]; exact hT59⟩
    · refine r_aload k49_27 rfl ?_
      refine r_pushn (v := (-6)) k49_28 rfl ?_
      refine j_call (ml := 2) k49_30 rfl (show 0 < d.1 by omega) (show 19 + 2 ≤ d.2 by omega) ⟨Nat.le_of_ble_eq_true rfl, Nat.le_of_ble_eq_true rfl, am_obB hB rfl, Nat.le_of_ble_eq_true rfl⟩ rfl (rest := []) rfl (s_R_fail hB hT3 ((-6))) (fun r h1 hq => ?_)
      obtain ⟨rfl, rfl, hT30⟩ := hq
      show am_wp _ _ _ [some (.ref 36), some (.int (nI (jx i))), some (.int (nI (jx nm))), some (.int (nI (jx ((R_reach J i nm).1)))), none] [.long ((R_fail ((R_reach J i nm).2) ((-6))).1)] _ _
      have e9 : R_unbind J i nm = (((R_fail ((R_reach J i nm).2) ((-6))).1, (R_fail ((R_reach J i nm).2) ((-6))).2)) := by unfold R_unbind; rw [am_ite_t z8, am_ite_t z24]
      exact r_lret k49_33 rfl ⟨by rw [e9], by rw [e9], by rw [e9]; exact hT30⟩
  · refine r_aload k49_11 rfl ?_
    refine r_iload k49_12 rfl ?_
    refine j_call (ml := 2) k49_13 rfl (show 0 < d.1 by omega) (show 19 + 2 ≤ d.2 by omega) ⟨Nat.le_of_ble_eq_true rfl, Nat.le_of_ble_eq_true rfl, am_obB hB rfl, Nat.le_of_ble_eq_true rfl⟩ rfl (rest := []) rfl (s_R_fail hB hT3 ((R_reach J i nm).1)) (fun r h1 hq => ?_)
    obtain ⟨rfl, rfl, hT13⟩ := hq
    show am_wp _ _ _ [some (.ref 36), some (.int (i)), some (.int (nm)), some (.int ((R_reach J i nm).1)), none] [.long ((R_fail ((R_reach J i nm).2) ((R_reach J i nm).1)).1)] _ _
    have e9 : R_unbind J i nm = (((R_fail ((R_reach J i nm).2) ((R_reach J i nm).1)).1, (R_fail ((R_reach J i nm).2) ((R_reach J i nm).1)).2)) := by unfold R_unbind; rw [am_ite_f z8]
    exact r_lret k49_16 rfl ⟨by rw [e9], by rw [e9], by rw [e9]; exact hT13⟩
theorem fr_R_unbind {J : Nat → Nat → Int32} {i : Int32} {nm : Int32} (q : Nat) (hq : ¬ q = 36 ∧ ¬ q = 46 ∧ ¬ q = 47 ∧ ¬ q = 48 ∧ ¬ q = 73) : (R_unbind J i nm).2 q = J q := by
  unfold R_unbind
  refine fr_i2 (fun _ => ?_) (fun _ => ?_)
  · refine fr_i2 (fun _ => ?_) (fun _ => ?_)
    · exact (fr_R_fail q (by omega)).trans (fr_R_reach q (by omega))
    · exact (fr_u (by omega)).trans (fr_R_reach q (by omega))
  · exact (fr_R_fail q (by omega)).trans (fr_R_reach q (by omega))
