/-! define, in the reference: stretches of the code. -/
theorem ty_mx {J : Nat → Nat → Int32} (hT : am_ty2 J) {q B : Nat} (hm : (q, B) ∈ am_tm) (hb : B < 5000) (j : Nat) : J q j = -1 ∨ ∃ n, n < B ∧ J q j = nI n := by
  by_cases z : J q j = -1
  · exact Or.inl z
  · have g := ty_m hT hm hb j z
    exact Or.inr ⟨_, g.2, g.1⟩
set_option maxRecDepth 20000 in
theorem l_Q_d0 {d : am_D} {h : am_H} {J : Nat → Nat → Int32} {Q : Option Value → am_H → Prop} (hB : am_B h) (hT : am_ty2 J) (c : Int32) (s : Int32) (t : Int32) (u : Int32)  (hd : 2 ≤ d.1) (hw : 45 ≤ d.2) (K1 : ¬ (r_is c (nI 1) (nI 11)) → am_ty2 (J) → Q (some (.int ((-1)))) (am_si h J)) (K2 : (r_is c (nI 1) (nI 11)) → ¬ (r_is s (nI 0) (nI 11)) → am_ty2 (J) → Q (some (.int ((-1)))) (am_si h J)) (K3 : (r_is c (nI 1) (nI 11)) → (r_is s (nI 0) (nI 11)) → ¬ (r_is t ((-1)) (nI 11)) → am_ty2 (J) → Q (some (.int ((-1)))) (am_si h J)) (K4 : (r_is c (nI 1) (nI 11)) → (r_is s (nI 0) (nI 11)) → (r_is t ((-1)) (nI 11)) → (r_is u ((-1)) (nI 11)) → am_ty2 (J) → am_wp d 37 43 [some (.ref 36), some (.int (nI (jx c))), some (.int (nI (jx s))), some (.int (t)), some (.int (u)), none, none, none] [] (am_si h J) Q) (K5 : (r_is c (nI 1) (nI 11)) → (r_is s (nI 0) (nI 11)) → (r_is t ((-1)) (nI 11)) → ¬ (r_is u ((-1)) (nI 11)) → am_ty2 (J) → Q (some (.int ((-1)))) (am_si h J)) : am_wp d 37 0 [some (.ref 36), some (.int (c)), some (.int (s)), some (.int (t)), some (.int (u)), none, none, none] [] (am_si h J) Q := by
  refine r_iload k37_0 rfl ?_
  refine r_pushn (v := nI 1) k37_1 rfl ?_
  refine r_pushn (v := nI 11) k37_2 rfl ?_
  refine j_call (ml := 3) k37_4 rfl (show 0 < d.1 by omega) (show 19 + 3 ≤ d.2 by omega) ⟨Nat.le_of_ble_eq_true rfl, Nat.le_of_ble_eq_true rfl, True.intro, Nat.le_of_ble_eq_true rfl⟩ rfl (rest := []) rfl (s_r_is c (nI 1) (nI 11)) (fun r h1 hq => ?_)
  obtain ⟨rfl, rfl⟩ := hq
  show am_wp _ _ _ [some (.ref 36), some (.int (c)), some (.int (s)), some (.int (t)), some (.int (u)), none, none, none] [.int (am_b (r_is c (nI 1) (nI 11)))] _ _
  refine r_ifeqB k37_7 (fun z7 => ?_) (fun z7 => ?_)
  · refine r_pushn (v := (-1)) k37_41 rfl ?_
    exact r_iret k37_42 rfl (K1 z7 hT)
  · have e_c := jx_eqL (by decide) (by decide) (show w_in _ _ _ from z7)
    rw [show ([some (.ref 36), some (.int (c)), some (.int (s)), some (.int (t)), some (.int (u)), none, none, none] : am_L) = [some (.ref 36), some (.int (nI (jx c))), some (.int (s)), some (.int (t)), some (.int (u)), none, none, none] by rw [← e_c.1]]
    refine r_iload k37_10 rfl ?_
    refine r_pushn (v := nI 0) k37_11 rfl ?_
    refine r_pushn (v := nI 11) k37_12 rfl ?_
    refine j_call (ml := 3) k37_14 rfl (show 0 < d.1 by omega) (show 19 + 3 ≤ d.2 by omega) ⟨Nat.le_of_ble_eq_true rfl, Nat.le_of_ble_eq_true rfl, True.intro, Nat.le_of_ble_eq_true rfl⟩ rfl (rest := []) rfl (s_r_is s (nI 0) (nI 11)) (fun r h1 hq => ?_)
    obtain ⟨rfl, rfl⟩ := hq
    show am_wp _ _ _ [some (.ref 36), some (.int (nI (jx c))), some (.int (s)), some (.int (t)), some (.int (u)), none, none, none] [.int (am_b (r_is s (nI 0) (nI 11)))] _ _
    refine r_ifeqB k37_17 (fun z17 => ?_) (fun z17 => ?_)
    · refine r_pushn (v := (-1)) k37_41 rfl ?_
      exact r_iret k37_42 rfl (K2 z7 z17 hT)
    · have e_s := jx_eq (by decide) (show w_in _ _ _ from z17)
      rw [show ([some (.ref 36), some (.int (nI (jx c))), some (.int (s)), some (.int (t)), some (.int (u)), none, none, none] : am_L) = [some (.ref 36), some (.int (nI (jx c))), some (.int (nI (jx s))), some (.int (t)), some (.int (u)), none, none, none] by rw [← e_s.1]]
      refine r_iload k37_20 rfl ?_
      refine r_pushn (v := (-1)) k37_21 rfl ?_
      refine r_pushn (v := nI 11) k37_22 rfl ?_
      refine j_call (ml := 3) k37_24 rfl (show 0 < d.1 by omega) (show 19 + 3 ≤ d.2 by omega) ⟨Nat.le_of_ble_eq_true rfl, Nat.le_of_ble_eq_true rfl, True.intro, Nat.le_of_ble_eq_true rfl⟩ rfl (rest := []) rfl (s_r_is t ((-1)) (nI 11)) (fun r h1 hq => ?_)
      obtain ⟨rfl, rfl⟩ := hq
      show am_wp _ _ _ [some (.ref 36), some (.int (nI (jx c))), some (.int (nI (jx s))), some (.int (t)), some (.int (u)), none, none, none] [.int (am_b (r_is t ((-1)) (nI 11)))] _ _
      refine r_ifeqB k37_27 (fun z27 => ?_) (fun z27 => ?_)
      · refine r_pushn (v := (-1)) k37_41 rfl ?_
        exact r_iret k37_42 rfl (K3 z7 z17 z27 hT)
      · refine r_iload k37_30 rfl ?_
        refine r_pushn (v := (-1)) k37_32 rfl ?_
        refine r_pushn (v := nI 11) k37_33 rfl ?_
        refine j_call (ml := 3) k37_35 rfl (show 0 < d.1 by omega) (show 19 + 3 ≤ d.2 by omega) ⟨Nat.le_of_ble_eq_true rfl, Nat.le_of_ble_eq_true rfl, True.intro, Nat.le_of_ble_eq_true rfl⟩ rfl (rest := []) rfl (s_r_is u ((-1)) (nI 11)) (fun r h1 hq => ?_)
        obtain ⟨rfl, rfl⟩ := hq
        show am_wp _ _ _ [some (.ref 36), some (.int (nI (jx c))), some (.int (nI (jx s))), some (.int (t)), some (.int (u)), none, none, none] [.int (am_b (r_is u ((-1)) (nI 11)))] _ _
        refine r_ifneB k37_38 (fun z38 => ?_) (fun z38 => ?_)
        · exact K4 z7 z17 z27 z38 hT
        · refine r_pushn (v := (-1)) k37_41 rfl ?_
          exact r_iret k37_42 rfl (K5 z7 z17 z27 z38 hT)
set_option maxRecDepth 20000 in
theorem l_Q_dA {d : am_D} {h : am_H} {J : Nat → Nat → Int32} {Q : Option Value → am_H → Prop} (hB : am_B h) (hT : am_ty2 J) (c : Nat) (s : Nat) (u : Int32) (hc : c < 12) (hs : s < 12) (hd : 2 ≤ d.1) (hw : 45 ≤ d.2) (K1 : ((nI s) = ((-1))) → am_ty2 (J) → Q (some (.int ((-1)))) (am_si h J)) (K2 : ¬ ((nI s) = ((-1))) → (s = c) → am_ty2 (J) → am_wp d 37 134 [some (.ref 36), some (.int (nI (c))), some (.int (nI (s))), some (.int ((-1))), some (.int (u)), some (.int ((-1))), none, none] [] (am_si h J) Q) (K3 : ¬ ((nI s) = ((-1))) → ¬ (s = c) → ((jn J 37 s) = 0) → am_ty2 (J) → Q (some (.int ((-2)))) (am_si h J)) (K4 : ¬ ((nI s) = ((-1))) → ¬ (s = c) → ¬ ((jn J 37 s) = 0) → am_ty2 (J) → am_wp d 37 134 [some (.ref 36), some (.int (nI (c))), some (.int (nI (s))), some (.int ((-1))), some (.int (u)), some (.int ((-1))), none, none] [] (am_si h J) Q) : am_wp d 37 43 [some (.ref 36), some (.int (nI (c))), some (.int (nI (s))), some (.int ((-1))), some (.int (u)), none, none, none] [] (am_si h J) Q := by
  refine r_iload k37_43 rfl ?_
  refine r_ifge k37_44 (fun z => absurd z (show ¬ (0 : Int32) ≤ (-1) by decide)) (fun _ => ?_)
  refine r_pushn (v := (-1)) k37_47 rfl ?_
  refine r_goto k37_48 ?_
  refine r_istore (L' := [some (.ref 36), some (.int (nI (c))), some (.int (nI (s))), some (.int ((-1))), some (.int (u)), some (.int ((-1))), none, none]) k37_53 (Nat.le_of_ble_eq_true rfl) rfl ?_
  refine r_iload k37_55 rfl ?_
  refine r_iload k37_56 rfl ?_
  refine r_icmpeq k37_57 (fun z57 => ?_) (fun z57 => ?_)
  · refine r_pushn (v := (-1)) k37_76 rfl ?_
    exact r_iret k37_77 rfl (K1 z57 hT)
  · refine r_iload k37_60 rfl ?_
    refine r_iflt k37_61 (fun _ => ?_) (fun z => absurd (show ((-1) : Int32) < 0 by decide) z)
    refine r_iload k37_70 rfl ?_
    refine r_iload k37_71 rfl ?_
    refine r_icmpne k37_73 (fun z73 => ?_) (fun z73 => ?_)
    · refine r_iload k37_78 rfl ?_
      refine r_iload k37_79 rfl ?_
      refine r_icmpeqN (by omega) (by omega) k37_80 (fun z80 => ?_) (fun z80 => ?_)
      · refine r_iload k37_92 rfl ?_
        refine r_iflt k37_93 (fun _ => ?_) (fun z => absurd (show ((-1) : Int32) < 0 by decide) z)
        refine r_iload k37_110 rfl ?_
        refine r_iflt k37_112 (fun _ => ?_) (fun z => absurd (show ((-1) : Int32) < 0 by decide) z)
        exact K2 z57 z80 hT
      · refine r_aload k37_83 rfl ?_
        refine j_ref (b := 37) k37_84 hB rfl ?_
        refine r_iload k37_87 rfl ?_
        have b88 := ty_n hT (q := 37) (B := 2) (by decide) (by decide) s
        refine j_zld (n := 12) (j := s) (v := (nI (jn J 37 s))) k37_88 hB rfl rfl (by omega) b88.1 ?_
        refine r_ifeqN (by omega) k37_89 (fun z89 => ?_) (fun z89 => ?_)
        · refine r_pushn (v := (-2)) k37_131 rfl ?_
          exact r_iret k37_133 rfl (K3 z57 z80 z89 hT)
        · refine r_iload k37_92 rfl ?_
          refine r_iflt k37_93 (fun _ => ?_) (fun z => absurd (show ((-1) : Int32) < 0 by decide) z)
          refine r_iload k37_110 rfl ?_
          refine r_iflt k37_112 (fun _ => ?_) (fun z => absurd (show ((-1) : Int32) < 0 by decide) z)
          exact K4 z57 z80 z89 hT
    · exact absurd z73 z57
set_option maxRecDepth 20000 in
theorem l_Q_dB {d : am_D} {h : am_H} {J : Nat → Nat → Int32} {Q : Option Value → am_H → Prop} (hB : am_B h) (hT : am_ty2 J) (c : Nat) (s : Nat) (t : Nat) (hc : c < 12) (hs : s < 12) (ht : t < 12) (hd : 2 ≤ d.1) (hw : 45 ≤ d.2) (K1 : (s = t) → am_ty2 (J) → Q (some (.int ((-1)))) (am_si h J)) (K2 : ¬ (s = t) → ((nI t) = ((-1))) → am_ty2 (J) → Q (some (.int ((-1)))) (am_si h J)) (K3 : ¬ (s = t) → ¬ ((nI t) = ((-1))) → ¬ ((nI s) = ((-1))) → (s = c) → (t = c) → am_ty2 (J) → am_wp d 37 134 [some (.ref 36), some (.int (nI (c))), some (.int (nI (s))), some (.int (nI (t))), some (.int ((-1))), some (.int ((-1))), none, none] [] (am_si h J) Q) (K4 : ¬ (s = t) → ¬ ((nI t) = ((-1))) → ¬ ((nI s) = ((-1))) → (s = c) → ¬ (t = c) → ((jn J 37 t) = 0) → am_ty2 (J) → Q (some (.int ((-2)))) (am_si h J)) (K5 : ¬ (s = t) → ¬ ((nI t) = ((-1))) → ¬ ((nI s) = ((-1))) → (s = c) → ¬ (t = c) → ¬ ((jn J 37 t) = 0) → am_ty2 (J) → am_wp d 37 134 [some (.ref 36), some (.int (nI (c))), some (.int (nI (s))), some (.int (nI (t))), some (.int ((-1))), some (.int ((-1))), none, none] [] (am_si h J) Q) (K6 : ¬ (s = t) → ¬ ((nI t) = ((-1))) → ¬ ((nI s) = ((-1))) → ¬ (s = c) → ((jn J 37 s) = 0) → am_ty2 (J) → Q (some (.int ((-2)))) (am_si h J)) (K7 : ¬ (s = t) → ¬ ((nI t) = ((-1))) → ¬ ((nI s) = ((-1))) → ¬ (s = c) → ¬ ((jn J 37 s) = 0) → (t = c) → am_ty2 (J) → am_wp d 37 134 [some (.ref 36), some (.int (nI (c))), some (.int (nI (s))), some (.int (nI (t))), some (.int ((-1))), some (.int ((-1))), none, none] [] (am_si h J) Q) (K8 : ¬ (s = t) → ¬ ((nI t) = ((-1))) → ¬ ((nI s) = ((-1))) → ¬ (s = c) → ¬ ((jn J 37 s) = 0) → ¬ (t = c) → ((jn J 37 t) = 0) → am_ty2 (J) → Q (some (.int ((-2)))) (am_si h J)) (K9 : ¬ (s = t) → ¬ ((nI t) = ((-1))) → ¬ ((nI s) = ((-1))) → ¬ (s = c) → ¬ ((jn J 37 s) = 0) → ¬ (t = c) → ¬ ((jn J 37 t) = 0) → am_ty2 (J) → am_wp d 37 134 [some (.ref 36), some (.int (nI (c))), some (.int (nI (s))), some (.int (nI (t))), some (.int ((-1))), some (.int ((-1))), none, none] [] (am_si h J) Q) (K10 : ¬ (s = t) → ¬ ((nI t) = ((-1))) → ((nI s) = ((-1))) → am_ty2 (J) → Q (some (.int ((-1)))) (am_si h J)) : am_wp d 37 43 [some (.ref 36), some (.int (nI (c))), some (.int (nI (s))), some (.int (nI (t))), some (.int ((-1))), none, none, none] [] (am_si h J) Q := by
  refine r_iload k37_43 rfl ?_
  refine r_ifgeN (by omega) k37_44 ?_
  refine r_iload k37_51 rfl ?_
  refine r_istore (L' := [some (.ref 36), some (.int (nI (c))), some (.int (nI (s))), some (.int (nI (t))), some (.int ((-1))), some (.int ((-1))), none, none]) k37_53 (Nat.le_of_ble_eq_true rfl) rfl ?_
  refine r_iload k37_55 rfl ?_
  refine r_iload k37_56 rfl ?_
  refine r_icmpeqN (by omega) (by omega) k37_57 (fun z57 => ?_) (fun z57 => ?_)
  · refine r_pushn (v := (-1)) k37_76 rfl ?_
    exact r_iret k37_77 rfl (K1 z57 hT)
  · refine r_iload k37_60 rfl ?_
    refine r_ifltN (by omega) k37_61 ?_
    refine r_iload k37_64 rfl ?_
    refine r_iload k37_65 rfl ?_
    refine r_icmpeq k37_67 (fun z67 => ?_) (fun z67 => ?_)
    · refine r_pushn (v := (-1)) k37_76 rfl ?_
      exact r_iret k37_77 rfl (K2 z57 z67 hT)
    · refine r_iload k37_70 rfl ?_
      refine r_iload k37_71 rfl ?_
      refine r_icmpne k37_73 (fun z73 => ?_) (fun z73 => ?_)
      · refine r_iload k37_78 rfl ?_
        refine r_iload k37_79 rfl ?_
        refine r_icmpeqN (by omega) (by omega) k37_80 (fun z80 => ?_) (fun z80 => ?_)
        · refine r_iload k37_92 rfl ?_
          refine r_ifltN (by omega) k37_93 ?_
          refine r_iload k37_96 rfl ?_
          refine r_iload k37_97 rfl ?_
          refine r_icmpeqN (by omega) (by omega) k37_98 (fun z98 => ?_) (fun z98 => ?_)
          · refine r_iload k37_110 rfl ?_
            refine r_iflt k37_112 (fun _ => ?_) (fun z => absurd (show ((-1) : Int32) < 0 by decide) z)
            exact K3 z57 z67 z73 z80 z98 hT
          · refine r_aload k37_101 rfl ?_
            refine j_ref (b := 37) k37_102 hB rfl ?_
            refine r_iload k37_105 rfl ?_
            have b106 := ty_n hT (q := 37) (B := 2) (by decide) (by decide) t
            refine j_zld (n := 12) (j := t) (v := (nI (jn J 37 t))) k37_106 hB rfl rfl (by omega) b106.1 ?_
            refine r_ifeqN (by omega) k37_107 (fun z107 => ?_) (fun z107 => ?_)
            · refine r_pushn (v := (-2)) k37_131 rfl ?_
              exact r_iret k37_133 rfl (K4 z57 z67 z73 z80 z98 z107 hT)
            · refine r_iload k37_110 rfl ?_
              refine r_iflt k37_112 (fun _ => ?_) (fun z => absurd (show ((-1) : Int32) < 0 by decide) z)
              exact K5 z57 z67 z73 z80 z98 z107 hT
        · refine r_aload k37_83 rfl ?_
          refine j_ref (b := 37) k37_84 hB rfl ?_
          refine r_iload k37_87 rfl ?_
          have b88 := ty_n hT (q := 37) (B := 2) (by decide) (by decide) s
          refine j_zld (n := 12) (j := s) (v := (nI (jn J 37 s))) k37_88 hB rfl rfl (by omega) b88.1 ?_
          refine r_ifeqN (by omega) k37_89 (fun z89 => ?_) (fun z89 => ?_)
          · refine r_pushn (v := (-2)) k37_131 rfl ?_
            exact r_iret k37_133 rfl (K6 z57 z67 z73 z80 z89 hT)
          · refine r_iload k37_92 rfl ?_
            refine r_ifltN (by omega) k37_93 ?_
            refine r_iload k37_96 rfl ?_
            refine r_iload k37_97 rfl ?_
            refine r_icmpeqN (by omega) (by omega) k37_98 (fun z98 => ?_) (fun z98 => ?_)
            · refine r_iload k37_110 rfl ?_
              refine r_iflt k37_112 (fun _ => ?_) (fun z => absurd (show ((-1) : Int32) < 0 by decide) z)
              exact K7 z57 z67 z73 z80 z89 z98 hT
            · refine r_aload k37_101 rfl ?_
              refine j_ref (b := 37) k37_102 hB rfl ?_
              refine r_iload k37_105 rfl ?_
              have b106 := ty_n hT (q := 37) (B := 2) (by decide) (by decide) t
              refine j_zld (n := 12) (j := t) (v := (nI (jn J 37 t))) k37_106 hB rfl rfl (by omega) b106.1 ?_
              refine r_ifeqN (by omega) k37_107 (fun z107 => ?_) (fun z107 => ?_)
              · refine r_pushn (v := (-2)) k37_131 rfl ?_
                exact r_iret k37_133 rfl (K8 z57 z67 z73 z80 z89 z98 z107 hT)
              · refine r_iload k37_110 rfl ?_
                refine r_iflt k37_112 (fun _ => ?_) (fun z => absurd (show ((-1) : Int32) < 0 by decide) z)
                exact K9 z57 z67 z73 z80 z89 z98 z107 hT
      · refine r_pushn (v := (-1)) k37_76 rfl ?_
        exact r_iret k37_77 rfl (K10 z57 z67 z73 hT)
set_option maxRecDepth 20000 in
theorem l_Q_dC {d : am_D} {h : am_H} {J : Nat → Nat → Int32} {Q : Option Value → am_H → Prop} (hB : am_B h) (hT : am_ty2 J) (c : Nat) (s : Nat) (t : Nat) (u : Nat) (hc : c < 12) (hs : s < 12) (ht : t < 12) (hu : u < 12) (hd : 2 ≤ d.1) (hw : 45 ≤ d.2) (K1 : (s = t) → am_ty2 (J) → Q (some (.int ((-1)))) (am_si h J)) (K2 : ¬ (s = t) → (t = u) → am_ty2 (J) → Q (some (.int ((-1)))) (am_si h J)) (K3 : ¬ (s = t) → ¬ (t = u) → ¬ (s = u) → (s = c) → (t = c) → (u = c) → am_ty2 (J) → am_wp d 37 134 [some (.ref 36), some (.int (nI (c))), some (.int (nI (s))), some (.int (nI (t))), some (.int (nI (u))), some (.int (nI (u))), none, none] [] (am_si h J) Q) (K4 : ¬ (s = t) → ¬ (t = u) → ¬ (s = u) → (s = c) → (t = c) → ¬ (u = c) → ¬ ((jn J 37 u) = 0) → am_ty2 (J) → am_wp d 37 134 [some (.ref 36), some (.int (nI (c))), some (.int (nI (s))), some (.int (nI (t))), some (.int (nI (u))), some (.int (nI (u))), none, none] [] (am_si h J) Q) (K5 : ¬ (s = t) → ¬ (t = u) → ¬ (s = u) → (s = c) → (t = c) → ¬ (u = c) → ((jn J 37 u) = 0) → am_ty2 (J) → Q (some (.int ((-2)))) (am_si h J)) (K6 : ¬ (s = t) → ¬ (t = u) → ¬ (s = u) → (s = c) → ¬ (t = c) → ((jn J 37 t) = 0) → am_ty2 (J) → Q (some (.int ((-2)))) (am_si h J)) (K7 : ¬ (s = t) → ¬ (t = u) → ¬ (s = u) → (s = c) → ¬ (t = c) → ¬ ((jn J 37 t) = 0) → (u = c) → am_ty2 (J) → am_wp d 37 134 [some (.ref 36), some (.int (nI (c))), some (.int (nI (s))), some (.int (nI (t))), some (.int (nI (u))), some (.int (nI (u))), none, none] [] (am_si h J) Q) (K8 : ¬ (s = t) → ¬ (t = u) → ¬ (s = u) → (s = c) → ¬ (t = c) → ¬ ((jn J 37 t) = 0) → ¬ (u = c) → ¬ ((jn J 37 u) = 0) → am_ty2 (J) → am_wp d 37 134 [some (.ref 36), some (.int (nI (c))), some (.int (nI (s))), some (.int (nI (t))), some (.int (nI (u))), some (.int (nI (u))), none, none] [] (am_si h J) Q) (K9 : ¬ (s = t) → ¬ (t = u) → ¬ (s = u) → (s = c) → ¬ (t = c) → ¬ ((jn J 37 t) = 0) → ¬ (u = c) → ((jn J 37 u) = 0) → am_ty2 (J) → Q (some (.int ((-2)))) (am_si h J)) (K10 : ¬ (s = t) → ¬ (t = u) → ¬ (s = u) → ¬ (s = c) → ((jn J 37 s) = 0) → am_ty2 (J) → Q (some (.int ((-2)))) (am_si h J)) (K11 : ¬ (s = t) → ¬ (t = u) → ¬ (s = u) → ¬ (s = c) → ¬ ((jn J 37 s) = 0) → (t = c) → (u = c) → am_ty2 (J) → am_wp d 37 134 [some (.ref 36), some (.int (nI (c))), some (.int (nI (s))), some (.int (nI (t))), some (.int (nI (u))), some (.int (nI (u))), none, none] [] (am_si h J) Q) (K12 : ¬ (s = t) → ¬ (t = u) → ¬ (s = u) → ¬ (s = c) → ¬ ((jn J 37 s) = 0) → (t = c) → ¬ (u = c) → ¬ ((jn J 37 u) = 0) → am_ty2 (J) → am_wp d 37 134 [some (.ref 36), some (.int (nI (c))), some (.int (nI (s))), some (.int (nI (t))), some (.int (nI (u))), some (.int (nI (u))), none, none] [] (am_si h J) Q) (K13 : ¬ (s = t) → ¬ (t = u) → ¬ (s = u) → ¬ (s = c) → ¬ ((jn J 37 s) = 0) → (t = c) → ¬ (u = c) → ((jn J 37 u) = 0) → am_ty2 (J) → Q (some (.int ((-2)))) (am_si h J)) (K14 : ¬ (s = t) → ¬ (t = u) → ¬ (s = u) → ¬ (s = c) → ¬ ((jn J 37 s) = 0) → ¬ (t = c) → ((jn J 37 t) = 0) → am_ty2 (J) → Q (some (.int ((-2)))) (am_si h J)) (K15 : ¬ (s = t) → ¬ (t = u) → ¬ (s = u) → ¬ (s = c) → ¬ ((jn J 37 s) = 0) → ¬ (t = c) → ¬ ((jn J 37 t) = 0) → (u = c) → am_ty2 (J) → am_wp d 37 134 [some (.ref 36), some (.int (nI (c))), some (.int (nI (s))), some (.int (nI (t))), some (.int (nI (u))), some (.int (nI (u))), none, none] [] (am_si h J) Q) (K16 : ¬ (s = t) → ¬ (t = u) → ¬ (s = u) → ¬ (s = c) → ¬ ((jn J 37 s) = 0) → ¬ (t = c) → ¬ ((jn J 37 t) = 0) → ¬ (u = c) → ¬ ((jn J 37 u) = 0) → am_ty2 (J) → am_wp d 37 134 [some (.ref 36), some (.int (nI (c))), some (.int (nI (s))), some (.int (nI (t))), some (.int (nI (u))), some (.int (nI (u))), none, none] [] (am_si h J) Q) (K17 : ¬ (s = t) → ¬ (t = u) → ¬ (s = u) → ¬ (s = c) → ¬ ((jn J 37 s) = 0) → ¬ (t = c) → ¬ ((jn J 37 t) = 0) → ¬ (u = c) → ((jn J 37 u) = 0) → am_ty2 (J) → Q (some (.int ((-2)))) (am_si h J)) (K18 : ¬ (s = t) → ¬ (t = u) → (s = u) → am_ty2 (J) → Q (some (.int ((-1)))) (am_si h J)) : am_wp d 37 43 [some (.ref 36), some (.int (nI (c))), some (.int (nI (s))), some (.int (nI (t))), some (.int (nI (u))), none, none, none] [] (am_si h J) Q := by
  refine r_iload k37_43 rfl ?_
  refine r_ifgeN (by omega) k37_44 ?_
  refine r_iload k37_51 rfl ?_
  refine r_istore (L' := [some (.ref 36), some (.int (nI (c))), some (.int (nI (s))), some (.int (nI (t))), some (.int (nI (u))), some (.int (nI (u))), none, none]) k37_53 (Nat.le_of_ble_eq_true rfl) rfl ?_
  refine r_iload k37_55 rfl ?_
  refine r_iload k37_56 rfl ?_
  refine r_icmpeqN (by omega) (by omega) k37_57 (fun z57 => ?_) (fun z57 => ?_)
  · refine r_pushn (v := (-1)) k37_76 rfl ?_
    exact r_iret k37_77 rfl (K1 z57 hT)
  · refine r_iload k37_60 rfl ?_
    refine r_ifltN (by omega) k37_61 ?_
    refine r_iload k37_64 rfl ?_
    refine r_iload k37_65 rfl ?_
    refine r_icmpeqN (by omega) (by omega) k37_67 (fun z67 => ?_) (fun z67 => ?_)
    · refine r_pushn (v := (-1)) k37_76 rfl ?_
      exact r_iret k37_77 rfl (K2 z57 z67 hT)
    · refine r_iload k37_70 rfl ?_
      refine r_iload k37_71 rfl ?_
      refine r_icmpneN (by omega) (by omega) k37_73 (fun z73 => ?_) (fun z73 => ?_)
      · refine r_iload k37_78 rfl ?_
        refine r_iload k37_79 rfl ?_
        refine r_icmpeqN (by omega) (by omega) k37_80 (fun z80 => ?_) (fun z80 => ?_)
        · refine r_iload k37_92 rfl ?_
          refine r_ifltN (by omega) k37_93 ?_
          refine r_iload k37_96 rfl ?_
          refine r_iload k37_97 rfl ?_
          refine r_icmpeqN (by omega) (by omega) k37_98 (fun z98 => ?_) (fun z98 => ?_)
          · refine r_iload k37_110 rfl ?_
            refine r_ifltN (by omega) k37_112 ?_
            refine r_iload k37_115 rfl ?_
            refine r_iload k37_117 rfl ?_
            refine r_icmpeqN (by omega) (by omega) k37_118 (fun z118 => ?_) (fun z118 => ?_)
            · exact K3 z57 z67 z73 z80 z98 z118 hT
            · refine r_aload k37_121 rfl ?_
              refine j_ref (b := 37) k37_122 hB rfl ?_
              refine r_iload k37_125 rfl ?_
              have b127 := ty_n hT (q := 37) (B := 2) (by decide) (by decide) u
              refine j_zld (n := 12) (j := u) (v := (nI (jn J 37 u))) k37_127 hB rfl rfl (by omega) b127.1 ?_
              refine r_ifneN (by omega) k37_128 (fun z128 => ?_) (fun z128 => ?_)
              · exact K4 z57 z67 z73 z80 z98 z118 z128 hT
              · refine r_pushn (v := (-2)) k37_131 rfl ?_
                exact r_iret k37_133 rfl (K5 z57 z67 z73 z80 z98 z118 z128 hT)
          · refine r_aload k37_101 rfl ?_
            refine j_ref (b := 37) k37_102 hB rfl ?_
            refine r_iload k37_105 rfl ?_
            have b106 := ty_n hT (q := 37) (B := 2) (by decide) (by decide) t
            refine j_zld (n := 12) (j := t) (v := (nI (jn J 37 t))) k37_106 hB rfl rfl (by omega) b106.1 ?_
            refine r_ifeqN (by omega) k37_107 (fun z107 => ?_) (fun z107 => ?_)
            · refine r_pushn (v := (-2)) k37_131 rfl ?_
              exact r_iret k37_133 rfl (K6 z57 z67 z73 z80 z98 z107 hT)
            · refine r_iload k37_110 rfl ?_
              refine r_ifltN (by omega) k37_112 ?_
              refine r_iload k37_115 rfl ?_
              refine r_iload k37_117 rfl ?_
              refine r_icmpeqN (by omega) (by omega) k37_118 (fun z118 => ?_) (fun z118 => ?_)
              · exact K7 z57 z67 z73 z80 z98 z107 z118 hT
              · refine r_aload k37_121 rfl ?_
                refine j_ref (b := 37) k37_122 hB rfl ?_
                refine r_iload k37_125 rfl ?_
                have b127 := ty_n hT (q := 37) (B := 2) (by decide) (by decide) u
                refine j_zld (n := 12) (j := u) (v := (nI (jn J 37 u))) k37_127 hB rfl rfl (by omega) b127.1 ?_
                refine r_ifneN (by omega) k37_128 (fun z128 => ?_) (fun z128 => ?_)
                · exact K8 z57 z67 z73 z80 z98 z107 z118 z128 hT
                · refine r_pushn (v := (-2)) k37_131 rfl ?_
                  exact r_iret k37_133 rfl (K9 z57 z67 z73 z80 z98 z107 z118 z128 hT)
        · refine r_aload k37_83 rfl ?_
          refine j_ref (b := 37) k37_84 hB rfl ?_
          refine r_iload k37_87 rfl ?_
          have b88 := ty_n hT (q := 37) (B := 2) (by decide) (by decide) s
          refine j_zld (n := 12) (j := s) (v := (nI (jn J 37 s))) k37_88 hB rfl rfl (by omega) b88.1 ?_
          refine r_ifeqN (by omega) k37_89 (fun z89 => ?_) (fun z89 => ?_)
          · refine r_pushn (v := (-2)) k37_131 rfl ?_
            exact r_iret k37_133 rfl (K10 z57 z67 z73 z80 z89 hT)
          · refine r_iload k37_92 rfl ?_
            refine r_ifltN (by omega) k37_93 ?_
            refine r_iload k37_96 rfl ?_
            refine r_iload k37_97 rfl ?_
            refine r_icmpeqN (by omega) (by omega) k37_98 (fun z98 => ?_) (fun z98 => ?_)
            · refine r_iload k37_110 rfl ?_
              refine r_ifltN (by omega) k37_112 ?_
              refine r_iload k37_115 rfl ?_
              refine r_iload k37_117 rfl ?_
              refine r_icmpeqN (by omega) (by omega) k37_118 (fun z118 => ?_) (fun z118 => ?_)
              · exact K11 z57 z67 z73 z80 z89 z98 z118 hT
              · refine r_aload k37_121 rfl ?_
                refine j_ref (b := 37) k37_122 hB rfl ?_
                refine r_iload k37_125 rfl ?_
                have b127 := ty_n hT (q := 37) (B := 2) (by decide) (by decide) u
                refine j_zld (n := 12) (j := u) (v := (nI (jn J 37 u))) k37_127 hB rfl rfl (by omega) b127.1 ?_
                refine r_ifneN (by omega) k37_128 (fun z128 => ?_) (fun z128 => ?_)
                · exact K12 z57 z67 z73 z80 z89 z98 z118 z128 hT
                · refine r_pushn (v := (-2)) k37_131 rfl ?_
                  exact r_iret k37_133 rfl (K13 z57 z67 z73 z80 z89 z98 z118 z128 hT)
            · refine r_aload k37_101 rfl ?_
              refine j_ref (b := 37) k37_102 hB rfl ?_
              refine r_iload k37_105 rfl ?_
              have b106 := ty_n hT (q := 37) (B := 2) (by decide) (by decide) t
              refine j_zld (n := 12) (j := t) (v := (nI (jn J 37 t))) k37_106 hB rfl rfl (by omega) b106.1 ?_
              refine r_ifeqN (by omega) k37_107 (fun z107 => ?_) (fun z107 => ?_)
              · refine r_pushn (v := (-2)) k37_131 rfl ?_
                exact r_iret k37_133 rfl (K14 z57 z67 z73 z80 z89 z98 z107 hT)
              · refine r_iload k37_110 rfl ?_
                refine r_ifltN (by omega) k37_112 ?_
                refine r_iload k37_115 rfl ?_
                refine r_iload k37_117 rfl ?_
                refine r_icmpeqN (by omega) (by omega) k37_118 (fun z118 => ?_) (fun z118 => ?_)
                · exact K15 z57 z67 z73 z80 z89 z98 z107 z118 hT
                · refine r_aload k37_121 rfl ?_
                  refine j_ref (b := 37) k37_122 hB rfl ?_
                  refine r_iload k37_125 rfl ?_
                  have b127 := ty_n hT (q := 37) (B := 2) (by decide) (by decide) u
                  refine j_zld (n := 12) (j := u) (v := (nI (jn J 37 u))) k37_127 hB rfl rfl (by omega) b127.1 ?_
                  refine r_ifneN (by omega) k37_128 (fun z128 => ?_) (fun z128 => ?_)
                  · exact K16 z57 z67 z73 z80 z89 z98 z107 z118 z128 hT
                  · refine r_pushn (v := (-2)) k37_131 rfl ?_
                    exact r_iret k37_133 rfl (K17 z57 z67 z73 z80 z89 z98 z107 z118 z128 hT)
      · refine r_pushn (v := (-1)) k37_76 rfl ?_
        exact r_iret k37_77 rfl (K18 z57 z67 z73 hT)
set_option maxRecDepth 20000 in
theorem l_Q_dk {d : am_D} {h : am_H} {J : Nat → Nat → Int32} {Q : Option Value → am_H → Prop} (hB : am_B h) (hT : am_ty2 J) (c : Nat) (s : Nat) (k : Nat) (a : Nat) (t : Int32) (u : Int32) (v : Int32) (hc : c < 12) (ha : a < 12) (hd : 2 ≤ d.1) (hw : 45 ≤ d.2) (K1 : (a = c) → am_ty2 (J) → Q (some (.int ((-4)))) (am_si h J)) (K2 : ¬ (a = c) → ((jn J 37 c) = 0) → am_ty2 (J) → am_wp d 37 199 [some (.ref 36), some (.int (nI (c))), some (.int (nI (s))), some (.int (t)), some (.int (u)), some (.int (v)), some (.int (nI (k))), some (.int (nI (a)))] [] (am_si h J) Q) (K3 : ¬ (a = c) → ¬ ((jn J 37 c) = 0) → ¬ (R_sub J a (nI c)) → am_ty2 (J) → am_wp d 37 199 [some (.ref 36), some (.int (nI (c))), some (.int (nI (s))), some (.int (t)), some (.int (u)), some (.int (v)), some (.int (nI (k))), some (.int (nI (a)))] [] (am_si h J) Q) (K4 : ¬ (a = c) → ¬ ((jn J 37 c) = 0) → (R_sub J a (nI c)) → am_ty2 (J) → Q (some (.int ((-4)))) (am_si h J)) : am_wp d 37 164 [some (.ref 36), some (.int (nI (c))), some (.int (nI (s))), some (.int (t)), some (.int (u)), some (.int (v)), some (.int (nI (k))), none] [.int (nI (a))] (am_si h J) Q := by
  refine r_istore (L' := [some (.ref 36), some (.int (nI (c))), some (.int (nI (s))), some (.int (t)), some (.int (u)), some (.int (v)), some (.int (nI (k))), some (.int (nI (a)))]) k37_164 (Nat.le_of_ble_eq_true rfl) rfl ?_
  refine r_iload k37_166 rfl ?_
  refine r_ifltN (by omega) k37_168 ?_
  refine r_iload k37_171 rfl ?_
  refine r_iload k37_173 rfl ?_
  refine r_icmpeqN (by omega) (by omega) k37_174 (fun z174 => ?_) (fun z174 => ?_)
  · refine r_pushn (v := (-4)) k37_196 rfl ?_
    exact r_iret k37_198 rfl (K1 z174 hT)
  · refine r_aload k37_177 rfl ?_
    refine j_ref (b := 37) k37_178 hB rfl ?_
    refine r_iload k37_181 rfl ?_
    have b182 := ty_n hT (q := 37) (B := 2) (by decide) (by decide) c
    refine j_zld (n := 12) (j := c) (v := (nI (jn J 37 c))) k37_182 hB rfl rfl (by omega) b182.1 ?_
    refine r_ifeqN (by omega) k37_183 (fun z183 => ?_) (fun z183 => ?_)
    · exact K2 z174 z183 hT
    · refine r_aload k37_186 rfl ?_
      refine r_iload k37_187 rfl ?_
      refine r_iload k37_189 rfl ?_
      refine j_call (ml := 3) k37_190 rfl (show 0 < d.1 by omega) (show 19 + 3 ≤ d.2 by omega) ⟨Nat.le_of_ble_eq_true rfl, Nat.le_of_ble_eq_true rfl, am_obB hB rfl, Nat.le_of_ble_eq_true rfl⟩ rfl (rest := []) rfl (s_R_sub hB hT a (nI c) (by omega) (show 1 ≤ d.1 - 1 by omega) (show 23 ≤ d.2 - 22 by omega)) (fun r h1 hq => ?_)
      obtain ⟨rfl, rfl⟩ := hq
      show am_wp _ _ _ [some (.ref 36), some (.int (nI (c))), some (.int (nI (s))), some (.int (t)), some (.int (u)), some (.int (v)), some (.int (nI (k))), some (.int (nI (a)))] [.int (am_b (R_sub J a (nI c)))] _ _
      refine r_ifeqB k37_193 (fun z193 => ?_) (fun z193 => ?_)
      · exact K3 z174 z183 z193 hT
      · refine r_pushn (v := (-4)) k37_196 rfl ?_
        exact r_iret k37_198 rfl (K4 z174 z183 z193 hT)
set_option maxRecDepth 20000 in
theorem l_Q_l1 {d : am_D} {h : am_H} {J : Nat → Nat → Int32} {Q : Option Value → am_H → Prop} (hB : am_B h) (hT : am_ty2 J) (c : Nat) (s : Nat) (k : Nat) (t : Int32) (u : Int32) (v : Int32) (hk : k ≤ 36) (hd : 2 ≤ d.1) (hw : 45 ≤ d.2) (K1 : (36 ≤ k) → am_ty2 (J) → am_wp d 37 235 [some (.ref 36), some (.int (nI (c))), some (.int (nI (s))), some (.int (t)), some (.int (u)), some (.int (v)), some (.int (nI (k))), none] [] (am_si h J) Q) (K2 : ¬ (36 ≤ k) → am_ty2 (am_u2 J 41 k (J 38 k)) → am_wp d 37 208 [some (.ref 36), some (.int (nI (c))), some (.int (nI (s))), some (.int (t)), some (.int (u)), some (.int (v)), some (.int (nI (k + 1))), none] [] (am_si h (am_u2 J 41 k (J 38 k))) Q) : am_wp d 37 208 [some (.ref 36), some (.int (nI (c))), some (.int (nI (s))), some (.int (t)), some (.int (u)), some (.int (v)), some (.int (nI (k))), none] [] (am_si h J) Q := by
  refine r_iload k37_208 rfl ?_
  refine r_pushn (v := nI 36) k37_210 rfl ?_
  refine r_icmpgeN (by omega) (by omega) k37_212 (fun z212 => ?_) (fun z212 => ?_)
  · exact K1 z212 hT
  · refine r_aload k37_215 rfl ?_
    refine j_ref (b := 41) k37_216 hB rfl ?_
    refine r_iload k37_219 rfl ?_
    refine r_aload k37_221 rfl ?_
    refine j_ref (b := 38) k37_222 hB rfl ?_
    refine r_iload k37_225 rfl ?_
    refine j_ald (n := 36) (j := k) (v := (J 38 k)) k37_227 hB rfl rfl (by omega) rfl ?_
    refine j_ast (n := 36) (j := k) k37_228 hB rfl rfl (by omega) ?_
    have hT228 : am_ty2 (am_u2 J 41 k (J 38 k)) := ty_w hT (tw_m (B := 12) (by decide) (by decide) (by decide) (ty_mx hT (q := 38) (by decide) (by decide) k))
    refine r_iinc (v := (nI (k + 1))) (L' := [some (.ref 36), some (.int (nI (c))), some (.int (nI (s))), some (.int (t)), some (.int (u)), some (.int (v)), some (.int (nI (k + 1))), none]) k37_229 rfl (Nat.le_of_ble_eq_true rfl) (nI_1 _) rfl ?_
    refine r_goto k37_232 ?_
    exact K2 z212 hT228
set_option maxRecDepth 20000 in
theorem l_Q_d235 {d : am_D} {h : am_H} {J : Nat → Nat → Int32} {Q : Option Value → am_H → Prop} (hB : am_B h) (hT : am_ty2 J) (c : Nat) (s : Nat) (k : Nat) (t : Int32) (u : Int32) (v : Int32) (hc : c < 12) (hs : s < 12) (h_t : t = -1 ∨ ∃ n, n < 12 ∧ t = nI n) (h_v : v = -1 ∨ ∃ n, n < 12 ∧ v = nI n) (hd : 2 ≤ d.1) (hw : 45 ≤ d.2) (K1 : am_ty2 (am_u2 (am_u2 (am_u2 J 41 ((3 * c)) (nI s)) 41 (((3 * c) + 1)) t) 41 (((3 * c) + 2)) v) → am_wp d 37 270 [some (.ref 36), some (.int (nI (c))), some (.int (nI (s))), some (.int (t)), some (.int (u)), some (.int (v)), some (.int (nI 0)), none] [] (am_si h (am_u2 (am_u2 (am_u2 J 41 ((3 * c)) (nI s)) 41 (((3 * c) + 1)) t) 41 (((3 * c) + 2)) v)) Q) : am_wp d 37 235 [some (.ref 36), some (.int (nI (c))), some (.int (nI (s))), some (.int (t)), some (.int (u)), some (.int (v)), none, none] [] (am_si h J) Q := by
  refine r_aload k37_235 rfl ?_
  refine j_ref (b := 41) k37_236 hB rfl ?_
  refine r_pushn (v := nI 3) k37_239 rfl ?_
  refine r_iload k37_240 rfl ?_
  refine r_imulN k37_241 ?_
  refine r_iload k37_242 rfl ?_
  refine j_ast (n := 36) (j := (3 * c)) k37_243 hB rfl rfl (by omega) ?_
  have hT243 : am_ty2 (am_u2 J 41 ((3 * c)) (nI s)) := ty_w hT (tw_m (B := 12) (by decide) (by decide) (by decide) (Or.inr ⟨_, by omega, rfl⟩))
  refine r_aload k37_244 rfl ?_
  refine j_ref (b := 41) k37_245 hB rfl ?_
  refine r_pushn (v := nI 3) k37_248 rfl ?_
  refine r_iload k37_249 rfl ?_
  refine r_imulN k37_250 ?_
  refine r_pushn (v := nI 1) k37_251 rfl ?_
  refine r_iaddN k37_252 ?_
  refine r_iload k37_253 rfl ?_
  refine j_ast (n := 36) (j := ((3 * c) + 1)) k37_254 hB rfl rfl (by omega) ?_
  have hT254 : am_ty2 (am_u2 (am_u2 J 41 ((3 * c)) (nI s)) 41 (((3 * c) + 1)) t) := ty_w hT243 (tw_m (B := 12) (by decide) (by decide) (by decide) h_t)
  refine r_aload k37_255 rfl ?_
  refine j_ref (b := 41) k37_256 hB rfl ?_
  refine r_pushn (v := nI 3) k37_259 rfl ?_
  refine r_iload k37_260 rfl ?_
  refine r_imulN k37_261 ?_
  refine r_pushn (v := nI 2) k37_262 rfl ?_
  refine r_iaddN k37_263 ?_
  refine r_iload k37_264 rfl ?_
  refine j_ast (n := 36) (j := ((3 * c) + 2)) k37_266 hB rfl rfl (by omega) ?_
  have hT266 : am_ty2 (am_u2 (am_u2 (am_u2 J 41 ((3 * c)) (nI s)) 41 (((3 * c) + 1)) t) 41 (((3 * c) + 2)) v) := ty_w hT254 (tw_m (B := 12) (by decide) (by decide) (by decide) h_v)
  refine r_pushn (v := nI 0) k37_267 rfl ?_
  refine r_istore (L' := [some (.ref 36), some (.int (nI (c))), some (.int (nI (s))), some (.int (t)), some (.int (u)), some (.int (v)), some (.int (nI 0)), none]) k37_268 (Nat.le_of_ble_eq_true rfl) rfl ?_
  exact K1 hT266
set_option maxRecDepth 20000 in
theorem l_Q_l2 {d : am_D} {h : am_H} {J : Nat → Nat → Int32} {Q : Option Value → am_H → Prop} (hB : am_B h) (hT : am_ty2 J) (c : Nat) (s : Nat) (k : Nat) (t : Int32) (u : Int32) (v : Int32) (hc : c < 12) (hk : k ≤ 12) (hd : 2 ≤ d.1) (hw : 45 ≤ d.2) (K1 : (12 ≤ k) → am_ty2 (J) → am_wp d 37 330 [some (.ref 36), some (.int (nI (c))), some (.int (nI (s))), some (.int (t)), some (.int (u)), some (.int (v)), some (.int (nI (k))), none] [] (am_si h J) Q) (K2 : ¬ (12 ≤ k) → (k = c) → am_ty2 (J) → am_wp d 37 315 [some (.ref 36), some (.int (nI (c))), some (.int (nI (s))), some (.int (t)), some (.int (u)), some (.int (v)), some (.int (nI (k))), none] [.int (nI (k)), .ref 36] (am_si h J) Q) (K3 : ¬ (12 ≤ k) → ¬ (k = c) → ((jn J 37 k) = 0) → am_ty2 (J) → am_wp d 37 324 [some (.ref 36), some (.int (nI (c))), some (.int (nI (s))), some (.int (t)), some (.int (u)), some (.int (v)), some (.int (nI (k))), none] [] (am_si h J) Q) (K4 : ¬ (12 ≤ k) → ¬ (k = c) → ¬ ((jn J 37 k) = 0) → ((jn J 37 c) = 0) → am_ty2 (J) → am_wp d 37 324 [some (.ref 36), some (.int (nI (c))), some (.int (nI (s))), some (.int (t)), some (.int (u)), some (.int (v)), some (.int (nI (k))), none] [] (am_si h J) Q) (K5 : ¬ (12 ≤ k) → ¬ (k = c) → ¬ ((jn J 37 k) = 0) → ¬ ((jn J 37 c) = 0) → ¬ (R_sub J k (nI c)) → am_ty2 (J) → am_wp d 37 324 [some (.ref 36), some (.int (nI (c))), some (.int (nI (s))), some (.int (t)), some (.int (u)), some (.int (v)), some (.int (nI (k))), none] [] (am_si h J) Q) (K6 : ¬ (12 ≤ k) → ¬ (k = c) → ¬ ((jn J 37 k) = 0) → ¬ ((jn J 37 c) = 0) → (R_sub J k (nI c)) → am_ty2 (J) → am_wp d 37 315 [some (.ref 36), some (.int (nI (c))), some (.int (nI (s))), some (.int (t)), some (.int (u)), some (.int (v)), some (.int (nI (k))), none] [.int (nI (k)), .ref 36] (am_si h J) Q) : am_wp d 37 270 [some (.ref 36), some (.int (nI (c))), some (.int (nI (s))), some (.int (t)), some (.int (u)), some (.int (v)), some (.int (nI (k))), none] [] (am_si h J) Q := by
  refine r_iload k37_270 rfl ?_
  refine r_pushn (v := nI 12) k37_272 rfl ?_
  refine r_icmpgeN (by omega) (by omega) k37_274 (fun z274 => ?_) (fun z274 => ?_)
  · exact K1 z274 hT
  · refine r_iload k37_277 rfl ?_
    refine r_iload k37_279 rfl ?_
    refine r_icmpeqN (by omega) (by omega) k37_280 (fun z280 => ?_) (fun z280 => ?_)
    · refine r_aload k37_312 rfl ?_
      refine r_iload k37_313 rfl ?_
      exact K2 z274 z280 hT
    · refine r_aload k37_283 rfl ?_
      refine j_ref (b := 37) k37_284 hB rfl ?_
      refine r_iload k37_287 rfl ?_
      have b289 := ty_n hT (q := 37) (B := 2) (by decide) (by decide) k
      refine j_zld (n := 12) (j := k) (v := (nI (jn J 37 k))) k37_289 hB rfl rfl (by omega) b289.1 ?_
      refine r_ifeqN (by omega) k37_290 (fun z290 => ?_) (fun z290 => ?_)
      · exact K3 z274 z280 z290 hT
      · refine r_aload k37_293 rfl ?_
        refine j_ref (b := 37) k37_294 hB rfl ?_
        refine r_iload k37_297 rfl ?_
        have b298 := ty_n hT (q := 37) (B := 2) (by decide) (by decide) c
        refine j_zld (n := 12) (j := c) (v := (nI (jn J 37 c))) k37_298 hB rfl rfl (by omega) b298.1 ?_
        refine r_ifeqN (by omega) k37_299 (fun z299 => ?_) (fun z299 => ?_)
        · exact K4 z274 z280 z290 z299 hT
        · refine r_aload k37_302 rfl ?_
          refine r_iload k37_303 rfl ?_
          refine r_iload k37_305 rfl ?_
          refine j_call (ml := 3) k37_306 rfl (show 0 < d.1 by omega) (show 19 + 3 ≤ d.2 by omega) ⟨Nat.le_of_ble_eq_true rfl, Nat.le_of_ble_eq_true rfl, am_obB hB rfl, Nat.le_of_ble_eq_true rfl⟩ rfl (rest := []) rfl (s_R_sub hB hT k (nI c) (by omega) (show 1 ≤ d.1 - 1 by omega) (show 23 ≤ d.2 - 22 by omega)) (fun r h1 hq => ?_)
          obtain ⟨rfl, rfl⟩ := hq
          show am_wp _ _ _ [some (.ref 36), some (.int (nI (c))), some (.int (nI (s))), some (.int (t)), some (.int (u)), some (.int (v)), some (.int (nI (k))), none] [.int (am_b (R_sub J k (nI c)))] _ _
          refine r_ifeqB k37_309 (fun z309 => ?_) (fun z309 => ?_)
          · exact K5 z274 z280 z290 z299 z309 hT
          · refine r_aload k37_312 rfl ?_
            refine r_iload k37_313 rfl ?_
            exact K6 z274 z280 z290 z299 z309 hT
set_option maxRecDepth 20000 in
theorem l_Q_d330 {d : am_D} {h : am_H} {J : Nat → Nat → Int32} {Q : Option Value → am_H → Prop} (hB : am_B h) (hT : am_ty2 J) (c : Nat) (s : Nat) (k : Nat) (t : Int32) (u : Int32) (v : Int32) (hc : c < 12) (hd : 2 ≤ d.1) (hw : 45 ≤ d.2) (K1 : am_ty2 (am_u2 J 37 c (nI 1)) → am_wp d 37 340 [some (.ref 36), some (.int (nI (c))), some (.int (nI (s))), some (.int (t)), some (.int (u)), some (.int (v)), some (.int (nI 0)), none] [] (am_si h (am_u2 J 37 c (nI 1))) Q) : am_wp d 37 330 [some (.ref 36), some (.int (nI (c))), some (.int (nI (s))), some (.int (t)), some (.int (u)), some (.int (v)), none, none] [] (am_si h J) Q := by
  refine r_aload k37_330 rfl ?_
  refine j_ref (b := 37) k37_331 hB rfl ?_
  refine r_iload k37_334 rfl ?_
  refine r_pushn (v := nI 1) k37_335 rfl ?_
  refine j_zst (n := 12) (j := c) k37_336 hB rfl rfl (by omega) (by decide) ?_
  have hT336 : am_ty2 (am_u2 J 37 c (nI 1)) := ty_w hT (tw_n (B := 2) (by decide) (by decide) (by decide) (by omega))
  refine r_pushn (v := nI 0) k37_337 rfl ?_
  refine r_istore (L' := [some (.ref 36), some (.int (nI (c))), some (.int (nI (s))), some (.int (t)), some (.int (u)), some (.int (v)), some (.int (nI 0)), none]) k37_338 (Nat.le_of_ble_eq_true rfl) rfl ?_
  exact K1 hT336
set_option maxRecDepth 20000 in
theorem l_Q_l3 {d : am_D} {h : am_H} {J : Nat → Nat → Int32} {Q : Option Value → am_H → Prop} (hB : am_B h) (hT : am_ty2 J) (c : Nat) (s : Nat) (k : Nat) (t : Int32) (u : Int32) (v : Int32) (hk : k ≤ 36) (hd : 2 ≤ d.1) (hw : 45 ≤ d.2) (K1 : (36 ≤ k) → am_ty2 (J) → am_wp d 37 367 [some (.ref 36), some (.int (nI (c))), some (.int (nI (s))), some (.int (t)), some (.int (u)), some (.int (v)), some (.int (nI (k))), none] [] (am_si h J) Q) (K2 : ¬ (36 ≤ k) → am_ty2 (am_u2 J 38 k (J 41 k)) → am_wp d 37 340 [some (.ref 36), some (.int (nI (c))), some (.int (nI (s))), some (.int (t)), some (.int (u)), some (.int (v)), some (.int (nI (k + 1))), none] [] (am_si h (am_u2 J 38 k (J 41 k))) Q) : am_wp d 37 340 [some (.ref 36), some (.int (nI (c))), some (.int (nI (s))), some (.int (t)), some (.int (u)), some (.int (v)), some (.int (nI (k))), none] [] (am_si h J) Q := by
  refine r_iload k37_340 rfl ?_
  refine r_pushn (v := nI 36) k37_342 rfl ?_
  refine r_icmpgeN (by omega) (by omega) k37_344 (fun z344 => ?_) (fun z344 => ?_)
  · exact K1 z344 hT
  · refine r_aload k37_347 rfl ?_
    refine j_ref (b := 38) k37_348 hB rfl ?_
    refine r_iload k37_351 rfl ?_
    refine r_aload k37_353 rfl ?_
    refine j_ref (b := 41) k37_354 hB rfl ?_
    refine r_iload k37_357 rfl ?_
    refine j_ald (n := 36) (j := k) (v := (J 41 k)) k37_359 hB rfl rfl (by omega) rfl ?_
    refine j_ast (n := 36) (j := k) k37_360 hB rfl rfl (by omega) ?_
    have hT360 : am_ty2 (am_u2 J 38 k (J 41 k)) := ty_w hT (tw_m (B := 12) (by decide) (by decide) (by decide) (ty_mx hT (q := 41) (by decide) (by decide) k))
    refine r_iinc (v := (nI (k + 1))) (L' := [some (.ref 36), some (.int (nI (c))), some (.int (nI (s))), some (.int (t)), some (.int (u)), some (.int (v)), some (.int (nI (k + 1))), none]) k37_361 rfl (Nat.le_of_ble_eq_true rfl) (nI_1 _) rfl ?_
    refine r_goto k37_364 ?_
    exact K2 z344 hT360
set_option maxRecDepth 20000 in
theorem l_Q_l4 {d : am_D} {h : am_H} {J : Nat → Nat → Int32} {Q : Option Value → am_H → Prop} (hB : am_B h) (hT : am_ty2 J) (c : Nat) (s : Nat) (k : Nat) (t : Int32) (u : Int32) (v : Int32) (hk : k ≤ 12) (hd : 2 ≤ d.1) (hw : 45 ≤ d.2) (K1 : (12 ≤ k) → am_ty2 (J) → am_wp d 37 450 [some (.ref 36), some (.int (nI (c))), some (.int (nI (s))), some (.int (t)), some (.int (u)), some (.int (v)), some (.int (nI (k))), none] [] (am_si h J) Q) (K2 : ¬ (12 ≤ k) → ¬ ((jn J 37 k) = 0) → am_ty2 (J) → am_wp d 37 399 [some (.ref 36), some (.int (nI (c))), some (.int (nI (s))), some (.int (t)), some (.int (u)), some (.int (v)), some (.int (nI (k))), none] [.int (nI (k)), .ref 36, .int (nI (k)), .ref 40] (am_si h J) Q) (K3 : ¬ (12 ≤ k) → ((jn J 37 k) = 0) → am_ty2 (J) → am_wp d 37 444 [some (.ref 36), some (.int (nI (c))), some (.int (nI (s))), some (.int (t)), some (.int (u)), some (.int (v)), some (.int (nI (k))), none] [] (am_si h J) Q) : am_wp d 37 370 [some (.ref 36), some (.int (nI (c))), some (.int (nI (s))), some (.int (t)), some (.int (u)), some (.int (v)), some (.int (nI (k))), none] [] (am_si h J) Q := by
  refine r_iload k37_370 rfl ?_
  refine r_pushn (v := nI 12) k37_372 rfl ?_
  refine r_icmpgeN (by omega) (by omega) k37_374 (fun z374 => ?_) (fun z374 => ?_)
  · exact K1 z374 hT
  · refine r_aload k37_377 rfl ?_
    refine j_ref (b := 37) k37_378 hB rfl ?_
    refine r_iload k37_381 rfl ?_
    have b383 := ty_n hT (q := 37) (B := 2) (by decide) (by decide) k
    refine j_zld (n := 12) (j := k) (v := (nI (jn J 37 k))) k37_383 hB rfl rfl (by omega) b383.1 ?_
    refine r_ifneN (by omega) k37_384 (fun z384 => ?_) (fun z384 => ?_)
    · refine r_aload k37_390 rfl ?_
      refine j_ref (b := 40) k37_391 hB rfl ?_
      refine r_iload k37_394 rfl ?_
      refine r_aload k37_396 rfl ?_
      refine r_iload k37_397 rfl ?_
      exact K2 z374 z384 hT
    · refine r_goto k37_387 ?_
      exact K3 z374 z384 hT
set_option maxRecDepth 20000 in
theorem l_Q_l5 {d : am_D} {h : am_H} {J : Nat → Nat → Int32} {Q : Option Value → am_H → Prop} (hB : am_B h) (hT : am_ty2 J) (c : Nat) (s : Nat) (k : Nat) (j : Nat) (t : Int32) (u : Int32) (v : Int32) (hk : k < 12) (hj : j ≤ 12) (hd : 2 ≤ d.1) (hw : 45 ≤ d.2) (K1 : ((jn J 40 k) ≤ j) → am_ty2 (J) → am_wp d 37 444 [some (.ref 36), some (.int (nI (c))), some (.int (nI (s))), some (.int (t)), some (.int (u)), some (.int (v)), some (.int (nI (k))), some (.int (nI (j)))] [] (am_si h J) Q) (K2 : ¬ ((jn J 40 k) ≤ j) → am_ty2 (am_u2 J 39 (((12 * k) + j)) (nI (jn J 42 j))) → am_wp d 37 406 [some (.ref 36), some (.int (nI (c))), some (.int (nI (s))), some (.int (t)), some (.int (u)), some (.int (v)), some (.int (nI (k))), some (.int (nI (j + 1)))] [] (am_si h (am_u2 J 39 (((12 * k) + j)) (nI (jn J 42 j)))) Q) : am_wp d 37 406 [some (.ref 36), some (.int (nI (c))), some (.int (nI (s))), some (.int (t)), some (.int (u)), some (.int (v)), some (.int (nI (k))), some (.int (nI (j)))] [] (am_si h J) Q := by
  refine r_iload k37_406 rfl ?_
  refine r_aload k37_408 rfl ?_
  refine j_ref (b := 40) k37_409 hB rfl ?_
  refine r_iload k37_412 rfl ?_
  have b414 := ty_n hT (q := 40) (B := 13) (by decide) (by decide) k
  refine j_ald (n := 12) (j := k) (v := (nI (jn J 40 k))) k37_414 hB rfl rfl (by omega) (b414.1) ?_
  refine r_icmpgeN (by omega) (by omega) k37_415 (fun z415 => ?_) (fun z415 => ?_)
  · exact K1 z415 hT
  · refine r_aload k37_418 rfl ?_
    refine j_ref (b := 39) k37_419 hB rfl ?_
    refine r_pushn (v := nI 12) k37_422 rfl ?_
    refine r_iload k37_424 rfl ?_
    refine r_imulN k37_426 ?_
    refine r_iload k37_427 rfl ?_
    refine r_iaddN k37_429 ?_
    refine r_aload k37_430 rfl ?_
    refine j_ref (b := 42) k37_431 hB rfl ?_
    refine r_iload k37_434 rfl ?_
    have b436 := ty_n hT (q := 42) (B := 12) (by decide) (by decide) j
    refine j_ald (n := 12) (j := j) (v := (nI (jn J 42 j))) k37_436 hB rfl rfl (by omega) (b436.1) ?_
    refine j_ast (n := 144) (j := ((12 * k) + j)) k37_437 hB rfl rfl (by omega) ?_
    have hT437 : am_ty2 (am_u2 J 39 (((12 * k) + j)) (nI (jn J 42 j))) := ty_w hT (tw_n (B := 12) (by decide) (by decide) (by decide) (by omega))
    refine r_iinc (v := (nI (j + 1))) (L' := [some (.ref 36), some (.int (nI (c))), some (.int (nI (s))), some (.int (t)), some (.int (u)), some (.int (v)), some (.int (nI (k))), some (.int (nI (j + 1)))]) k37_438 rfl (Nat.le_of_ble_eq_true rfl) (nI_1 _) rfl ?_
    refine r_goto k37_441 ?_
    exact K2 z415 hT437
set_option maxRecDepth 20000 in
theorem l_Q_l6 {d : am_D} {h : am_H} {J : Nat → Nat → Int32} {Q : Option Value → am_H → Prop} (hB : am_B h) (hT : am_ty2 J) (c : Nat) (s : Nat) (k : Nat) (t : Int32) (u : Int32) (v : Int32) (hk : k ≤ 5) (hd : 2 ≤ d.1) (hw : 45 ≤ d.2) (K1 : (5 ≤ k) → am_ty2 (J) → am_wp d 37 471 [some (.ref 36), some (.int (nI (c))), some (.int (nI (s))), some (.int (t)), some (.int (u)), some (.int (v)), some (.int (nI (k))), none] [] (am_si h J) Q) (K2 : ¬ (5 ≤ k) → am_ty2 (R_forget J k) → am_wp d 37 453 [some (.ref 36), some (.int (nI (c))), some (.int (nI (s))), some (.int (t)), some (.int (u)), some (.int (v)), some (.int (nI (k + 1))), none] [] (am_si h (R_forget J k)) Q) : am_wp d 37 453 [some (.ref 36), some (.int (nI (c))), some (.int (nI (s))), some (.int (t)), some (.int (u)), some (.int (v)), some (.int (nI (k))), none] [] (am_si h J) Q := by
  refine r_iload k37_453 rfl ?_
  refine r_pushn (v := nI 5) k37_455 rfl ?_
  refine r_icmpgeN (by omega) (by omega) k37_456 (fun z456 => ?_) (fun z456 => ?_)
  · exact K1 z456 hT
  · refine r_aload k37_459 rfl ?_
    refine r_iload k37_460 rfl ?_
    refine j_call (ml := 3) k37_462 rfl (show 0 < d.1 by omega) (show 19 + 3 ≤ d.2 by omega) ⟨Nat.le_of_ble_eq_true rfl, Nat.le_of_ble_eq_true rfl, am_obB hB rfl, Nat.le_of_ble_eq_true rfl⟩ rfl (rest := []) rfl (s_R_forget hB hT k (by omega)) (fun r h1 hq => ?_)
    obtain ⟨rfl, rfl, hT462⟩ := hq
    show am_wp _ _ _ [some (.ref 36), some (.int (nI (c))), some (.int (nI (s))), some (.int (t)), some (.int (u)), some (.int (v)), some (.int (nI (k))), none] [] _ _
    refine r_iinc (v := (nI (k + 1))) (L' := [some (.ref 36), some (.int (nI (c))), some (.int (nI (s))), some (.int (t)), some (.int (u)), some (.int (v)), some (.int (nI (k + 1))), none]) k37_465 rfl (Nat.le_of_ble_eq_true rfl) (nI_1 _) rfl ?_
    refine r_goto k37_468 ?_
    exact K2 z456 hT462
set_option maxRecDepth 20000 in
theorem l_Q_d471 {d : am_D} {h : am_H} {J : Nat → Nat → Int32} {Q : Option Value → am_H → Prop} (hB : am_B h) (hT : am_ty2 J) (c : Nat) (s : Nat) (k : Nat) (t : Int32) (u : Int32) (v : Int32) (hc : c < 12) (hd : 2 ≤ d.1) (hw : 45 ≤ d.2) (K1 : am_ty2 (J) → Q (some (.int (nI (jn J 40 c)))) (am_si h J)) : am_wp d 37 471 [some (.ref 36), some (.int (nI (c))), some (.int (nI (s))), some (.int (t)), some (.int (u)), some (.int (v)), none, none] [] (am_si h J) Q := by
  refine r_aload k37_471 rfl ?_
  refine j_ref (b := 40) k37_472 hB rfl ?_
  refine r_iload k37_475 rfl ?_
  have b476 := ty_n hT (q := 40) (B := 13) (by decide) (by decide) c
  refine j_ald (n := 12) (j := c) (v := (nI (jn J 40 c))) k37_476 hB rfl rfl (by omega) (b476.1) ?_
  exact r_iret k37_477 rfl (K1 hT)
set_option maxRecDepth 20000 in
theorem l_Q_k0 {d : am_D} {h : am_H} {J : Nat → Nat → Int32} {Q : Option Value → am_H → Prop} (hB : am_B h) (hT : am_ty2 J) (c : Nat) (s : Nat) (t : Int32) (u : Int32) (v : Int32) (hc : c < 12) (hd : 2 ≤ d.1) (hw : 45 ≤ d.2) (K1 : (3 ≤ 0) → am_ty2 (J) → am_wp d 37 205 [some (.ref 36), some (.int (nI (c))), some (.int (nI (s))), some (.int (t)), some (.int (u)), some (.int (v)), some (.int (nI 0)), none] [] (am_si h J) Q) (K2 : ¬ (3 ≤ 0) → am_ty2 (J) → am_wp d 37 164 [some (.ref 36), some (.int (nI (c))), some (.int (nI (s))), some (.int (t)), some (.int (u)), some (.int (v)), some (.int (nI 0)), none] [.int (nI (s))] (am_si h J) Q) : am_wp d 37 134 [some (.ref 36), some (.int (nI (c))), some (.int (nI (s))), some (.int (t)), some (.int (u)), some (.int (v)), none, none] [] (am_si h J) Q := by
  refine r_pushn (v := nI 0) k37_134 rfl ?_
  refine r_istore (L' := [some (.ref 36), some (.int (nI (c))), some (.int (nI (s))), some (.int (t)), some (.int (u)), some (.int (v)), some (.int (nI 0)), none]) k37_135 (Nat.le_of_ble_eq_true rfl) rfl ?_
  refine r_iload k37_137 rfl ?_
  refine r_pushn (v := nI 3) k37_139 rfl ?_
  refine r_icmpgeN (by omega) (by omega) k37_140 (fun z140 => ?_) (fun z140 => ?_)
  · exact K1 z140 hT
  · refine r_iload k37_143 rfl ?_
    refine r_ifneN (by omega) k37_145 (fun z => absurd z (by decide)) (fun _ => ?_)
    refine r_iload k37_148 rfl ?_
    refine r_goto k37_149 ?_
    exact K2 z140 hT
set_option maxRecDepth 20000 in
theorem l_Q_k1 {d : am_D} {h : am_H} {J : Nat → Nat → Int32} {Q : Option Value → am_H → Prop} (hB : am_B h) (hT : am_ty2 J) (c : Nat) (s : Nat) (t : Int32) (u : Int32) (v : Int32) (hc : c < 12) (hd : 2 ≤ d.1) (hw : 45 ≤ d.2) (K1 : (3 ≤ (0 + 1)) → am_ty2 (J) → am_wp d 37 205 [some (.ref 36), some (.int (nI (c))), some (.int (nI (s))), some (.int (t)), some (.int (u)), some (.int (v)), some (.int (nI (0 + 1))), none] [] (am_si h J) Q) (K2 : ¬ (3 ≤ (0 + 1)) → ¬ ((0 + 1) = 0) → ¬ ((0 + 1) = 1) → am_ty2 (J) → am_wp d 37 164 [some (.ref 36), some (.int (nI (c))), some (.int (nI (s))), some (.int (t)), some (.int (u)), some (.int (v)), some (.int (nI (0 + 1))), none] [.int (v)] (am_si h J) Q) (K3 : ¬ (3 ≤ (0 + 1)) → ¬ ((0 + 1) = 0) → ((0 + 1) = 1) → am_ty2 (J) → am_wp d 37 164 [some (.ref 36), some (.int (nI (c))), some (.int (nI (s))), some (.int (t)), some (.int (u)), some (.int (v)), some (.int (nI (0 + 1))), none] [.int (t)] (am_si h J) Q) (K4 : ¬ (3 ≤ (0 + 1)) → ((0 + 1) = 0) → am_ty2 (J) → am_wp d 37 164 [some (.ref 36), some (.int (nI (c))), some (.int (nI (s))), some (.int (t)), some (.int (u)), some (.int (v)), some (.int (nI (0 + 1))), none] [.int (nI (s))] (am_si h J) Q) : am_wp d 37 199 [some (.ref 36), some (.int (nI (c))), some (.int (nI (s))), some (.int (t)), some (.int (u)), some (.int (v)), some (.int (nI 0)), none] [] (am_si h J) Q := by
  refine r_iinc (v := (nI (0 + 1))) (L' := [some (.ref 36), some (.int (nI (c))), some (.int (nI (s))), some (.int (t)), some (.int (u)), some (.int (v)), some (.int (nI (0 + 1))), none]) k37_199 rfl (Nat.le_of_ble_eq_true rfl) (nI_1 _) rfl ?_
  refine r_goto k37_202 ?_
  refine r_iload k37_137 rfl ?_
  refine r_pushn (v := nI 3) k37_139 rfl ?_
  refine r_icmpgeN (by omega) (by omega) k37_140 (fun z140 => ?_) (fun z140 => ?_)
  · exact K1 z140 hT
  · refine r_iload k37_143 rfl ?_
    refine r_ifneN (by omega) k37_145 (fun z145 => ?_) (fun z145 => ?_)
    · refine r_iload k37_152 rfl ?_
      refine r_pushn (v := nI 1) k37_154 rfl ?_
      refine r_icmpneN (by omega) (by omega) k37_155 (fun z155 => ?_) (fun z155 => ?_)
      · refine r_iload k37_162 rfl ?_
        exact K2 z140 z145 z155 hT
      · refine r_iload k37_158 rfl ?_
        refine r_goto k37_159 ?_
        exact K3 z140 z145 z155 hT
    · refine r_iload k37_148 rfl ?_
      refine r_goto k37_149 ?_
      exact K4 z140 z145 hT
set_option maxRecDepth 20000 in
theorem l_Q_k2 {d : am_D} {h : am_H} {J : Nat → Nat → Int32} {Q : Option Value → am_H → Prop} (hB : am_B h) (hT : am_ty2 J) (c : Nat) (s : Nat) (t : Int32) (u : Int32) (v : Int32) (hc : c < 12) (hd : 2 ≤ d.1) (hw : 45 ≤ d.2) (K1 : (3 ≤ (1 + 1)) → am_ty2 (J) → am_wp d 37 205 [some (.ref 36), some (.int (nI (c))), some (.int (nI (s))), some (.int (t)), some (.int (u)), some (.int (v)), some (.int (nI (1 + 1))), none] [] (am_si h J) Q) (K2 : ¬ (3 ≤ (1 + 1)) → ¬ ((1 + 1) = 0) → ¬ ((1 + 1) = 1) → am_ty2 (J) → am_wp d 37 164 [some (.ref 36), some (.int (nI (c))), some (.int (nI (s))), some (.int (t)), some (.int (u)), some (.int (v)), some (.int (nI (1 + 1))), none] [.int (v)] (am_si h J) Q) (K3 : ¬ (3 ≤ (1 + 1)) → ¬ ((1 + 1) = 0) → ((1 + 1) = 1) → am_ty2 (J) → am_wp d 37 164 [some (.ref 36), some (.int (nI (c))), some (.int (nI (s))), some (.int (t)), some (.int (u)), some (.int (v)), some (.int (nI (1 + 1))), none] [.int (t)] (am_si h J) Q) (K4 : ¬ (3 ≤ (1 + 1)) → ((1 + 1) = 0) → am_ty2 (J) → am_wp d 37 164 [some (.ref 36), some (.int (nI (c))), some (.int (nI (s))), some (.int (t)), some (.int (u)), some (.int (v)), some (.int (nI (1 + 1))), none] [.int (nI (s))] (am_si h J) Q) : am_wp d 37 199 [some (.ref 36), some (.int (nI (c))), some (.int (nI (s))), some (.int (t)), some (.int (u)), some (.int (v)), some (.int (nI 1)), none] [] (am_si h J) Q := by
  refine r_iinc (v := (nI (1 + 1))) (L' := [some (.ref 36), some (.int (nI (c))), some (.int (nI (s))), some (.int (t)), some (.int (u)), some (.int (v)), some (.int (nI (1 + 1))), none]) k37_199 rfl (Nat.le_of_ble_eq_true rfl) (nI_1 _) rfl ?_
  refine r_goto k37_202 ?_
  refine r_iload k37_137 rfl ?_
  refine r_pushn (v := nI 3) k37_139 rfl ?_
  refine r_icmpgeN (by omega) (by omega) k37_140 (fun z140 => ?_) (fun z140 => ?_)
  · exact K1 z140 hT
  · refine r_iload k37_143 rfl ?_
    refine r_ifneN (by omega) k37_145 (fun z145 => ?_) (fun z145 => ?_)
    · refine r_iload k37_152 rfl ?_
      refine r_pushn (v := nI 1) k37_154 rfl ?_
      refine r_icmpneN (by omega) (by omega) k37_155 (fun z155 => ?_) (fun z155 => ?_)
      · refine r_iload k37_162 rfl ?_
        exact K2 z140 z145 z155 hT
      · refine r_iload k37_158 rfl ?_
        refine r_goto k37_159 ?_
        exact K3 z140 z145 z155 hT
    · refine r_iload k37_148 rfl ?_
      refine r_goto k37_149 ?_
      exact K4 z140 z145 hT
set_option maxRecDepth 20000 in
theorem l_Q_k3 {d : am_D} {h : am_H} {J : Nat → Nat → Int32} {Q : Option Value → am_H → Prop} (hB : am_B h) (hT : am_ty2 J) (c : Nat) (s : Nat) (t : Int32) (u : Int32) (v : Int32) (hc : c < 12) (hd : 2 ≤ d.1) (hw : 45 ≤ d.2) (K1 : (3 ≤ (2 + 1)) → am_ty2 (J) → am_wp d 37 205 [some (.ref 36), some (.int (nI (c))), some (.int (nI (s))), some (.int (t)), some (.int (u)), some (.int (v)), some (.int (nI (2 + 1))), none] [] (am_si h J) Q) (K2 : ¬ (3 ≤ (2 + 1)) → ¬ ((2 + 1) = 0) → ¬ ((2 + 1) = 1) → am_ty2 (J) → am_wp d 37 164 [some (.ref 36), some (.int (nI (c))), some (.int (nI (s))), some (.int (t)), some (.int (u)), some (.int (v)), some (.int (nI (2 + 1))), none] [.int (v)] (am_si h J) Q) (K3 : ¬ (3 ≤ (2 + 1)) → ¬ ((2 + 1) = 0) → ((2 + 1) = 1) → am_ty2 (J) → am_wp d 37 164 [some (.ref 36), some (.int (nI (c))), some (.int (nI (s))), some (.int (t)), some (.int (u)), some (.int (v)), some (.int (nI (2 + 1))), none] [.int (t)] (am_si h J) Q) (K4 : ¬ (3 ≤ (2 + 1)) → ((2 + 1) = 0) → am_ty2 (J) → am_wp d 37 164 [some (.ref 36), some (.int (nI (c))), some (.int (nI (s))), some (.int (t)), some (.int (u)), some (.int (v)), some (.int (nI (2 + 1))), none] [.int (nI (s))] (am_si h J) Q) : am_wp d 37 199 [some (.ref 36), some (.int (nI (c))), some (.int (nI (s))), some (.int (t)), some (.int (u)), some (.int (v)), some (.int (nI 2)), none] [] (am_si h J) Q := by
  refine r_iinc (v := (nI (2 + 1))) (L' := [some (.ref 36), some (.int (nI (c))), some (.int (nI (s))), some (.int (t)), some (.int (u)), some (.int (v)), some (.int (nI (2 + 1))), none]) k37_199 rfl (Nat.le_of_ble_eq_true rfl) (nI_1 _) rfl ?_
  refine r_goto k37_202 ?_
  refine r_iload k37_137 rfl ?_
  refine r_pushn (v := nI 3) k37_139 rfl ?_
  refine r_icmpgeN (by omega) (by omega) k37_140 (fun z140 => ?_) (fun z140 => ?_)
  · exact K1 z140 hT
  · refine r_iload k37_143 rfl ?_
    refine r_ifneN (by omega) k37_145 (fun z145 => ?_) (fun z145 => ?_)
    · refine r_iload k37_152 rfl ?_
      refine r_pushn (v := nI 1) k37_154 rfl ?_
      refine r_icmpneN (by omega) (by omega) k37_155 (fun z155 => ?_) (fun z155 => ?_)
      · refine r_iload k37_162 rfl ?_
        exact K2 z140 z145 z155 hT
      · refine r_iload k37_158 rfl ?_
        refine r_goto k37_159 ?_
        exact K3 z140 z145 z155 hT
    · refine r_iload k37_148 rfl ?_
      refine r_goto k37_149 ?_
      exact K4 z140 z145 hT
set_option maxRecDepth 20000 in
theorem l_Q_d205 {d : am_D} {h : am_H} {J : Nat → Nat → Int32} {Q : Option Value → am_H → Prop} (hB : am_B h) (hT : am_ty2 J) (c : Nat) (s : Nat) (t : Int32) (u : Int32) (v : Int32) (hc : c < 12) (hd : 2 ≤ d.1) (hw : 45 ≤ d.2) (K1 : am_ty2 (J) → am_wp d 37 208 [some (.ref 36), some (.int (nI (c))), some (.int (nI (s))), some (.int (t)), some (.int (u)), some (.int (v)), some (.int (nI 0)), none] [] (am_si h J) Q) : am_wp d 37 205 [some (.ref 36), some (.int (nI (c))), some (.int (nI (s))), some (.int (t)), some (.int (u)), some (.int (v)), none, none] [] (am_si h J) Q := by
  refine r_pushn (v := nI 0) k37_205 rfl ?_
  refine r_istore (L' := [some (.ref 36), some (.int (nI (c))), some (.int (nI (s))), some (.int (t)), some (.int (u)), some (.int (v)), some (.int (nI 0)), none]) k37_206 (Nat.le_of_ble_eq_true rfl) rfl ?_
  exact K1 hT
set_option maxRecDepth 20000 in
theorem l_Q_d318 {d : am_D} {h : am_H} {J : Nat → Nat → Int32} {Q : Option Value → am_H → Prop} (hB : am_B h) (hT : am_ty2 J) (c : Nat) (s : Nat) (k : Nat) (t : Int32) (u : Int32) (v : Int32) (w : Int32) (hc : c < 12) (hd : 2 ≤ d.1) (hw : 45 ≤ d.2) (K1 : (0 ≤ w) → am_ty2 (J) → am_wp d 37 324 [some (.ref 36), some (.int (nI (c))), some (.int (nI (s))), some (.int (t)), some (.int (u)), some (.int (v)), some (.int (nI (k))), none] [] (am_si h J) Q) (K2 : ¬ (0 ≤ w) → am_ty2 (J) → Q (some (.int ((-5)))) (am_si h J)) : am_wp d 37 318 [some (.ref 36), some (.int (nI (c))), some (.int (nI (s))), some (.int (t)), some (.int (u)), some (.int (v)), some (.int (nI (k))), none] [.int (w)] (am_si h J) Q := by
  refine r_ifge k37_318 (fun z318 => ?_) (fun z318 => ?_)
  · exact K1 z318 hT
  · refine r_pushn (v := (-5)) k37_321 rfl ?_
    exact r_iret k37_323 rfl (K2 z318 hT)
set_option maxRecDepth 20000 in
theorem l_Q_d324 {d : am_D} {h : am_H} {J : Nat → Nat → Int32} {Q : Option Value → am_H → Prop} (hB : am_B h) (hT : am_ty2 J) (c : Nat) (s : Nat) (k : Nat) (t : Int32) (u : Int32) (v : Int32) (hk : k < 12) (hd : 2 ≤ d.1) (hw : 45 ≤ d.2) (K1 : am_ty2 (J) → am_wp d 37 270 [some (.ref 36), some (.int (nI (c))), some (.int (nI (s))), some (.int (t)), some (.int (u)), some (.int (v)), some (.int (nI (k + 1))), none] [] (am_si h J) Q) : am_wp d 37 324 [some (.ref 36), some (.int (nI (c))), some (.int (nI (s))), some (.int (t)), some (.int (u)), some (.int (v)), some (.int (nI (k))), none] [] (am_si h J) Q := by
  refine r_iinc (v := (nI (k + 1))) (L' := [some (.ref 36), some (.int (nI (c))), some (.int (nI (s))), some (.int (t)), some (.int (u)), some (.int (v)), some (.int (nI (k + 1))), none]) k37_324 rfl (Nat.le_of_ble_eq_true rfl) (nI_1 _) rfl ?_
  refine r_goto k37_327 ?_
  exact K1 hT
set_option maxRecDepth 20000 in
theorem l_Q_d402 {d : am_D} {h : am_H} {J : Nat → Nat → Int32} {Q : Option Value → am_H → Prop} (hB : am_B h) (hT : am_ty2 J) (c : Nat) (s : Nat) (k : Nat) (t : Int32) (u : Int32) (v : Int32) (n : Nat) (hk : k < 12) (hn : n < 13) (hd : 2 ≤ d.1) (hw : 45 ≤ d.2) (K1 : am_ty2 (am_u2 J 40 k (nI n)) → am_wp d 37 406 [some (.ref 36), some (.int (nI (c))), some (.int (nI (s))), some (.int (t)), some (.int (u)), some (.int (v)), some (.int (nI (k))), some (.int (nI 0))] [] (am_si h (am_u2 J 40 k (nI n))) Q) : am_wp d 37 402 [some (.ref 36), some (.int (nI (c))), some (.int (nI (s))), some (.int (t)), some (.int (u)), some (.int (v)), some (.int (nI (k))), none] [.int (nI (n)), .int (nI (k)), .ref 40] (am_si h J) Q := by
  refine j_ast (n := 12) (j := k) k37_402 hB rfl rfl (by omega) ?_
  have hT402 : am_ty2 (am_u2 J 40 k (nI n)) := ty_w hT (tw_n (B := 13) (by decide) (by decide) (by decide) (by omega))
  refine r_pushn (v := nI 0) k37_403 rfl ?_
  refine r_istore (L' := [some (.ref 36), some (.int (nI (c))), some (.int (nI (s))), some (.int (t)), some (.int (u)), some (.int (v)), some (.int (nI (k))), some (.int (nI 0))]) k37_404 (Nat.le_of_ble_eq_true rfl) rfl ?_
  exact K1 hT402
set_option maxRecDepth 20000 in
theorem l_Q_d444 {d : am_D} {h : am_H} {J : Nat → Nat → Int32} {Q : Option Value → am_H → Prop} (hB : am_B h) (hT : am_ty2 J) (c : Nat) (s : Nat) (k : Nat) (t : Int32) (u : Int32) (v : Int32) (hk : k < 12) (hd : 2 ≤ d.1) (hw : 45 ≤ d.2) (K1 : am_ty2 (J) → am_wp d 37 370 [some (.ref 36), some (.int (nI (c))), some (.int (nI (s))), some (.int (t)), some (.int (u)), some (.int (v)), some (.int (nI (k + 1))), none] [] (am_si h J) Q) : am_wp d 37 444 [some (.ref 36), some (.int (nI (c))), some (.int (nI (s))), some (.int (t)), some (.int (u)), some (.int (v)), some (.int (nI (k))), none] [] (am_si h J) Q := by
  refine r_iinc (v := (nI (k + 1))) (L' := [some (.ref 36), some (.int (nI (c))), some (.int (nI (s))), some (.int (t)), some (.int (u)), some (.int (v)), some (.int (nI (k + 1))), none]) k37_444 rfl (Nat.le_of_ble_eq_true rfl) (nI_1 _) rfl ?_
  refine r_goto k37_447 ?_
  exact K1 hT
set_option maxRecDepth 20000 in
theorem l_Q_d367 {d : am_D} {h : am_H} {J : Nat → Nat → Int32} {Q : Option Value → am_H → Prop} (hB : am_B h) (hT : am_ty2 J) (c : Nat) (s : Nat) (t : Int32) (u : Int32) (v : Int32) (hc : c < 12) (hd : 2 ≤ d.1) (hw : 45 ≤ d.2) (K1 : am_ty2 (J) → am_wp d 37 370 [some (.ref 36), some (.int (nI (c))), some (.int (nI (s))), some (.int (t)), some (.int (u)), some (.int (v)), some (.int (nI 0)), none] [] (am_si h J) Q) : am_wp d 37 367 [some (.ref 36), some (.int (nI (c))), some (.int (nI (s))), some (.int (t)), some (.int (u)), some (.int (v)), none, none] [] (am_si h J) Q := by
  refine r_pushn (v := nI 0) k37_367 rfl ?_
  refine r_istore (L' := [some (.ref 36), some (.int (nI (c))), some (.int (nI (s))), some (.int (t)), some (.int (u)), some (.int (v)), some (.int (nI 0)), none]) k37_368 (Nat.le_of_ble_eq_true rfl) rfl ?_
  exact K1 hT
set_option maxRecDepth 20000 in
theorem l_Q_d450 {d : am_D} {h : am_H} {J : Nat → Nat → Int32} {Q : Option Value → am_H → Prop} (hB : am_B h) (hT : am_ty2 J) (c : Nat) (s : Nat) (t : Int32) (u : Int32) (v : Int32) (hc : c < 12) (hd : 2 ≤ d.1) (hw : 45 ≤ d.2) (K1 : am_ty2 (J) → am_wp d 37 453 [some (.ref 36), some (.int (nI (c))), some (.int (nI (s))), some (.int (t)), some (.int (u)), some (.int (v)), some (.int (nI 0)), none] [] (am_si h J) Q) : am_wp d 37 450 [some (.ref 36), some (.int (nI (c))), some (.int (nI (s))), some (.int (t)), some (.int (u)), some (.int (v)), none, none] [] (am_si h J) Q := by
  refine r_pushn (v := nI 0) k37_450 rfl ?_
  refine r_istore (L' := [some (.ref 36), some (.int (nI (c))), some (.int (nI (s))), some (.int (t)), some (.int (u)), some (.int (v)), some (.int (nI 0)), none]) k37_451 (Nat.le_of_ble_eq_true rfl) rfl ?_
  exact K1 hT
