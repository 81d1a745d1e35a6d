/-! The class: findAnew. -/
theorem cz_0 {J K : Nat → Nat → Int32} {e kd B : Nat} (h18 : K 18 = J 18) (h : jn K e 1 + cn_of (fun i => jn J 18 i = kd) 16 ≤ B) : cz K e kd 0 B := by
  unfold cz
  rw [cn_congr (q := fun i => jn J 18 i = kd) 16 (fun i _ => by rw [jn_cg h18]; exact ⟨fun q => q.1, fun q => ⟨q, Nat.zero_le i⟩⟩)]
  exact h
theorem cn_4 {f : Nat → Nat} : ∀ n, cn_of (fun i => f i = 3) n + cn_of (fun i => f i = 1) n + cn_of (fun i => f i = 0) n + cn_of (fun i => f i = 2) n ≤ n := by
  intro n
  induction n with
  | zero => exact Nat.le_refl _
  | succ n ih =>
    by_cases z3 : f n = 3
    · rw [cn_t (p := fun i => f i = 3) z3, cn_f (p := fun i => f i = 1) (by omega), cn_f (p := fun i => f i = 0) (by omega), cn_f (p := fun i => f i = 2) (by omega)]; omega
    · rw [cn_f (p := fun i => f i = 3) z3]
      by_cases z1 : f n = 1
      · rw [cn_t (p := fun i => f i = 1) z1, cn_f (p := fun i => f i = 0) (by omega), cn_f (p := fun i => f i = 2) (by omega)]; omega
      · rw [cn_f (p := fun i => f i = 1) z1]
        by_cases z0 : f n = 0
        · rw [cn_t (p := fun i => f i = 0) z0, cn_f (p := fun i => f i = 2) (by omega)]; omega
        · rw [cn_f (p := fun i => f i = 0) z0]
          by_cases z2 : f n = 2
          · rw [cn_t (p := fun i => f i = 2) z2]; omega
          · rw [cn_f (p := fun i => f i = 2) z2]; omega
noncomputable def K_rk (g : Nat) (x : Nat) (y : Int32) (e : Nat) : Nat → Nat → (Nat → Nat → Int32) → (Nat → Nat → Int32)
  | 0, k, J => (J)
  | m + 1, k, J => (am_ite (M_isOf J k g) (K_rk g x y e m (k + 1) (am_u2 J 26 k (K_rank J k x y))) (K_rk g x y e m (k + 1) (am_u2 J 26 k ((-1)))))
set_option maxRecDepth 20000 in
theorem l_K_rk {d : am_D} {h : am_H} {Q : Option Value → am_H → Prop} (hB : am_B h) (g : Nat) (x : Nat) (y : Int32) (e : Nat) (hg : g < 5) (hx : x < 12) (hd : 3 ≤ d.1) (hw : 71 ≤ d.2) : ∀ (m k : Nat) (J : Nat → Nat → Int32), am_ty2 J → k + m = 16 → (∀ i, i < 16 → M_isOf J i g → ¬ J 20 i = -1 → y = nI (jx y) ∧ jx y < 12) → (am_ty2 (K_rk g x y e m k J) → am_wp d 136 58 [some (.ref 22), some (.int (nI (g))), some (.int (nI (x))), some (.int (y)), some (.ref e), none] [] (am_si h (K_rk g x y e m k J)) Q) → am_wp d 136 13 [some (.ref 22), some (.int (nI (g))), some (.int (nI (x))), some (.int (y)), some (.ref e), some (.int (nI (k)))] [] (am_si h J) Q := by
  intro m
  induction m with
  | zero =>
    intro k J hT hk hc0 HQ
    refine r_iload k136_13 rfl ?_
    refine r_pushn (v := nI 16) k136_15 rfl ?_
    refine r_icmpgeN (by omega) (by omega) k136_17 (fun z17 => ?_) (fun z17 => ?_)
    · have e9 : K_rk g x y e 0 k J = (J) := by rw [K_rk]
      rw [e9] at HQ
      exact wp_L (L := [some (.ref 22), some (.int (nI (g))), some (.int (nI (x))), some (.int (y)), some (.ref e), none]) (⟨Or.inr rfl, Or.inr rfl, Or.inr rfl, Or.inr rfl, Or.inr rfl, Or.inl rfl, True.intro⟩) (HQ hT)
    · exact absurd z17 (by omega)
  | succ m ih =>
    intro k J hT hk hc0 HQ
    refine r_iload k136_13 rfl ?_
    refine r_pushn (v := nI 16) k136_15 rfl ?_
    refine r_icmpgeN (by omega) (by omega) k136_17 (fun z17 => ?_) (fun z17 => ?_)
    · exact absurd z17 (by omega)
    · refine r_aload k136_20 rfl ?_
      refine j_ref (b := 26) k136_21 hB rfl ?_
      refine r_iload k136_24 rfl ?_
      refine r_aload k136_26 rfl ?_
      refine j_ref (b := 15) k136_27 hB rfl ?_
      refine r_iload k136_30 rfl ?_
      refine r_iload k136_32 rfl ?_
      refine j_call (ml := 3) k136_33 rfl (show 0 < d.1 by omega) (show 19 + 3 ≤ d.2 by omega) ⟨Nat.le_of_ble_eq_true rfl, Nat.le_of_ble_eq_true rfl, am_obB hB rfl, Nat.le_of_ble_eq_true rfl⟩ rfl (rest := [.int (nI (k)), .ref 26]) rfl (s_M_isOf hB hT k g (by omega) (by omega)) (fun r h1 hq => ?_)
      obtain ⟨rfl, rfl⟩ := hq
      show am_wp _ _ _ [some (.ref 22), some (.int (nI (g))), some (.int (nI (x))), some (.int (y)), some (.ref e), some (.int (nI (k)))] [.int (am_b (M_isOf J k g)), .int (nI (k)), .ref 26] _ _
      refine r_ifeqB k136_36 (fun z36 => ?_) (fun z36 => ?_)
      · refine r_pushn (v := (-1)) k136_50 rfl ?_
        refine j_ast (n := 16) (j := k) k136_51 hB rfl rfl (by omega) ?_
        have hT51 : am_ty2 (am_u2 J 26 k ((-1))) := ty_w hT (tw_a (by decide) (by decide) (by decide))
        refine r_iinc (v := (nI (k + 1))) (L' := [some (.ref 22), some (.int (nI (g))), some (.int (nI (x))), some (.int (y)), some (.ref e), some (.int (nI (k + 1)))]) k136_52 rfl (Nat.le_of_ble_eq_true rfl) (nI_1 _) rfl ?_
        refine r_goto k136_55 ?_
        have e9 : K_rk g x y e (m + 1) k J = K_rk g x y e m (k + 1) (am_u2 J 26 k ((-1))) := by rw [K_rk]; rw [am_ite_f z36]
        rw [e9] at HQ
        exact ih (k + 1) (am_u2 J 26 k ((-1))) hT51 (by omega) hc0 HQ
      · refine r_aload k136_39 rfl ?_
        refine r_iload k136_40 rfl ?_
        refine r_iload k136_42 rfl ?_
        refine r_iload k136_43 rfl ?_
        refine j_call (ml := 6) k136_44 rfl (show 0 < d.1 by omega) (show 19 + 6 ≤ d.2 by omega) ⟨Nat.le_of_ble_eq_true rfl, Nat.le_of_ble_eq_true rfl, am_obB hB rfl, Nat.le_of_ble_eq_true rfl⟩ rfl (rest := [.int (nI (k)), .ref 26]) rfl (s_K_rank hB hT k x y (by omega) (by omega) (hc0 _ (by omega) z36) (show 2 ≤ d.1 - 1 by omega) (show 46 ≤ d.2 - 25 by omega)) (fun r h1 hq => ?_)
        obtain ⟨rfl, rfl⟩ := hq
        show am_wp _ _ _ [some (.ref 22), some (.int (nI (g))), some (.int (nI (x))), some (.int (y)), some (.ref e), some (.int (nI (k)))] [.int (K_rank J k x y), .int (nI (k)), .ref 26] _ _
        refine r_goto k136_47 ?_
        refine j_ast (n := 16) (j := k) k136_51 hB rfl rfl (by omega) ?_
        have hT51 : am_ty2 (am_u2 J 26 k (K_rank J k x y)) := ty_w hT (tw_a (by decide) (by decide) (by decide))
        refine r_iinc (v := (nI (k + 1))) (L' := [some (.ref 22), some (.int (nI (g))), some (.int (nI (x))), some (.int (y)), some (.ref e), some (.int (nI (k + 1)))]) k136_52 rfl (Nat.le_of_ble_eq_true rfl) (nI_1 _) rfl ?_
        refine r_goto k136_55 ?_
        have e9 : K_rk g x y e (m + 1) k J = K_rk g x y e m (k + 1) (am_u2 J 26 k (K_rank J k x y)) := by rw [K_rk]; rw [am_ite_t z36]
        rw [e9] at HQ
        exact ih (k + 1) (am_u2 J 26 k (K_rank J k x y)) hT51 (by omega) hc0 HQ
theorem fl_K_rk {g : Nat} {x : Nat} {y : Int32} {e : Nat} (q : Nat) (hq : ¬ q = 26) : ∀ (m k : Nat) (J : Nat → Nat → Int32), (K_rk g x y e m k J) q = J q := by
  intro m
  induction m with
  | zero =>
    intro k J
    rw [K_rk]
    first | done | exact rfl
  | succ m ih =>
    intro k J
    rw [K_rk]
    refine fr_i0 (fun _ => ?_) (fun _ => ?_)
    · exact (ih (k + 1) (am_u2 J 26 k (K_rank J k x y))).trans (fr_u (by omega))
    · exact (ih (k + 1) (am_u2 J 26 k ((-1)))).trans (fr_u (by omega))
noncomputable def K_fs (e : Nat) (u : Nat) (J : Nat → Nat → Int32) : (Nat → Nat → Int32) := (K_add (am_u2 (K_add (am_u2 (K_add (am_u2 (K_add (am_u2 J e 1 (nI 0)) e u 3) e 2 (nI (jn (K_add (am_u2 J e 1 (nI 0)) e u 3) e 1))) e u 1) e 3 (nI (jn (K_add (am_u2 (K_add (am_u2 J e 1 (nI 0)) e u 3) e 2 (nI (jn (K_add (am_u2 J e 1 (nI 0)) e u 3) e 1))) e u 1) e 1))) e u 0) e 4 (nI (jn (K_add (am_u2 (K_add (am_u2 (K_add (am_u2 J e 1 (nI 0)) e u 3) e 2 (nI (jn (K_add (am_u2 J e 1 (nI 0)) e u 3) e 1))) e u 1) e 3 (nI (jn (K_add (am_u2 (K_add (am_u2 J e 1 (nI 0)) e u 3) e 2 (nI (jn (K_add (am_u2 J e 1 (nI 0)) e u 3) e 1))) e u 1) e 1))) e u 0) e 1))) e u 2)
set_option maxRecDepth 20000 in
theorem l_K_fs {d : am_D} {h : am_H} {Q : Option Value → am_H → Prop} (hB : am_B h) (e : Nat) (u : Nat) (he : am_ob h e 9) (hp0 : am_P h e 0 = some u) (hr : am_ay h u 1) (hrl : (am_sh h u).2.2 = 16) (h74 : 74 ≤ e) (h75 : 74 ≤ u) (hne : ¬ e = u) (hd : 3 ≤ d.1) (hw : 71 ≤ d.2) {J : Nat → Nat → Int32} (hT : am_ty2 J) (hE : ef_ok J e u) (HQ : (am_ty2 (K_fs e u J) → Q none (am_si h (K_fs e u J)))) : am_wp d 136 58 [some (.ref 22), none, none, none, some (.ref e), none] [] (am_si h J) Q := by
  refine r_aload k136_58 rfl ?_
  refine r_pushn (v := nI 0) k136_60 rfl ?_
  refine v_put (j := 1) k136_61 he rfl rfl ?_
  have hT61 : am_ty2 (am_u2 J e 1 (nI 0)) := ty_w hT (tw_v (by omega))
  refine r_aload k136_64 rfl ?_
  refine r_pushn (v := nI 3) k136_65 rfl ?_
  refine r_aload k136_66 rfl ?_
  have c4 := cn_4 (f := fun i => jn J 18 i) 16
  have E68 : ef_ok (am_u2 J e 1 (nI 0)) e u := ef_we hE hne (by omega)
  have s68 : jn (am_u2 J e 1 (nI 0)) e 1 = 0 := jn_u (by omega)
  have q68 : (am_u2 J e 1 (nI 0)) 18 = J 18 := (fr_u (by omega))
  have y68 : cz (am_u2 J e 1 (nI 0)) e 3 0 (cn_of (fun i => jn J 18 i = 3) 16) := cz_0 q68 (by omega)
  have i68 := K_ak_inv (s0 := jn (am_u2 J e 1 (nI 0)) e 1) hne h74 h75 (show cn_of (fun i => jn J 18 i = 3) 16 ≤ 16 by omega) 16 0 (am_u2 J e 1 (nI 0)) (by omega) E68 y68 (Nat.le_refl _)
  refine j_call (ml := 5) k136_68 rfl (show 0 < d.1 by omega) (show 19 + 5 ≤ d.2 by omega) ⟨Nat.le_of_ble_eq_true rfl, Nat.le_of_ble_eq_true rfl, am_obB hB rfl, Nat.le_of_ble_eq_true rfl⟩ rfl (rest := []) rfl (s_K_add hB hT61 e u 3 (he) (hp0) (hr) (hrl) (h74) (h75) (hne) (E68) (by omega) (cn_of (fun i => jn J 18 i = 3) 16) (by omega) (y68) (show 1 ≤ d.1 - 1 by omega) (show 25 ≤ d.2 - 24 by omega)) (fun r h1 hq => ?_)
  obtain ⟨rfl, rfl, hT68⟩ := hq
  show am_wp _ _ _ [some (.ref 22), none, none, none, some (.ref e), none] [] _ _
  refine r_aload k136_71 rfl ?_
  refine r_aload k136_73 rfl ?_
  refine v_get (j := 1) (v := (nI (jn (K_add (am_u2 J e 1 (nI 0)) e u 3) e 1))) k136_75 he rfl ((i68.1.1 1 (by decide) (by decide)).1) ?_
  refine v_put (j := 2) k136_78 he rfl rfl ?_
  have hT78 : am_ty2 (am_u2 (K_add (am_u2 J e 1 (nI 0)) e u 3) e 2 (nI (jn (K_add (am_u2 J e 1 (nI 0)) e u 3) e 1))) := ty_w hT68 (tw_v (by omega))
  refine r_aload k136_81 rfl ?_
  refine r_pushn (v := nI 1) k136_82 rfl ?_
  refine r_aload k136_83 rfl ?_
  have E85 : ef_ok (am_u2 (K_add (am_u2 J e 1 (nI 0)) e u 3) e 2 (nI (jn (K_add (am_u2 J e 1 (nI 0)) e u 3) e 1))) e u := ef_we i68.1 hne (i68.1.1 1 (by decide) (by decide)).2
  have s85 : jn (am_u2 (K_add (am_u2 J e 1 (nI 0)) e u 3) e 2 (nI (jn (K_add (am_u2 J e 1 (nI 0)) e u 3) e 1))) e 1 ≤ cn_of (fun i => jn J 18 i = 3) 16 := by rw [show jn (am_u2 (K_add (am_u2 J e 1 (nI 0)) e u 3) e 2 (nI (jn (K_add (am_u2 J e 1 (nI 0)) e u 3) e 1))) e 1 = jn (K_add (am_u2 J e 1 (nI 0)) e u 3) e 1 from congrArg Int32.toNatClampNeg (u2_ne (by decide))]; exact i68.2.1
  have q85 : (am_u2 (K_add (am_u2 J e 1 (nI 0)) e u 3) e 2 (nI (jn (K_add (am_u2 J e 1 (nI 0)) e u 3) e 1))) 18 = J 18 := ((fr_u (by omega)).trans ((fr_K_add 18 (by omega)).trans (fr_u (by omega))))
  have y85 : cz (am_u2 (K_add (am_u2 J e 1 (nI 0)) e u 3) e 2 (nI (jn (K_add (am_u2 J e 1 (nI 0)) e u 3) e 1))) e 1 0 (cn_of (fun i => jn J 18 i = 3) 16 + cn_of (fun i => jn J 18 i = 1) 16) := cz_0 q85 (by omega)
  have i85 := K_ak_inv (s0 := jn (am_u2 (K_add (am_u2 J e 1 (nI 0)) e u 3) e 2 (nI (jn (K_add (am_u2 J e 1 (nI 0)) e u 3) e 1))) e 1) hne h74 h75 (show cn_of (fun i => jn J 18 i = 3) 16 + cn_of (fun i => jn J 18 i = 1) 16 ≤ 16 by omega) 16 0 (am_u2 (K_add (am_u2 J e 1 (nI 0)) e u 3) e 2 (nI (jn (K_add (am_u2 J e 1 (nI 0)) e u 3) e 1))) (by omega) E85 y85 (Nat.le_refl _)
  refine j_call (ml := 5) k136_85 rfl (show 0 < d.1 by omega) (show 19 + 5 ≤ d.2 by omega) ⟨Nat.le_of_ble_eq_true rfl, Nat.le_of_ble_eq_true rfl, am_obB hB rfl, Nat.le_of_ble_eq_true rfl⟩ rfl (rest := []) rfl (s_K_add hB hT78 e u 1 (he) (hp0) (hr) (hrl) (h74) (h75) (hne) (E85) (by omega) (cn_of (fun i => jn J 18 i = 3) 16 + cn_of (fun i => jn J 18 i = 1) 16) (by omega) (y85) (show 1 ≤ d.1 - 1 by omega) (show 25 ≤ d.2 - 24 by omega)) (fun r h1 hq => ?_)
  obtain ⟨rfl, rfl, hT85⟩ := hq
  show am_wp _ _ _ [some (.ref 22), none, none, none, some (.ref e), none] [] _ _
  refine r_aload k136_88 rfl ?_
  refine r_aload k136_90 rfl ?_
  refine v_get (j := 1) (v := (nI (jn (K_add (am_u2 (K_add (am_u2 J e 1 (nI 0)) e u 3) e 2 (nI (jn (K_add (am_u2 J e 1 (nI 0)) e u 3) e 1))) e u 1) e 1))) k136_92 he rfl ((i85.1.1 1 (by decide) (by decide)).1) ?_
  refine v_put (j := 3) k136_95 he rfl rfl ?_
  have hT95 : am_ty2 (am_u2 (K_add (am_u2 (K_add (am_u2 J e 1 (nI 0)) e u 3) e 2 (nI (jn (K_add (am_u2 J e 1 (nI 0)) e u 3) e 1))) e u 1) e 3 (nI (jn (K_add (am_u2 (K_add (am_u2 J e 1 (nI 0)) e u 3) e 2 (nI (jn (K_add (am_u2 J e 1 (nI 0)) e u 3) e 1))) e u 1) e 1))) := ty_w hT85 (tw_v (by omega))
  refine r_aload k136_98 rfl ?_
  refine r_pushn (v := nI 0) k136_99 rfl ?_
  refine r_aload k136_100 rfl ?_
  have E102 : ef_ok (am_u2 (K_add (am_u2 (K_add (am_u2 J e 1 (nI 0)) e u 3) e 2 (nI (jn (K_add (am_u2 J e 1 (nI 0)) e u 3) e 1))) e u 1) e 3 (nI (jn (K_add (am_u2 (K_add (am_u2 J e 1 (nI 0)) e u 3) e 2 (nI (jn (K_add (am_u2 J e 1 (nI 0)) e u 3) e 1))) e u 1) e 1))) e u := ef_we i85.1 hne (i85.1.1 1 (by decide) (by decide)).2
  have s102 : jn (am_u2 (K_add (am_u2 (K_add (am_u2 J e 1 (nI 0)) e u 3) e 2 (nI (jn (K_add (am_u2 J e 1 (nI 0)) e u 3) e 1))) e u 1) e 3 (nI (jn (K_add (am_u2 (K_add (am_u2 J e 1 (nI 0)) e u 3) e 2 (nI (jn (K_add (am_u2 J e 1 (nI 0)) e u 3) e 1))) e u 1) e 1))) e 1 ≤ cn_of (fun i => jn J 18 i = 3) 16 + cn_of (fun i => jn J 18 i = 1) 16 := by rw [show jn (am_u2 (K_add (am_u2 (K_add (am_u2 J e 1 (nI 0)) e u 3) e 2 (nI (jn (K_add (am_u2 J e 1 (nI 0)) e u 3) e 1))) e u 1) e 3 (nI (jn (K_add (am_u2 (K_add (am_u2 J e 1 (nI 0)) e u 3) e 2 (nI (jn (K_add (am_u2 J e 1 (nI 0)) e u 3) e 1))) e u 1) e 1))) e 1 = jn (K_add (am_u2 (K_add (am_u2 J e 1 (nI 0)) e u 3) e 2 (nI (jn (K_add (am_u2 J e 1 (nI 0)) e u 3) e 1))) e u 1) e 1 from congrArg Int32.toNatClampNeg (u2_ne (by decide))]; exact i85.2.1
  have q102 : (am_u2 (K_add (am_u2 (K_add (am_u2 J e 1 (nI 0)) e u 3) e 2 (nI (jn (K_add (am_u2 J e 1 (nI 0)) e u 3) e 1))) e u 1) e 3 (nI (jn (K_add (am_u2 (K_add (am_u2 J e 1 (nI 0)) e u 3) e 2 (nI (jn (K_add (am_u2 J e 1 (nI 0)) e u 3) e 1))) e u 1) e 1))) 18 = J 18 := ((fr_u (by omega)).trans ((fr_K_add 18 (by omega)).trans ((fr_u (by omega)).trans ((fr_K_add 18 (by omega)).trans (fr_u (by omega))))))
  have y102 : cz (am_u2 (K_add (am_u2 (K_add (am_u2 J e 1 (nI 0)) e u 3) e 2 (nI (jn (K_add (am_u2 J e 1 (nI 0)) e u 3) e 1))) e u 1) e 3 (nI (jn (K_add (am_u2 (K_add (am_u2 J e 1 (nI 0)) e u 3) e 2 (nI (jn (K_add (am_u2 J e 1 (nI 0)) e u 3) e 1))) e u 1) e 1))) e 0 0 (cn_of (fun i => jn J 18 i = 3) 16 + cn_of (fun i => jn J 18 i = 1) 16 + cn_of (fun i => jn J 18 i = 0) 16) := cz_0 q102 (by omega)
  have i102 := K_ak_inv (s0 := jn (am_u2 (K_add (am_u2 (K_add (am_u2 J e 1 (nI 0)) e u 3) e 2 (nI (jn (K_add (am_u2 J e 1 (nI 0)) e u 3) e 1))) e u 1) e 3 (nI (jn (K_add (am_u2 (K_add (am_u2 J e 1 (nI 0)) e u 3) e 2 (nI (jn (K_add (am_u2 J e 1 (nI 0)) e u 3) e 1))) e u 1) e 1))) e 1) hne h74 h75 (show cn_of (fun i => jn J 18 i = 3) 16 + cn_of (fun i => jn J 18 i = 1) 16 + cn_of (fun i => jn J 18 i = 0) 16 ≤ 16 by omega) 16 0 (am_u2 (K_add (am_u2 (K_add (am_u2 J e 1 (nI 0)) e u 3) e 2 (nI (jn (K_add (am_u2 J e 1 (nI 0)) e u 3) e 1))) e u 1) e 3 (nI (jn (K_add (am_u2 (K_add (am_u2 J e 1 (nI 0)) e u 3) e 2 (nI (jn (K_add (am_u2 J e 1 (nI 0)) e u 3) e 1))) e u 1) e 1))) (by omega) E102 y102 (Nat.le_refl _)
  refine j_call (ml := 5) k136_102 rfl (show 0 < d.1 by omega) (show 19 + 5 ≤ d.2 by omega) ⟨Nat.le_of_ble_eq_true rfl, Nat.le_of_ble_eq_true rfl, am_obB hB rfl, Nat.le_of_ble_eq_true rfl⟩ rfl (rest := []) rfl (s_K_add hB hT95 e u 0 (he) (hp0) (hr) (hrl) (h74) (h75) (hne) (E102) (by omega) (cn_of (fun i => jn J 18 i = 3) 16 + cn_of (fun i => jn J 18 i = 1) 16 + cn_of (fun i => jn J 18 i = 0) 16) (by omega) (y102) (show 1 ≤ d.1 - 1 by omega) (show 25 ≤ d.2 - 24 by omega)) (fun r h1 hq => ?_)
  obtain ⟨rfl, rfl, hT102⟩ := hq
  show am_wp _ _ _ [some (.ref 22), none, none, none, some (.ref e), none] [] _ _
  refine r_aload k136_105 rfl ?_
  refine r_aload k136_107 rfl ?_
  refine v_get (j := 1) (v := (nI (jn (K_add (am_u2 (K_add (am_u2 (K_add (am_u2 J e 1 (nI 0)) e u 3) e 2 (nI (jn (K_add (am_u2 J e 1 (nI 0)) e u 3) e 1))) e u 1) e 3 (nI (jn (K_add (am_u2 (K_add (am_u2 J e 1 (nI 0)) e u 3) e 2 (nI (jn (K_add (am_u2 J e 1 (nI 0)) e u 3) e 1))) e u 1) e 1))) e u 0) e 1))) k136_109 he rfl ((i102.1.1 1 (by decide) (by decide)).1) ?_
  refine v_put (j := 4) k136_112 he rfl rfl ?_
  have hT112 : am_ty2 (am_u2 (K_add (am_u2 (K_add (am_u2 (K_add (am_u2 J e 1 (nI 0)) e u 3) e 2 (nI (jn (K_add (am_u2 J e 1 (nI 0)) e u 3) e 1))) e u 1) e 3 (nI (jn (K_add (am_u2 (K_add (am_u2 J e 1 (nI 0)) e u 3) e 2 (nI (jn (K_add (am_u2 J e 1 (nI 0)) e u 3) e 1))) e u 1) e 1))) e u 0) e 4 (nI (jn (K_add (am_u2 (K_add (am_u2 (K_add (am_u2 J e 1 (nI 0)) e u 3) e 2 (nI (jn (K_add (am_u2 J e 1 (nI 0)) e u 3) e 1))) e u 1) e 3 (nI (jn (K_add (am_u2 (K_add (am_u2 J e 1 (nI 0)) e u 3) e 2 (nI (jn (K_add (am_u2 J e 1 (nI 0)) e u 3) e 1))) e u 1) e 1))) e u 0) e 1))) := ty_w hT102 (tw_v (by omega))
  refine r_aload k136_115 rfl ?_
  refine r_pushn (v := nI 2) k136_116 rfl ?_
  refine r_aload k136_117 rfl ?_
  have E119 : ef_ok (am_u2 (K_add (am_u2 (K_add (am_u2 (K_add (am_u2 J e 1 (nI 0)) e u 3) e 2 (nI (jn (K_add (am_u2 J e 1 (nI 0)) e u 3) e 1))) e u 1) e 3 (nI (jn (K_add (am_u2 (K_add (am_u2 J e 1 (nI 0)) e u 3) e 2 (nI (jn (K_add (am_u2 J e 1 (nI 0)) e u 3) e 1))) e u 1) e 1))) e u 0) e 4 (nI (jn (K_add (am_u2 (K_add (am_u2 (K_add (am_u2 J e 1 (nI 0)) e u 3) e 2 (nI (jn (K_add (am_u2 J e 1 (nI 0)) e u 3) e 1))) e u 1) e 3 (nI (jn (K_add (am_u2 (K_add (am_u2 J e 1 (nI 0)) e u 3) e 2 (nI (jn (K_add (am_u2 J e 1 (nI 0)) e u 3) e 1))) e u 1) e 1))) e u 0) e 1))) e u := ef_we i102.1 hne (i102.1.1 1 (by decide) (by decide)).2
  have s119 : jn (am_u2 (K_add (am_u2 (K_add (am_u2 (K_add (am_u2 J e 1 (nI 0)) e u 3) e 2 (nI (jn (K_add (am_u2 J e 1 (nI 0)) e u 3) e 1))) e u 1) e 3 (nI (jn (K_add (am_u2 (K_add (am_u2 J e 1 (nI 0)) e u 3) e 2 (nI (jn (K_add (am_u2 J e 1 (nI 0)) e u 3) e 1))) e u 1) e 1))) e u 0) e 4 (nI (jn (K_add (am_u2 (K_add (am_u2 (K_add (am_u2 J e 1 (nI 0)) e u 3) e 2 (nI (jn (K_add (am_u2 J e 1 (nI 0)) e u 3) e 1))) e u 1) e 3 (nI (jn (K_add (am_u2 (K_add (am_u2 J e 1 (nI 0)) e u 3) e 2 (nI (jn (K_add (am_u2 J e 1 (nI 0)) e u 3) e 1))) e u 1) e 1))) e u 0) e 1))) e 1 ≤ cn_of (fun i => jn J 18 i = 3) 16 + cn_of (fun i => jn J 18 i = 1) 16 + cn_of (fun i => jn J 18 i = 0) 16 := by rw [show jn (am_u2 (K_add (am_u2 (K_add (am_u2 (K_add (am_u2 J e 1 (nI 0)) e u 3) e 2 (nI (jn (K_add (am_u2 J e 1 (nI 0)) e u 3) e 1))) e u 1) e 3 (nI (jn (K_add (am_u2 (K_add (am_u2 J e 1 (nI 0)) e u 3) e 2 (nI (jn (K_add (am_u2 J e 1 (nI 0)) e u 3) e 1))) e u 1) e 1))) e u 0) e 4 (nI (jn (K_add (am_u2 (K_add (am_u2 (K_add (am_u2 J e 1 (nI 0)) e u 3) e 2 (nI (jn (K_add (am_u2 J e 1 (nI 0)) e u 3) e 1))) e u 1) e 3 (nI (jn (K_add (am_u2 (K_add (am_u2 J e 1 (nI 0)) e u 3) e 2 (nI (jn (K_add (am_u2 J e 1 (nI 0)) e u 3) e 1))) e u 1) e 1))) e u 0) e 1))) e 1 = jn (K_add (am_u2 (K_add (am_u2 (K_add (am_u2 J e 1 (nI 0)) e u 3) e 2 (nI (jn (K_add (am_u2 J e 1 (nI 0)) e u 3) e 1))) e u 1) e 3 (nI (jn (K_add (am_u2 (K_add (am_u2 J e 1 (nI 0)) e u 3) e 2 (nI (jn (K_add (am_u2 J e 1 (nI 0)) e u 3) e 1))) e u 1) e 1))) e u 0) e 1 from congrArg Int32.toNatClampNeg (u2_ne (by decide))]; exact i102.2.1
  have q119 : (am_u2 (K_add (am_u2 (K_add (am_u2 (K_add (am_u2 J e 1 (nI 0)) e u 3) e 2 (nI (jn (K_add (am_u2 J e 1 (nI 0)) e u 3) e 1))) e u 1) e 3 (nI (jn (K_add (am_u2 (K_add (am_u2 J e 1 (nI 0)) e u 3) e 2 (nI (jn (K_add (am_u2 J e 1 (nI 0)) e u 3) e 1))) e u 1) e 1))) e u 0) e 4 (nI (jn (K_add (am_u2 (K_add (am_u2 (K_add (am_u2 J e 1 (nI 0)) e u 3) e 2 (nI (jn (K_add (am_u2 J e 1 (nI 0)) e u 3) e 1))) e u 1) e 3 (nI (jn (K_add (am_u2 (K_add (am_u2 J e 1 (nI 0)) e u 3) e 2 (nI (jn (K_add (am_u2 J e 1 (nI 0)) e u 3) e 1))) e u 1) e 1))) e u 0) e 1))) 18 = J 18 := ((fr_u (by omega)).trans ((fr_K_add 18 (by omega)).trans ((fr_u (by omega)).trans ((fr_K_add 18 (by omega)).trans ((fr_u (by omega)).trans ((fr_K_add 18 (by omega)).trans (fr_u (by omega))))))))
  have y119 : cz (am_u2 (K_add (am_u2 (K_add (am_u2 (K_add (am_u2 J e 1 (nI 0)) e u 3) e 2 (nI (jn (K_add (am_u2 J e 1 (nI 0)) e u 3) e 1))) e u 1) e 3 (nI (jn (K_add (am_u2 (K_add (am_u2 J e 1 (nI 0)) e u 3) e 2 (nI (jn (K_add (am_u2 J e 1 (nI 0)) e u 3) e 1))) e u 1) e 1))) e u 0) e 4 (nI (jn (K_add (am_u2 (K_add (am_u2 (K_add (am_u2 J e 1 (nI 0)) e u 3) e 2 (nI (jn (K_add (am_u2 J e 1 (nI 0)) e u 3) e 1))) e u 1) e 3 (nI (jn (K_add (am_u2 (K_add (am_u2 J e 1 (nI 0)) e u 3) e 2 (nI (jn (K_add (am_u2 J e 1 (nI 0)) e u 3) e 1))) e u 1) e 1))) e u 0) e 1))) e 2 0 (cn_of (fun i => jn J 18 i = 3) 16 + cn_of (fun i => jn J 18 i = 1) 16 + cn_of (fun i => jn J 18 i = 0) 16 + cn_of (fun i => jn J 18 i = 2) 16) := cz_0 q119 (by omega)
  have i119 := K_ak_inv (s0 := jn (am_u2 (K_add (am_u2 (K_add (am_u2 (K_add (am_u2 J e 1 (nI 0)) e u 3) e 2 (nI (jn (K_add (am_u2 J e 1 (nI 0)) e u 3) e 1))) e u 1) e 3 (nI (jn (K_add (am_u2 (K_add (am_u2 J e 1 (nI 0)) e u 3) e 2 (nI (jn (K_add (am_u2 J e 1 (nI 0)) e u 3) e 1))) e u 1) e 1))) e u 0) e 4 (nI (jn (K_add (am_u2 (K_add (am_u2 (K_add (am_u2 J e 1 (nI 0)) e u 3) e 2 (nI (jn (K_add (am_u2 J e 1 (nI 0)) e u 3) e 1))) e u 1) e 3 (nI (jn (K_add (am_u2 (K_add (am_u2 J e 1 (nI 0)) e u 3) e 2 (nI (jn (K_add (am_u2 J e 1 (nI 0)) e u 3) e 1))) e u 1) e 1))) e u 0) e 1))) e 1) hne h74 h75 (show cn_of (fun i => jn J 18 i = 3) 16 + cn_of (fun i => jn J 18 i = 1) 16 + cn_of (fun i => jn J 18 i = 0) 16 + cn_of (fun i => jn J 18 i = 2) 16 ≤ 16 by omega) 16 0 (am_u2 (K_add (am_u2 (K_add (am_u2 (K_add (am_u2 J e 1 (nI 0)) e u 3) e 2 (nI (jn (K_add (am_u2 J e 1 (nI 0)) e u 3) e 1))) e u 1) e 3 (nI (jn (K_add (am_u2 (K_add (am_u2 J e 1 (nI 0)) e u 3) e 2 (nI (jn (K_add (am_u2 J e 1 (nI 0)) e u 3) e 1))) e u 1) e 1))) e u 0) e 4 (nI (jn (K_add (am_u2 (K_add (am_u2 (K_add (am_u2 J e 1 (nI 0)) e u 3) e 2 (nI (jn (K_add (am_u2 J e 1 (nI 0)) e u 3) e 1))) e u 1) e 3 (nI (jn (K_add (am_u2 (K_add (am_u2 J e 1 (nI 0)) e u 3) e 2 (nI (jn (K_add (am_u2 J e 1 (nI 0)) e u 3) e 1))) e u 1) e 1))) e u 0) e 1))) (by omega) E119 y119 (Nat.le_refl _)
  refine j_call (ml := 5) k136_119 rfl (show 0 < d.1 by omega) (show 19 + 5 ≤ d.2 by omega) ⟨Nat.le_of_ble_eq_true rfl, Nat.le_of_ble_eq_true rfl, am_obB hB rfl, Nat.le_of_ble_eq_true rfl⟩ rfl (rest := []) rfl (s_K_add hB hT112 e u 2 (he) (hp0) (hr) (hrl) (h74) (h75) (hne) (E119) (by omega) (cn_of (fun i => jn J 18 i = 3) 16 + cn_of (fun i => jn J 18 i = 1) 16 + cn_of (fun i => jn J 18 i = 0) 16 + cn_of (fun i => jn J 18 i = 2) 16) (by omega) (y119) (show 1 ≤ d.1 - 1 by omega) (show 25 ≤ d.2 - 24 by omega)) (fun r h1 hq => ?_)
  obtain ⟨rfl, rfl, hT119⟩ := hq
  show am_wp _ _ _ [some (.ref 22), none, none, none, some (.ref e), none] [] _ _
  have e9 : K_fs e u J = (K_add (am_u2 (K_add (am_u2 (K_add (am_u2 (K_add (am_u2 J e 1 (nI 0)) e u 3) e 2 (nI (jn (K_add (am_u2 J e 1 (nI 0)) e u 3) e 1))) e u 1) e 3 (nI (jn (K_add (am_u2 (K_add (am_u2 J e 1 (nI 0)) e u 3) e 2 (nI (jn (K_add (am_u2 J e 1 (nI 0)) e u 3) e 1))) e u 1) e 1))) e u 0) e 4 (nI (jn (K_add (am_u2 (K_add (am_u2 (K_add (am_u2 J e 1 (nI 0)) e u 3) e 2 (nI (jn (K_add (am_u2 J e 1 (nI 0)) e u 3) e 1))) e u 1) e 3 (nI (jn (K_add (am_u2 (K_add (am_u2 J e 1 (nI 0)) e u 3) e 2 (nI (jn (K_add (am_u2 J e 1 (nI 0)) e u 3) e 1))) e u 1) e 1))) e u 0) e 1))) e u 2) := by rw [K_fs]
  rw [e9] at HQ
  exact r_vret k136_122 rfl (HQ hT119)
theorem fr_K_fs {e : Nat} {u : Nat} {J : Nat → Nat → Int32} (q : Nat) (hq : ¬ q = e ∧ ¬ q = u) : (K_fs e u J) q = J q := by
  unfold K_fs
  exact (fr_K_add q (by omega)).trans ((fr_u (by omega)).trans ((fr_K_add q (by omega)).trans ((fr_u (by omega)).trans ((fr_K_add q (by omega)).trans ((fr_u (by omega)).trans ((fr_K_add q (by omega)).trans (fr_u (by omega))))))))
noncomputable def K_find (J : Nat → Nat → Int32) (g : Nat) (x : Nat) (y : Int32) (e : Nat) (u : Nat) : (Nat → Nat → Int32) := K_fs e u ((K_rk g x y e 16 0 (am_u2 J 22 7 ((J 22 7) + (nI 1)))))
set_option maxRecDepth 20000 in
theorem s_K_find {d : am_D} {h : am_H} {J : Nat → Nat → Int32} (hB : am_B h) (hT : am_ty2 J) (g : Nat) (x : Nat) (y : Int32) (e : Nat) (u : Nat) (he : am_ob h e 9) (hp0 : am_P h e 0 = some u) (hr : am_ay h u 1) (hrl : (am_sh h u).2.2 = 16) (h74 : 74 ≤ e) (h75 : 74 ≤ u) (hne : ¬ e = u) (hE : ef_ok J e u) (hg : g < 5) (hx : x < 12) (hy : ∀ i, i < 16 → M_isOf J i g → ¬ J 20 i = -1 → y = nI (jx y) ∧ jx y < 12) (hd : 3 ≤ d.1) (hw : 71 ≤ d.2) : am_wp d 136 0 [some (.ref 22), some (.int (nI (g))), some (.int (nI (x))), some (.int (y)), some (.ref e), none] [] (am_si h J) (fun r h' => r = none ∧ h' = am_si h (K_find J g x y e u) ∧ am_ty2 (K_find J g x y e u)) := by
  refine r_aload k136_0 rfl ?_
  refine r_dup rfl k136_1 ?_
  refine j_get (j := 7) (v := (J 22 7)) k136_2 hB rfl rfl ?_
  refine r_pushn (v := nI 1) k136_5 rfl ?_
  refine r_iadd k136_6 ?_
  refine j_put (j := 7) k136_7 hB rfl rfl ?_
  have hT7 : am_ty2 (am_u2 J 22 7 ((J 22 7) + (nI 1))) := ty_w hT (tw_u (by decide) (by decide) (by decide))
  refine r_pushn (v := nI 0) k136_10 rfl ?_
  refine r_istore (L' := [some (.ref 22), some (.int (nI (g))), some (.int (nI (x))), some (.int (y)), some (.ref e), some (.int (nI 0))]) k136_11 (Nat.le_of_ble_eq_true rfl) rfl ?_
  refine (l_K_rk hB g x y e (by omega) (by omega) hd hw 16 0 (am_u2 J 22 7 ((J 22 7) + (nI 1))) hT7 (by omega) hy (fun hT9K_rk => ?_))
  have f9 : ef_ok ((K_rk g x y e 16 0 (am_u2 J 22 7 ((J 22 7) + (nI 1))))) e u := ef_cg hE ((fl_K_rk e (by omega) _ _ _).trans (fr_u (by omega))) ((fl_K_rk u (by omega) _ _ _).trans (fr_u (by omega)))
  exact wp_L (L := [some (.ref 22), none, none, none, some (.ref e), none]) (⟨Or.inr rfl, Or.inl rfl, Or.inl rfl, Or.inl rfl, Or.inr rfl, Or.inl rfl, True.intro⟩) (l_K_fs hB e u he hp0 hr hrl h74 h75 hne hd hw hT9K_rk f9 (fun hT9 => ⟨rfl, rfl, hT9⟩))
theorem fr_K_find {J : Nat → Nat → Int32} {g : Nat} {x : Nat} {y : Int32} {e : Nat} {u : Nat} (q : Nat) (hq : ¬ q = 22 ∧ ¬ q = 26 ∧ ¬ q = e ∧ ¬ q = u) : (K_find J g x y e u) q = J q := by
  unfold K_find
  exact (fr_K_fs q (by omega)).trans ((fl_K_rk q (by omega) _ _ _).trans (fr_u (by omega)))
