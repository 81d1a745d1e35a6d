/-! Steps of the machine: put, become, note, swap, call. -/
theorem t_put {h : am_H} {J L : Nat → Nat → Int32} {lab : Nat → Nat} {n tp lv c f w e u t0 lv0 c0 nn cc N nm : Nat} (hM : Mst h J L lab (n + 1) tp lv c) (hO : Oth h J L nn cc) (hT : Top h J L lab n tp lv c f w e u t0 lv0 c0) (hr : run1 J L f (lv - 1) t0 tp) (hk : jn J f 4 < 8) (h3 : jn L 36 41 < 300) (hN : c + 70 * (300 - jn L 36 41) ≤ N) (hn : nm < 6) (eW : R_work L = R_act (R_s1 L) (tp - 1) 3 (nI nm)) (ty1 : am_ty2 (M_j1 J f)) (ty : am_ty2 ((M_ioe ((I_write (M_j1 J f) (jn L 69 (tp - 1)) nm (M_j1 J f f 3)).2) ((I_write (M_j1 J f) (jn L 69 (tp - 1)) nm (M_j1 J f f 3)).1)).2)) : Out L N nn cc h ((M_ioe ((I_write (M_j1 J f) (jn L 69 (tp - 1)) nm (M_j1 J f f 3)).2) ((I_write (M_j1 J f) (jn L 69 (tp - 1)) nm (M_j1 J f f 3)).1)).2) := by
  have f74 := hT.1.2.2.1
  obtain ⟨ar, _⟩ := t_arg hM hT hr
  obtain ⟨kd, pl, r, _, _, z5, tl, tp0⟩ := run_ix hr
  obtain ⟨j1, j2, j3, j4, j5, j6⟩ := M_j1_c (J := J) f74
  obtain ⟨l1, l2, l3, l4, l5, l6, l7⟩ := R_s1_c (L := L)
  obtain ⟨rC1, rI1, rN1⟩ := t_j1 hO f74 (L := L)
  have Jf := M_j1_33 (J := J) f74
  have mk1 : jn L 69 (tp - 1) < jn (M_j1 J f) 10 5 := by rw [jn_cg (Jf 10 (by decide) (by decide))]; exact ar.2.1
  have x69 : jn (R_s1 L) 69 (tp - 1) = jn L 69 (tp - 1) := jn_cg (l1 69 (by decide) (by decide) (by decide))
  have x68 : R_s1 L 68 (tp - 1) = M_j1 J f f 3 := by rw [l1 68 (by decide) (by decide) (by decide), j5 3 (by decide)]; exact r.2.2.2.2.1
  rw [R_act_3, x69, x68] at eW
  generalize jn L 69 (tp - 1) = x0 at *
  have hi : R_inst (R_s1 L) (nI x0) := by rw [rl_in rI1]; exact I_there_n ty1 mk1
  have eq := eq_put ty1 rC1 rI1 (i := nI x0) (nm := nI nm) (v := M_j1 J f f 3)
  rw [put_r ty1 mk1 hn] at eq
  obtain ⟨t1, t2⟩ := R_tch (L := R_s1 L) (i := x0)
  obtain ⟨k1, k2⟩ := write_2 (K := M_j1 J f) (i := x0) (nm := nm) (v := M_j1 J f f 3)
  have k36 : R_touch (R_s1 L) x0 36 = R_s1 L 36 := t1 36 (by decide) (by decide)
  rcases R_put_v (v := M_j1 J f f 3) hi ar.2.2 hn with ⟨T, ex, hT2⟩ | ex
  · rw [ex] at eq eW
    dsimp only at eq eW
    rw [eq.1, show Int64.ofInt 1 = (1 : Int32).toInt64 by decide, ioe_i] at ty ⊢
    dsimp only at ty ⊢
    rw [am_ite_t (show lg_cmp (Int64.ofInt 1) (Int64.ofInt 1) = 0 by decide)] at eW
    left
    have g1 : ∀ q, ¬ (43 ≤ q ∧ q ≤ 48) → T q = R_touch (R_s1 L) x0 q := fun q hq => by
      rcases hT2 with ⟨s, rfl⟩ | ⟨s, b, rfl⟩
      · rw [fr_u (by omega)]
      · rw [fr_u (by omega), fr_u (by omega)]
    have v1 : ∀ q, ¬ (43 ≤ q ∧ q ≤ 48) → ¬ q = 73 → T q = R_s1 L q := fun q a b => by rw [g1 q a, t1 q (by omega) b]
    have s2 : sL L T (tp - 1) := ⟨fun q a b d e g => v1 q a e, fun j _ => by rw [v1 36 (by decide) (by decide)], fun j a _ => by rw [g1 73 (by decide), t2 j a], fun q a b j hj => by rw [v1 q (by omega) (by omega)]⟩
    have kL : keL L T := fun q a b => by rw [v1 q (by omega) (by omega), l1 q (by omega) (by omega) (by omega)]
    exact t_gen hM hO hT hr hk h3 hN ty eW ⟨fun q a b d e => k2 q b d, by rw [k1, Jf 10 (by decide) (by decide)], fun q a b => by rw [k2 q (by omega) (by omega), j1 q (by omega) b], fun j a b => by rw [k2 f (by omega) (by omega)]⟩ s2 (by rw [v1 68 (by decide) (by decide), x68, k2 f (by omega) (by omega)]) (fA_k r.2.2.2.2.2.2 (by rw [k2 f (by omega) (by omega), j5 6 (by decide)]) (by rw [v1 69 (by decide) (by decide), l1 69 (by decide) (by decide) (by decide)]) (by rw [v1 70 (by decide) (by decide), l1 70 (by decide) (by decide) (by decide)]) kL) eq.2.1 eq.2.2 (rl_N_cg2 rN1 (fun q a b => k2 q (by omega) (by omega)) (by rw [g1 73 (by decide), t2 3 (by decide)]) (v1 72 (by decide) (by decide))) (Nat.le_succ nn)
  · rw [ex] at eq eW
    dsimp only at eq eW
    rw [eq.1, ioe_e (Or.inl rfl)] at ty ⊢
    dsimp only at ty ⊢
    rw [am_ite_f (e64_big (er := -6) (Or.inl rfl)).2] at eW
    right; right
    have s2 : sL L (am_u2 (R_touch (R_s1 L) x0) 36 40 (-6)) (tp - 1) := ⟨fun q a b d e g => by rw [fr_u g, t1 q (by omega) e], fun j hj => by rw [u2_ne hj, k36], fun j a _ => by rw [fr_u (by decide), t2 j a], fun q a b j hj => by rw [fr_u (by omega), t1 q (by omega) (by omega)]⟩
    exact t_err (er := -6) hM hO hT hr ty eW (fun q a b d e g => by rw [fr_u b, k2 q d e, Jf q a b]) (fun q a b => by rw [fr_u (by omega), k2 q (by omega) (by omega), j1 q (by omega) b]) (fun j hj => by rw [u2_ne hj, k2 33 (by decide) (by decide)]) s2 am_u2_s am_u2_s (by decide) (rl_C_cg2 eq.2.1 (fun q a b => fr_u (by omega)) (fun q a b => rfl)) (rl_I_cg2 eq.2.2 (fun q a b => fr_u (by omega)) (fun q a b => rfl) rfl rfl) (rl_N_cg2 rN1 (fun q a b => by rw [fr_u (by omega), k2 q (by omega) (by omega)]) (by rw [fr_u (by decide), t2 3 (by decide)]) (by rw [fr_u (by decide), t1 72 (by decide) (by decide)])) (Nat.le_succ nn)
theorem chg_10 {K : Nat → Nat → Int32} {i c : Nat} : I_chg K i c 10 5 = K 10 5 := by
  unfold I_chg
  rw [u2_ne (by decide), fr_I_touch 10 (by decide), fr_u (by decide), u2_ne (by decide), fr_I_touch 10 (by decide)]
theorem t_bec {h : am_H} {J L : Nat → Nat → Int32} {lab : Nat → Nat} {n tp lv c f w e u t0 lv0 c0 nn cc N : Nat} {a : Int32} (hM : Mst h J L lab (n + 1) tp lv c) (hO : Oth h J L nn cc) (hT : Top h J L lab n tp lv c f w e u t0 lv0 c0) (hr : run1 J L f (lv - 1) t0 tp) (hk : jn J f 4 < 8) (h3 : jn L 36 41 < 300) (hN : c + 70 * (300 - jn L 36 41) ≤ N) (eW : R_work L = R_act (R_s1 L) (tp - 1) 8 a) (ty1 : am_ty2 (M_j1 J f)) (tyL1 : am_ty2 (R_s1 L)) (ty : am_ty2 (M_cc (M_j1 J f) f w (jn L 69 (tp - 1)) a)) : Out L N nn cc h (M_cc (M_j1 J f) f w (jn L 69 (tp - 1)) a) := by
  have f74 := hT.1.2.2.1
  obtain ⟨ar, _⟩ := t_arg hM hT hr
  obtain ⟨kd, pl, r, _, _, z5, tl, tp0⟩ := run_ix hr
  obtain ⟨j1, j2, j3, j4, j5, j6⟩ := M_j1_c (J := J) f74
  obtain ⟨l1, l2, l3, l4, l5, l6, l7⟩ := R_s1_c (L := L)
  obtain ⟨rC1, rI1, rN1⟩ := t_j1 hO f74 (L := L)
  have Jf := M_j1_33 (J := J) f74
  have mk1 : jn L 69 (tp - 1) < jn (M_j1 J f) 10 5 := by rw [jn_cg (Jf 10 (by decide) (by decide))]; exact ar.2.1
  have x69 : jn (R_s1 L) 69 (tp - 1) = jn L 69 (tp - 1) := jn_cg (l1 69 (by decide) (by decide) (by decide))
  rw [R_act_8, x69] at eW
  generalize jn L 69 (tp - 1) = x0 at *
  have h31 : x0 < 2 ^ 31 := Nat.lt_trans ar.2.2 (by decide)
  have it := I_there_n ty1 mk1
  have hi : R_inst (R_s1 L) (nI x0) := by rw [rl_in rI1]; exact it
  have eq := eq_become h hM.1.1 ty1 tyL1 rC1 rI1 (i := nI x0) (c := a)
  have th := rl_th tyL1 rC1 (c := a)
  unfold D_become at eq
  unfold R_become at eq eW
  unfold M_cc at ty ⊢
  rw [am_ite_t it, am_ite_t hi, th, jx_nI h31] at eq
  rw [am_ite_t hi, th, jx_nI h31] at eW
  by_cases z : C_there (M_j1 J f) a
  · rw [am_ite_t z] at eq ty ⊢
    rw [am_ite_t z] at eq
    rw [am_ite_t z] at eW
    dsimp only at eq eW
    rw [am_ite_t rfl] at eW
    left
    obtain ⟨t1, t2⟩ := R_tch (L := R_s1 L) (i := x0)
    obtain ⟨t3, t4⟩ := R_tch (L := am_u2 (R_touch (R_s1 L) x0) 45 x0 (nI (jx a))) (i := x0)
    have k2 : ∀ q, ¬ (10 ≤ q ∧ q ≤ 14) → I_chg (M_j1 J f) x0 (jx a) q = M_j1 J f q := fun q hq => fr_I_chg q (by omega)
    generalize R_touch (am_u2 (R_touch (R_s1 L) x0) 45 x0 (nI (jx a))) x0 = T at *
    have v1 : ∀ q, ¬ (45 ≤ q ∧ q ≤ 48) → ¬ q = 73 → T q = R_s1 L q := fun q a b => by rw [t3 q (by omega) b, fr_u (by omega), t1 q (by omega) b]
    have v3 : ∀ j, ¬ j = 7 → T 73 j = R_s1 L 73 j := fun j hj => by rw [t4 j hj, fr_u (by decide), t2 j hj]
    have s2 : sL L T (tp - 1) := ⟨fun q a b d e g => v1 q (by omega) e, fun j _ => by rw [v1 36 (by decide) (by decide)], fun j a _ => v3 j a, fun q a b j hj => by rw [v1 q (by omega) (by omega)]⟩
    have kL : keL L T := fun q a b => by rw [v1 q (by omega) (by omega), l1 q (by omega) (by omega) (by omega)]
    exact t_gen hM hO hT hr hk h3 hN ty eW ⟨fun q a b d e => k2 q d, by rw [chg_10, Jf 10 (by decide) (by decide)], fun q a b => by rw [k2 q (by omega), j1 q (by omega) b], fun j a b => by rw [k2 f (by omega)]⟩ s2 (by rw [v1 68 (by decide) (by decide), l1 68 (by decide) (by decide) (by decide), k2 f (by omega), j5 3 (by decide)]; exact r.2.2.2.2.1) (fA_k r.2.2.2.2.2.2 (by rw [k2 f (by omega), j5 6 (by decide)]) (by rw [v1 69 (by decide) (by decide), l1 69 (by decide) (by decide) (by decide)]) (by rw [v1 70 (by decide) (by decide), l1 70 (by decide) (by decide) (by decide)]) kL) eq.2.1 eq.2.2 (rl_N_cg2 rN1 (fun q a b => k2 q (by omega)) (v3 3 (by decide)) (v1 72 (by decide) (by decide))) (Nat.le_succ nn)
  · rw [am_ite_f z] at ty ⊢
    rw [am_ite_f z] at eW
    dsimp only at eW
    rw [am_ite_f (show ¬ (-2 : Int32) = nI 1 by decide)] at eW
    right; right
    have eW : R_work L = (nI 0, am_u2 (R_s1 L) 36 40 (-2)) := eW
    have s2 : sL L (am_u2 (R_s1 L) 36 40 (-2)) (tp - 1) := ⟨fun q a b d e g => fr_u g, fun j hj => u2_ne hj, fun j a _ => by rw [fr_u (by decide)], fun q a b j hj => by rw [fr_u (by omega)]⟩
    exact t_err (er := -2) hM hO hT hr ty eW (fun q a b d e g => by rw [fr_u b, Jf q a b]) (fun q a b => by rw [fr_u (by omega), j1 q (by omega) b]) (fun j hj => u2_ne hj) s2 am_u2_s am_u2_s (by decide) (rl_C_cg2 rC1 (fun q a b => fr_u (by omega)) (fun q a b => fr_u (by omega))) (rl_I_cg2 rI1 (fun q a b => fr_u (by omega)) (fun q a b => fr_u (by omega)) (u2_ne (by decide)) (by rw [fr_u (by decide)])) (rl_N_cg2 rN1 (fun q a b => fr_u (by omega)) (by rw [fr_u (by decide)]) (fr_u (by decide))) (Nat.le_succ nn)
