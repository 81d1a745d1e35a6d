/-! Steps of the machine: get, put, become. -/
theorem fA_k {J J3 L L3 : Nat → Nat → Int32} {f i l : Nat} (h : fA J L f i l) (h6 : J3 f 6 = J f 6) (h69 : L3 69 i = L 69 i) (h70 : L3 70 i = L 70 i) (kL : keL L L3) : fA J3 L3 f i l := by
  unfold fA at h ⊢
  rw [h6, h69, h70, kL 61 (by decide) (by decide), kL 62 (by decide) (by decide), jn_cg (kL 49 (by decide) (by decide)), jn_cg (kL 63 (by decide) (by decide))]
  exact h
/-- the arguments, on both sides -/
theorem t_arg {h : am_H} {J L : Nat → Nat → Int32} {lab : Nat → Nat} {n tp lv c f w e u t0 lv0 c0 : Nat} (hM : Mst h J L lab (n + 1) tp lv c) (hT : Top h J L lab n tp lv c f w e u t0 lv0 c0) (hr : run1 J L f (lv - 1) t0 tp) : (F_fst (M_j1 J f) f w = nI (jn L 69 (tp - 1)) ∧ jn L 69 (tp - 1) < jn J 10 5 ∧ jn L 69 (tp - 1) < 12) ∧ (jn L 49 (jn L 63 (lv - 1)) = 2 → F_snd (M_j1 J f) f w = nI (jn L 70 (tp - 1)) ∧ jn L 70 (tp - 1) < jn J 10 5) ∧ jn L 70 (tp - 1) < 12 := by
  obtain ⟨kd, pl, r, _, _, z5, tl, tp0⟩ := run_ix hr
  have f74 := hT.1.2.2.1
  have m3 := hM.1.2.2.1
  obtain ⟨j1, j2, j3, j4, j5, j6⟩ := M_j1_c (J := J) f74
  have x := hT.2.2.2.2.2.2.1
  have nw : ¬ w = f := fun z => by have a := hT.2.1.2.2.2.2; have b := hT.1.2.2.2.1; have d := hM.2.1.2.1; rw [z, b] at a; omega
  have ew : M_j1 J f w = J w := j1 w (fun z => by have := hT.2.1.2.2.2.1; omega) nw
  have b69 := ty_n m3 (q := 69) (B := 12) (by decide) (by decide) (tp - 1)
  have b70 := ty_n m3 (q := 70) (B := 12) (by decide) (by decide) (tp - 1)
  have fa := r.2.2.2.2.2.2
  unfold F_fst F_snd
  rw [j5 6 (by decide), ew]
  rcases fa with ⟨a, b, d⟩ | ⟨a, a2, b, d⟩
  · rw [a, am_ite_t (show nI 0 = 0 by decide), am_ite_t (show nI 0 = 0 by decide)]
    refine ⟨⟨by rw [x.2.1, ← b]; exact b69.1, ?_, b69.2⟩, fun z => ⟨by rw [(x.2.2.2.1 z).1, ← d]; exact b70.1, ?_⟩, b70.2⟩
    · have q := x.2.2.1
      unfold jn at q ⊢
      rw [b]; exact q
    · have q := (x.2.2.2.1 z).2
      unfold jn at q ⊢
      rw [d]; exact q
  · rw [a, am_ite_f (show ¬ nI 1 = 0 by decide), am_ite_f (show ¬ nI 1 = 0 by decide)]
    refine ⟨⟨by rw [(x.2.2.2.1 a2).1, ← b]; exact b69.1, ?_, b69.2⟩, fun z => ⟨by rw [x.2.1, ← d]; exact b70.1, ?_⟩, b70.2⟩
    · have q := (x.2.2.2.1 a2).2
      unfold jn at q ⊢
      rw [b]; exact q
    · have q := x.2.2.1
      unfold jn at q ⊢
      rw [d]; exact q
/-- the stores behind the counters -/
theorem t_j1 {h : am_H} {J L : Nat → Nat → Int32} {nn cc f : Nat} (hO : Oth h J L nn cc) (f74 : 74 ≤ f) : rl_C (M_j1 J f) (R_s1 L) ∧ rl_I (M_j1 J f) (R_s1 L) ∧ rl_N (M_j1 J f) (R_s1 L) nn := by
  have Jf := M_j1_33 (J := J) f74
  obtain ⟨l1, l2, l3, l4, l5, l6, l7⟩ := R_s1_c (L := L)
  exact ⟨rl_C_cg2 hO.1.1 (fun q a b => Jf q (by omega) (by omega)) (fun q a b => l1 q (by omega) (by omega) (by omega)), rl_I_cg2 hO.1.2.1 (fun q a b => Jf q (by omega) (by omega)) (fun q a b => l1 q (by omega) (by omega) (by omega)) (l2 37 (by decide)) (l4 7 (by decide)), rl_N_cg2 hO.2.1 (fun q a b => Jf q (by omega) (by omega)) (l4 3 (by decide)) (l1 72 (by decide) (by decide) (by decide))⟩
theorem t_get {h : am_H} {J L : Nat → Nat → Int32} {lab : Nat → Nat} {n tp lv c f w e u t0 lv0 c0 nn cc N nm : Nat} (hM : Mst h J L lab (n + 1) tp lv c) (hO : Oth h J L nn cc) (hT : Top h J L lab n tp lv c f w e u t0 lv0 c0) (hr : run1 J L f (lv - 1) t0 tp) (hk : jn J f 4 < 8) (h3 : jn L 36 41 < 300) (hN : c + 70 * (300 - jn L 36 41) ≤ N) (hn : nm < 6) (eW : R_work L = R_act (R_s1 L) (tp - 1) 2 (nI nm)) (ty1 : am_ty2 (M_j1 J f)) (ty : am_ty2 (am_u2 ((M_ioe ((I_read (M_j1 J f) (jn L 69 (tp - 1)) nm).2) ((I_read (M_j1 J f) (jn L 69 (tp - 1)) nm).1)).2) f 3 ((M_j1 J f f 3) + ((M_ioe ((I_read (M_j1 J f) (jn L 69 (tp - 1)) nm).2) ((I_read (M_j1 J f) (jn L 69 (tp - 1)) nm).1)).1)))) : Out L N nn cc h (am_u2 ((M_ioe ((I_read (M_j1 J f) (jn L 69 (tp - 1)) nm).2) ((I_read (M_j1 J f) (jn L 69 (tp - 1)) nm).1)).2) f 3 ((M_j1 J f f 3) + ((M_ioe ((I_read (M_j1 J f) (jn L 69 (tp - 1)) nm).2) ((I_read (M_j1 J f) (jn L 69 (tp - 1)) nm).1)).1))) := by
  have f74 := hT.1.2.2.1
  obtain ⟨ar, _⟩ := t_arg hM hT hr
  obtain ⟨kd, pl, r, _, _, z5, tl, tp0⟩ := run_ix hr
  obtain ⟨j1, j2, j3, j4, j5, j6⟩ := M_j1_c (J := J) f74
  obtain ⟨l1, l2, l3, l4, l5, l6, l7⟩ := R_s1_c (L := L)
  obtain ⟨rC1, rI1, rN1⟩ := t_j1 hO f74 (L := L)
  have Jf := M_j1_33 (J := J) f74
  have mk1 : jn L 69 (tp - 1) < jn (M_j1 J f) 10 5 := by rw [jn_cg (Jf 10 (by decide) (by decide))]; exact ar.2.1
  have x69 : jn (R_s1 L) 69 (tp - 1) = jn L 69 (tp - 1) := jn_cg (l1 69 (by decide) (by decide) (by decide))
  rw [R_act_2, x69] at eW
  generalize jn L 69 (tp - 1) = x0 at *
  have hi : R_inst (R_s1 L) (nI x0) := by rw [rl_in rI1]; exact I_there_n ty1 mk1
  have eq := eq_get ty1 rC1 rI1 (i := nI x0) (nm := nI nm)
  rw [get_r ty1 mk1 hn, read_2] at eq
  rw [read_2] at ty ⊢
  obtain ⟨t1, t2⟩ := R_tch (L := R_s1 L) (i := x0)
  obtain ⟨k1, k2⟩ := t1_10 (K := M_j1 J f) (i := x0)
  have k36 : R_touch (R_s1 L) x0 36 = R_s1 L 36 := t1 36 (by decide) (by decide)
  have s68 : R_touch (R_s1 L) x0 68 (tp - 1) = J f 3 := by rw [t1 68 (by decide) (by decide), l1 68 (by decide) (by decide) (by decide)]; exact r.2.2.2.2.1
  have nf : ∀ q, q < 74 → ¬ q = f := fun q hq z => by omega
  rcases R_get_v hi ar.2.2 hn with ⟨x, ex⟩ | ⟨er, her, ex⟩
  · rw [ex] at eq eW
    dsimp only at eq eW
    rw [eq.1, ioe_i] at ty ⊢
    dsimp only at ty ⊢
    rw [am_ite_t (i64_le (by decide)), Int32.toInt32_toInt64] at eW
    left
    have v1 : ∀ q, ¬ (43 ≤ q ∧ q ≤ 48) → ¬ (68 ≤ q ∧ q ≤ 70) → ¬ q = 72 → ¬ q = 73 → ¬ q = 36 → am_u2 (R_touch (R_s1 L) x0) 68 (tp - 1) (R_touch (R_s1 L) x0 68 (tp - 1) + x) q = R_s1 L q := fun q a b d e g => by rw [fr_u (by omega), t1 q (by omega) e]
    have s2 : sL L (am_u2 (R_touch (R_s1 L) x0) 68 (tp - 1) (R_touch (R_s1 L) x0 68 (tp - 1) + x)) (tp - 1) := ⟨v1, fun j _ => by rw [fr_u (by decide), k36], fun j a _ => by rw [fr_u (by decide), t2 j a], fun q a b j hj => by
      by_cases z : q = 68
      · rw [z, u2_ne hj, t1 68 (by decide) (by decide)]
      · rw [fr_u z, t1 q (by omega) (by omega)]⟩
    have kL : keL L (am_u2 (R_touch (R_s1 L) x0) 68 (tp - 1) (R_touch (R_s1 L) x0 68 (tp - 1) + x)) := fun q a b => by rw [v1 q (by omega) (by omega) (by omega) (by omega) (by omega), l1 q (by omega) (by omega) (by omega)]
    exact t_gen hM hO hT hr hk h3 hN ty eW ⟨fun q a b d e => by rw [fr_u (nf q a), k2 q d], by rw [fr_u (nf 10 (by decide)), k1, Jf 10 (by decide) (by decide)], fun q a b => by rw [fr_u b, k2 q (by omega), j1 q (by omega) b], fun j a b => by rw [u2_ne a, k2 f (by omega)]⟩ s2 (by rw [am_u2_s, am_u2_s, s68, j5 3 (by decide)]) (fA_k r.2.2.2.2.2.2 (by rw [u2_ne (by decide), k2 f (by omega), j5 6 (by decide)]) (by rw [fr_u (by decide), t1 69 (by decide) (by decide), l1 69 (by decide) (by decide) (by decide)]) (by rw [fr_u (by decide), t1 70 (by decide) (by decide), l1 70 (by decide) (by decide) (by decide)]) kL) (rl_C_cg2 eq.2.1 (fun q a b => fr_u (nf q (by omega))) (fun q a b => fr_u (by omega))) (rl_I_cg2 eq.2.2 (fun q a b => fr_u (nf q (by omega))) (fun q a b => fr_u (by omega)) (by rw [fr_u (by decide)]) (by rw [fr_u (by decide)])) (rl_N_cg2 rN1 (fun q a b => by rw [fr_u (nf q (by omega)), k2 q (by omega)]) (by rw [fr_u (by decide), t2 3 (by decide)]) (by rw [fr_u (by decide), t1 72 (by decide) (by decide)])) (Nat.le_succ nn)
  · rw [ex] at eq eW
    dsimp only at eq eW
    rw [eq.1, ioe_e her] at ty ⊢
    dsimp only at ty ⊢
    rw [am_ite_f (e64_big her).1] at eW
    right; right
    have s2 : sL L (am_u2 (R_touch (R_s1 L) x0) 36 40 er) (tp - 1) := ⟨fun q a b d e g => by rw [fr_u g, t1 q (by omega) e], fun j hj => by rw [u2_ne hj, k36], fun j a _ => by rw [fr_u (by decide), t2 j a], fun q a b j hj => by rw [fr_u (by omega), t1 q (by omega) (by omega)]⟩
    have n0 : ¬ er = 0 := by rcases her with z | z <;> rw [z] <;> decide
    exact t_err hM hO hT hr ty eW (fun q a b d e g => by rw [fr_u (nf q a), fr_u b, k2 q e, Jf q a b]) (fun q a b => by rw [fr_u b, fr_u (by omega), k2 q (by omega), j1 q (by omega) b]) (fun j hj => by rw [fr_u (nf 33 (by decide)), u2_ne hj, k2 33 (by decide)]) s2 (by rw [fr_u (nf 33 (by decide)), am_u2_s]) am_u2_s n0 (rl_C_cg2 eq.2.1 (fun q a b => by rw [fr_u (nf q (by omega)), fr_u (by omega)]) (fun q a b => rfl)) (rl_I_cg2 eq.2.2 (fun q a b => by rw [fr_u (nf q (by omega)), fr_u (by omega)]) (fun q a b => rfl) rfl rfl) (rl_N_cg2 rN1 (fun q a b => by rw [fr_u (nf q (by omega)), fr_u (by omega), k2 q (by omega)]) (by rw [fr_u (by decide), t2 3 (by decide)]) (by rw [fr_u (by decide), t1 72 (by decide) (by decide)])) (Nat.le_succ nn)
