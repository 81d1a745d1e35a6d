/-! Steps of the machine: note, swap, call. -/
theorem nt_c {f : Nat} {a : Int32} : ∀ m L, (∀ q, ¬ q = 72 → R_nt f a m L q = L q) ∧ ∀ k, (1 ≤ k → k ≤ m → R_nt f a m L 72 k = L 72 (k - 1)) ∧ (m < k → R_nt f a m L 72 k = L 72 k) := by
  intro m
  induction m with
  | zero => intro L; rw [R_nt]; exact ⟨fun _ _ => rfl, fun k => ⟨fun a b => absurd b (by omega), fun _ => rfl⟩⟩
  | succ m ih =>
    intro L
    rw [R_nt]
    obtain ⟨g1, g2⟩ := ih (am_u2 L 72 (m + 1) (L 72 (m + 1 - 1)))
    refine ⟨fun q hq => by rw [g1 q hq, fr_u hq], fun k => ⟨fun x y => ?_, fun x => by rw [(g2 k).2 (by omega), u2_ne (by omega)]⟩⟩
    by_cases z : k ≤ m
    · rw [(g2 k).1 x z, u2_ne (by omega)]
    · rw [(g2 k).2 (by omega), show k = m + 1 by omega, am_u2_s]
theorem t_note {h : am_H} {J L : Nat → Nat → Int32} {lab : Nat → Nat} {n tp lv c f w e u t0 lv0 c0 nn cc N : Nat} {a : Int32} (hM : Mst h J L lab (n + 1) tp lv c) (hO : Oth h J L nn cc) (hT : Top h J L lab n tp lv c f w e u t0 lv0 c0) (hr : run1 J L f (lv - 1) t0 tp) (hk : jn J f 4 < 8) (h3 : jn L 36 41 < 300) (hN : c + 70 * (300 - jn L 36 41) ≤ N) (eW : R_work L = R_act (R_s1 L) (tp - 1) 6 a) (ty1 : am_ty2 (M_j1 J f)) (ty : am_ty2 (T_take (M_j1 J f) a)) : Out L N nn cc h (T_take (M_j1 J f) a) := by
  have f74 := hT.1.2.2.1
  obtain ⟨kd, pl, r, _, _, z5, tl, tp0⟩ := run_ix hr
  obtain ⟨j1, j2, j3, j4, j5, j6⟩ := M_j1_c (J := J) f74
  obtain ⟨l1, l2, l3, l4, l5, l6, l7⟩ := R_s1_c (L := L)
  obtain ⟨rC1, rI1, rN1⟩ := t_j1 hO f74 (L := L)
  have Jf := M_j1_33 (J := J) f74
  rw [R_act_6] at eW
  obtain ⟨g1, g2⟩ := nt_c (f := tp - 1) (a := a) 19 (R_s1 L)
  unfold R_n9 at eW
  have tk := rl_take ty1 rN1 (a := a)
  have k2 : ∀ q, ¬ (31 ≤ q ∧ q ≤ 32) → T_take (M_j1 J f) a q = M_j1 J f q := fun q hq => fr_T_take q (by omega)
  generalize R_nt (tp - 1) a 19 (R_s1 L) = X at *
  have v1 : ∀ q, ¬ q = 72 → ¬ q = 73 → am_u2 (am_u2 X 72 0 a) 73 3 (X 73 3 + nI 1) q = R_s1 L q := fun q a b => by rw [fr_u b, fr_u a, g1 q a]
  have v3 : ∀ j, ¬ j = 3 → am_u2 (am_u2 X 72 0 a) 73 3 (X 73 3 + nI 1) 73 j = R_s1 L 73 j := fun j hj => by rw [u2_ne hj, fr_u (by decide), g1 73 (by decide)]
  have v33 : am_u2 (am_u2 X 72 0 a) 73 3 (X 73 3 + nI 1) 73 3 = nI (nn + 1) := by rw [am_u2_s, g1 73 (by decide), rN1.1, nI_add]
  have v72 : ∀ k, am_u2 (am_u2 X 72 0 a) 73 3 (X 73 3 + nI 1) 72 k = am_u2 X 72 0 a 72 k := fun k => by rw [fr_u (by decide)]
  have rN : rl_N (T_take (M_j1 J f) a) (am_u2 (am_u2 X 72 0 a) 73 3 (X 73 3 + nI 1)) (nn + 1) := by
    refine ⟨v33, tk.1, tk.2.1, fun k hk2 => ?_⟩
    rw [v72]
    by_cases z : k = 0
    · rw [z, am_u2_s]; exact tk.2.2.1
    · obtain ⟨k', rfl⟩ : ∃ k', k = k' + 1 := ⟨k - 1, by omega⟩
      rw [u2_ne z, tk.2.2.2 k' hk2, (g2 (k' + 1)).1 (by omega) (by omega), Nat.add_sub_cancel]
  generalize am_u2 (am_u2 X 72 0 a) 73 3 (X 73 3 + nI 1) = T at *
  left
  have s2 : sL L T (tp - 1) := ⟨fun q a b d e g => v1 q d e, fun j _ => by rw [v1 36 (by decide) (by decide)], fun j _ b => v3 j b, fun q a b j hj => by rw [v1 q (by omega) (by omega)]⟩
  have kL : keL L T := fun q a b => by rw [v1 q (by omega) (by omega), l1 q (by omega) (by omega) (by omega)]
  exact t_gen hM hO hT hr hk h3 hN ty eW ⟨fun q a b d e => k2 q e, by rw [k2 10 (by decide), Jf 10 (by decide) (by decide)], fun q a b => by rw [k2 q (by omega), j1 q (by omega) b], fun j a b => by rw [k2 f (by omega)]⟩ s2 (by rw [v1 68 (by decide) (by decide), l1 68 (by decide) (by decide) (by decide), k2 f (by omega), j5 3 (by decide)]; exact r.2.2.2.2.1) (fA_k r.2.2.2.2.2.2 (by rw [k2 f (by omega), j5 6 (by decide)]) (by rw [v1 69 (by decide) (by decide), l1 69 (by decide) (by decide) (by decide)]) (by rw [v1 70 (by decide) (by decide), l1 70 (by decide) (by decide) (by decide)]) kL) (rl_C_cg2 rC1 (fun q a b => k2 q (by omega)) (fun q a b => v1 q (by omega) (by omega))) (rl_I_cg2 rI1 (fun q a b => k2 q (by omega)) (fun q a b => v1 q (by omega) (by omega)) (by rw [v1 36 (by decide) (by decide)]) (v3 7 (by decide))) rN (Nat.le_refl _)
theorem t_swp {h : am_H} {J L : Nat → Nat → Int32} {lab : Nat → Nat} {n tp lv c f w e u t0 lv0 c0 nn cc N : Nat} {a : Int32} (hM : Mst h J L lab (n + 1) tp lv c) (hO : Oth h J L nn cc) (hT : Top h J L lab n tp lv c f w e u t0 lv0 c0) (hr : run1 J L f (lv - 1) t0 tp) (hk : jn J f 4 < 8) (h3 : jn L 36 41 < 300) (hN : c + 70 * (300 - jn L 36 41) ≤ N) (eW : R_work L = R_act (R_s1 L) (tp - 1) 9 a) (ty : am_ty2 (M_sw (M_j1 J f) f w)) : Out L N nn cc h (M_sw (M_j1 J f) f w) := by
  have f74 := hT.1.2.2.1
  have m3 := hM.1.2.2.1
  obtain ⟨kd, pl, r, _, _, z5, tl, tp0⟩ := run_ix hr
  obtain ⟨j1, j2, j3, j4, j5, j6⟩ := M_j1_c (J := J) f74
  obtain ⟨l1, l2, l3, l4, l5, l6, l7⟩ := R_s1_c (L := L)
  obtain ⟨rC1, rI1, rN1⟩ := t_j1 hO f74 (L := L)
  have Jf := M_j1_33 (J := J) f74
  have x := hT.2.2.2.2.2.2.1
  have nw : ¬ w = f := fun z => by have a := hT.2.1.2.2.2.2; have b := hT.1.2.2.2.1; have d := hM.2.1.2.1; rw [z, b] at a; omega
  have ew : M_j1 J f w = J w := j1 w (fun z => by have := hT.2.1.2.2.2.1; omega) nw
  have x38 : jn (R_s1 L) 36 38 = lv := (congrArg Int32.toNatClampNeg (l2 38 (by decide))).trans (hM.2.1.2.2.2.2 (Nat.succ_pos n))
  have b49 := ty_n m3 (q := 49) (B := 3) (by decide) (by decide) (jn L 63 (lv - 1))
  rw [R_act_9, x38, jn_cg (l1 49 (by decide) (by decide) (by decide)), jn_cg (l1 63 (by decide) (by decide) (by decide))] at eW
  unfold M_sw at ty ⊢
  rw [ew, x.1] at ty ⊢
  have fa := r.2.2.2.2.2.2
  left
  by_cases z : jn L 49 (jn L 63 (lv - 1)) = 2
  · rw [z, am_ite_t rfl, j5 6 (by decide)] at ty ⊢
    rw [z, am_ite_t (by decide)] at eW
    have b69 := ty_n m3 (q := 69) (B := 12) (by decide) (by decide) (tp - 1)
    have b70 := ty_n m3 (q := 70) (B := 12) (by decide) (by decide) (tp - 1)
    rw [jn_cg (l1 69 (by decide) (by decide) (by decide)), jn_cg (l1 70 (by decide) (by decide) (by decide)), ← b69.1, ← b70.1] at eW
    have v1 : ∀ q, ¬ (69 ≤ q ∧ q ≤ 70) → am_u2 (am_u2 (R_s1 L) 69 (tp - 1) (L 70 (tp - 1))) 70 (tp - 1) (L 69 (tp - 1)) q = R_s1 L q := fun q hq => by rw [fr_u (by omega), fr_u (by omega)]
    have v69 : am_u2 (am_u2 (R_s1 L) 69 (tp - 1) (L 70 (tp - 1))) 70 (tp - 1) (L 69 (tp - 1)) 69 (tp - 1) = L 70 (tp - 1) := by rw [fr_u (by decide), am_u2_s]
    have v70 : am_u2 (am_u2 (R_s1 L) 69 (tp - 1) (L 70 (tp - 1))) 70 (tp - 1) (L 69 (tp - 1)) 70 (tp - 1) = L 69 (tp - 1) := am_u2_s
    have vo : ∀ q, 69 ≤ q → q ≤ 70 → ∀ j, ¬ j = tp - 1 → am_u2 (am_u2 (R_s1 L) 69 (tp - 1) (L 70 (tp - 1))) 70 (tp - 1) (L 69 (tp - 1)) q j = R_s1 L q j := fun q a b j hj => by
      rcases (show q = 69 ∨ q = 70 by omega) with rfl | rfl
      · rw [fr_u (by decide), u2_ne hj]
      · rw [u2_ne hj, fr_u (by decide)]
    generalize am_u2 (am_u2 (R_s1 L) 69 (tp - 1) (L 70 (tp - 1))) 70 (tp - 1) (L 69 (tp - 1)) = T at *
    have s2 : sL L T (tp - 1) := ⟨fun q a b d e g => v1 q (by omega), fun j _ => by rw [v1 36 (by decide)], fun j _ b => by rw [v1 73 (by decide)], fun q a b j hj => by
      by_cases y : q = 68
      · rw [y, v1 68 (by decide)]
      · exact vo q (by omega) b j hj⟩
    have kL : keL L T := fun q a b => by rw [v1 q (by omega), l1 q (by omega) (by omega) (by omega)]
    have main : ∀ s : Int32, am_ty2 (am_u2 (M_j1 J f) f 6 s) → fA (am_u2 (M_j1 J f) f 6 s) T f (tp - 1) (lv - 1) → oGo L N nn cc h (am_u2 (M_j1 J f) f 6 s) := fun s ty hA => t_gen hM hO hT hr hk h3 hN ty eW ⟨fun q a b d e => fr_u (by omega), by rw [fr_u (by omega), Jf 10 (by decide) (by decide)], fun q a b => by rw [fr_u b, j1 q (by omega) b], fun j a b => u2_ne b⟩ s2 (by rw [v1 68 (by decide), l1 68 (by decide) (by decide) (by decide), u2_ne (by decide), j5 3 (by decide)]; exact r.2.2.2.2.1) hA (rl_C_cg2 rC1 (fun q a b => fr_u (by omega)) (fun q a b => v1 q (by omega))) (rl_I_cg2 rI1 (fun q a b => fr_u (by omega)) (fun q a b => v1 q (by omega)) (by rw [v1 36 (by decide)]) (by rw [v1 73 (by decide)])) (rl_N_cg2 rN1 (fun q a b => fr_u (by omega)) (by rw [v1 73 (by decide)]) (v1 72 (by decide))) (Nat.le_succ nn)
    have q49 : jn T 49 (jn T 63 (lv - 1)) = 2 := by rw [jn_cg (kL 49 (by decide) (by decide)), jn_cg (kL 63 (by decide) (by decide))]; exact z
    rcases fa with ⟨y, b, d⟩ | ⟨y, a2, b, d⟩
    · rw [y, am_ite_t (show nI 0 = 0 by decide)] at ty ⊢
      exact main (nI 1) ty (Or.inr ⟨am_u2_s, q49, by rw [v69, kL 62 (by decide) (by decide)]; exact d, by rw [v70, kL 61 (by decide) (by decide)]; exact b⟩)
    · rw [y, am_ite_f (show ¬ nI 1 = 0 by decide)] at ty ⊢
      exact main (nI 0) ty (Or.inl ⟨am_u2_s, by rw [v69, kL 61 (by decide) (by decide)]; exact d, by rw [v70, kL 62 (by decide) (by decide)]; exact b⟩)
  · have nz : ¬ nI (jn L 49 (jn L 63 (lv - 1))) = nI 2 := fun q => z ((nI_eq (by omega) (by decide)).mp q)
    rw [am_ite_f nz] at ty ⊢
    rw [am_ite_f (by omega)] at eW
    have s2 : sL L (R_s1 L) (tp - 1) := ⟨fun q a b d e g => rfl, fun j _ => rfl, fun j _ b => rfl, fun q a b j hj => rfl⟩
    have kL : keL L (R_s1 L) := fun q a b => l1 q (by omega) (by omega) (by omega)
    exact t_gen hM hO hT hr hk h3 hN ty eW ⟨fun q a b d e => rfl, by rw [Jf 10 (by decide) (by decide)], fun q a b => j1 q (by omega) b, fun j a b => rfl⟩ s2 (by rw [l1 68 (by decide) (by decide) (by decide), j5 3 (by decide)]; exact r.2.2.2.2.1) (fA_k fa (j5 6 (by decide)) (by rw [l1 69 (by decide) (by decide) (by decide)]) (by rw [l1 70 (by decide) (by decide) (by decide)]) kL) rC1 rI1 rN1 (Nat.le_succ nn)
