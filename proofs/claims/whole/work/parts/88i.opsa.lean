/-! Steps of the machine: call. -/
theorem chL_s1 {L : Nat → Nat → Int32} : chL L (R_s1 L) := by
  obtain ⟨l1, l2, l3, l4, l5, l6, l7⟩ := R_s1_c (L := L)
  exact ⟨fun q a b d => l1 q b (fun z => a (by omega)) d, l2 37 (by decide), fun j _ b => l4 j b⟩
theorem want_c {J : Nat → Nat → Int32} {g y : Int32} {x : Nat} : M_want J g x y 33 13 = g ∧ M_want J g x y 33 14 = nI x ∧ M_want J g x y 33 15 = y ∧ (∀ q, ¬ q = 33 → M_want J g x y q = J q) ∧ ∀ j, ¬ j = 13 → ¬ j = 14 → ¬ j = 15 → M_want J g x y 33 j = J 33 j := by
  unfold M_want
  exact ⟨by rw [u2_ne (by decide), u2_ne (by decide), am_u2_s], by rw [u2_ne (by decide), am_u2_s], am_u2_s, fun q hq => by rw [fr_u hq, fr_u hq, fr_u hq], fun j a b d => by rw [u2_ne d, u2_ne b, u2_ne a]⟩
theorem t_call {h : am_H} {J L : Nat → Nat → Int32} {lab : Nat → Nat} {n tp lv c f w e u t0 lv0 c0 nn cc N g : Nat} (hM : Mst h J L lab (n + 1) tp lv c) (hO : Oth h J L nn cc) (hT : Top h J L lab n tp lv c f w e u t0 lv0 c0) (hr : run1 J L f (lv - 1) t0 tp) (hk : jn J f 4 < 8) (h3 : jn L 36 41 < 300) (hN : c + 70 * (300 - jn L 36 41) ≤ N) (hg : g < 5) (eW : R_work L = R_act (R_s1 L) (tp - 1) 7 (nI g)) (tyL1 : am_ty2 (R_s1 L)) (ty : am_ty2 (M_wf (M_j1 J f) f w (jn L 69 (tp - 1)) g)) : Out L N nn cc h (M_wf (M_j1 J f) f w (jn L 69 (tp - 1)) g) := by
  have rw0 := Top_RW hM hT hO.2.2.1
  have f74 := hT.1.2.2.1
  have m3 := hM.1.2.2.1
  obtain ⟨ar, a2, a3⟩ := t_arg hM hT hr
  obtain ⟨kd, pl, r, k9, _, z5, tl, tp0⟩ := run_ix hr
  obtain ⟨j1, j2, j3, j4, j5, j6⟩ := M_j1_c (J := J) f74
  obtain ⟨l1, l2, l3, l4, l5, l6, l7⟩ := R_s1_c (L := L)
  have Jf := M_j1_33 (J := J) f74
  have x := hT.2.2.2.2.2.2.1
  have nw : ¬ w = f := fun z => by have a := hT.2.1.2.2.2.2; have b := hT.1.2.2.2.1; have d := hM.2.1.2.1; rw [z, b] at a; omega
  have ew : M_j1 J f w = J w := j1 w (fun z => by have := hT.2.1.2.2.2.1; omega) nw
  have x38 : jn (R_s1 L) 36 38 = lv := (congrArg Int32.toNatClampNeg (l2 38 (by decide))).trans (hM.2.1.2.2.2.2 (Nat.succ_pos n))
  have x39 : jn L 36 39 = tp := hM.2.1.2.2.2.1
  rw [x39] at l6 l7
  have b49 := ty_n m3 (q := 49) (B := 3) (by decide) (by decide) (jn L 63 (lv - 1))
  have x69 : jn (R_s1 L) 69 (tp - 1) = jn L 69 (tp - 1) := jn_cg (l1 69 (by decide) (by decide) (by decide))
  have x70 : jn (R_s1 L) 70 (tp - 1) = jn L 70 (tp - 1) := jn_cg (l1 70 (by decide) (by decide) (by decide))
  rw [R_act_7, x69, x70, jx_nI (by omega), x38] at eW
  rw [jn_cg (l1 49 (by decide) (by decide) (by decide)) (j := jn (R_s1 L) 63 (lv - 1)), jn_cg (l1 63 (by decide) (by decide) (by decide))] at eW
  have st := hM.2.2.2.2.2.1.2.2.1
  have s31 : jn L 36 41 + 1 < 2 ^ 31 := Nat.lt_trans (Nat.succ_lt_succ h3) (by decide)
  have e41 : jn (R_s1 L) 36 41 = jn L 36 41 + 1 := by
    show (R_s1 L 36 41).toNatClampNeg = _
    rw [l3]
    exact nI_clamp s31
  have kL : keL L (R_s1 L) := chL_ke chL_s1
  have p4 := (hM.2.2.2.2.1.2 f (Nat.succ_pos n) hT.1.1).1 (Or.inr z5)
  have main : ∀ (y : Int32) (yn : Nat), am_ty2 (M_want (M_j1 J f) (nI g) (jn L 69 (tp - 1)) y) → y = nI yn → yn < jn J 10 5 → yn < 12 → R_work L = R_en (R_s1 L) g (jn L 69 (tp - 1)) yn → oWa L N nn cc h (M_want (M_j1 J f) (nI g) (jn L 69 (tp - 1)) y) := by
    intro y yn ty ey hy h12 eW
    obtain ⟨w1, w2, w3, w4, w5⟩ := want_c (J := M_j1 J f) (g := nI g) (y := y) (x := jn L 69 (tp - 1))
    generalize M_want (M_j1 J f) (nI g) (jn L 69 (tp - 1)) y = J3 at *
    have ty2 : am_ty2 (am_u2 J3 33 13 (-1)) := ty_w ty (tw_u (by decide) (by decide) (by decide))
    have q1 : ∀ q, ¬ q = 33 → am_u2 J3 33 13 (-1) q = M_j1 J f q := fun q hq => by rw [fr_u hq, w4 q hq]
    have q2 : ∀ j, ¬ j = 13 → ¬ j = 14 → ¬ j = 15 → am_u2 J3 33 13 (-1) 33 j = M_j1 J f 33 j := fun j a b d => by rw [u2_ne a, w5 j a b d]
    have nf : ¬ f = 33 := fun z => by omega
    have M' : Mst h (am_u2 J3 33 13 (-1)) (R_s1 L) lab (n + 1) tp lv c := by
      refine t_op hM hT hr ty2 tyL1 (fun q a b => by rw [q1 q (by omega), j1 q (by omega) b]) ⟨fun q a b => by rw [q1 q (by omega), Jf q (by omega) (by omega)], by rw [q1 10 (by decide), Jf 10 (by decide) (by decide)]⟩ kL (fun j a b d => by rw [q1 f nf, j5 j b]) (by rw [q1 f nf]; exact j6) hk (fun j a b d e => ?_) ?_ (by rw [q2 17 (by decide) (by decide) (by decide), j4, l5, hM.2.2.2.2.2.1.2.2.2]) (l2 38 (by decide)) (l2 39 (by decide)) (l4 4 (by decide)) (fun q a b j hj => ?_) (fun q hq => by rw [l1 q (by omega) (by omega) (by omega)]) (by rw [l7, r.2.2.2.1]) (by rw [l1 68 (by decide) (by decide) (by decide), q1 f nf, j5 3 (by decide)]; exact r.2.2.2.2.1) (fA_k r.2.2.2.2.2.2 (by rw [q1 f nf, j5 6 (by decide)]) (by rw [l1 69 (by decide) (by decide) (by decide)]) (by rw [l1 70 (by decide) (by decide) (by decide)]) kL)
      · by_cases z : j = 13
        · rw [z, am_u2_s]; exact hM.2.2.2.2.2.1.2.1.symm
        · rw [q2 j z d e, j2 j a b]
      · rw [e41]
        show (am_u2 J3 33 13 (-1) 33 10).toNatClampNeg = _
        rw [q2 10 (by decide) (by decide) (by decide), j3, st]
        exact nI_clamp s31
      · by_cases z7 : q = 67
        · rw [z7, l6 j hj]
        · rw [l1 q (by omega) z7 (by omega)]
    have of := onf_mono (onf_f (h := h) (J := J) (J' := am_u2 J3 33 13 (-1)) hT.1.2.2.2.1 hT.1.2.2.2.2 (fun q a b => by rw [q1 q (by omega), j1 q (by omega) b])) (Nat.zero_le n)
    have j10 : jn J3 10 5 = jn J 10 5 := by rw [jn_cg (w4 10 (by decide)), jn_cg (Jf 10 (by decide) (by decide))]
    refine ⟨R_s1 L, lab, n + 1, tp, lv, c, nn, g, jn L 69 (tp - 1), yn, Nat.le_succ nn, rw0, eW, ⟨M', Oth_cg hO hM.1.2.2.2 of hO.2.2.2.1 (fun q a b => by rw [q1 q b, Jf q a b]) chL_s1, x38, Or.inr ⟨f, by rw [Nat.add_sub_cancel]; exact hT.1.1, by rw [w4 f nf, j5 5 (by decide)]; exact z5, by rw [jn_cg (l1 65 (by decide) (by decide) (by decide)), r.2.1]; exact k9⟩, ⟨w1, hg⟩, ⟨?_, by rw [j10]; exact ar.2.1⟩, fun _ => ⟨by rw [w3]; exact ey, by rw [j10]; exact hy⟩, h12, by rw [l4 4 (by decide), w5 16 (by decide) (by decide) (by decide), j2 16 (by decide) (by decide)]; exact p4⟩, ?_⟩
    · show (J3 33 14).toNatClampNeg = _
      rw [w2]
      exact nI_clamp (Nat.lt_trans ar.2.2 (by decide))
    · rw [e41]
      clear M' of kL eW ty ty2 hr r
      omega
  have eRn : ∀ yn, R_en (R_s1 L) g (jn L 69 (tp - 1)) yn = am_ite (jn (R_s1 L) 49 g = 0) (nI 0, (R_stop (R_s1 L) (-2)).2) (am_ite (lv = 12) (nI 0, (R_stop (R_s1 L) (-11)).2) ((R_enter (R_s1 L) g (jn L 69 (tp - 1)) yn).1, (R_enter (R_s1 L) g (jn L 69 (tp - 1)) yn).2)) := fun yn => by unfold R_en; rw [x38]; rfl
  right; left
  unfold M_wf at ty ⊢
  rw [ew, x.1] at ty ⊢
  by_cases z : jn L 49 (jn L 63 (lv - 1)) = 2
  · rw [z, am_ite_t rfl] at ty ⊢
    rw [am_ite_t z] at eW
    have g2 := a2 z
    exact main (F_snd (M_j1 J f) f w) (jn L 70 (tp - 1)) ty g2.1 g2.2 a3 (by rw [eRn]; exact eW)
  · have nz : ¬ nI (jn L 49 (jn L 63 (lv - 1))) = nI 2 := fun q => z ((nI_eq (by omega) (by decide)).mp q)
    rw [am_ite_f nz] at ty ⊢
    rw [am_ite_f z] at eW
    exact main (nI (jn L 69 (tp - 1))) (jn L 69 (tp - 1)) ty rfl ar.2.1 ar.2.2 (by rw [eRn]; exact eW)
