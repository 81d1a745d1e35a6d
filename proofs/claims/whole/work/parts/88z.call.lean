/-! call, on both sides. -/
theorem w_err_i {x : Int32} : ¬ w_err x.toInt64 := by
  unfold w_err
  rw [am_ite_t (i64_le (by decide))]
  exact fun q => q
theorem w_err_e {er : Int32} : w_err (Int64.ofInt 1099511627776 + er.toInt64) := by
  have a := Int32.toInt_lt er
  have b := Int32.le_toInt er
  have n : ¬ lg_cmp (Int64.ofInt 1099511627776 + er.toInt64) (Int64.ofInt 2147483647) ≤ 0 := by
    rw [lg_cmp_le, Int64.le_iff_toInt_le, Int64.toInt_add, i64_i, show (Int64.ofInt 1099511627776).toInt = 1099511627776 from by decide, show (Int64.ofInt 2147483647).toInt = 2147483647 from by decide, Int.bmod_eq_of_le (by omega) (by omega)]
    omega
  unfold w_err
  rw [am_ite_f n]
  trivial
/-- the reference's store as a call begins -/
def Rc_0 (L : Nat → Nat → Int32) : Nat → Nat → Int32 := am_u2 (am_u2 (am_u2 L 36 38 (nI 0)) 36 39 (nI 0)) 36 41 (nI 0)
/-- the call is let in -/
def R_ok (L : Nat → Nat → Int32) (g x y : Int32) : Prop := r_is g (nI 0) (nI 4) ∧ ¬ jn L 49 (jx g) = 0 ∧ R_inst L x ∧ (jn L 49 (jx g) = 2 → R_inst L y)
/-- what the reference's call does -/
def Rcal (L : Nat → Nat → Int32) (g x y : Int32) (v : Int64) (L' : Nat → Nat → Int32) : Prop := (¬ R_ok L g x y ∧ v = Int64.ofInt 1099511627774 ∧ L' = L) ∨ (R_ok L g x y ∧ ∃ y' n g' L1, ((jn L 49 (jx g) = 2 → y' = jx y) ∧ (¬ jn L 49 (jx g) = 2 → y' = jx x)) ∧ Rend n (R_enter (Rc_0 L) (jx g) (jx x) y').1 (R_enter (Rc_0 L) (jx g) (jx x) y').2 g' L1 ∧ ((¬ g' = 0 ∧ v = (L1 36 42).toInt64 ∧ L' = am_u2 L1 73 8 (L1 73 8 + nI 1)) ∨ (g' = 0 ∧ v = Int64.ofInt 1099511627776 + (L1 36 40).toInt64 ∧ L' = L1)))
theorem s_Rcal {d : am_D} {h : am_H} {L L' : Nat → Nat → Int32} {g x y : Int32} {v : Int64} (hB : am_B h) (hL : am_ty2 L) (hd : 8 ≤ d.1) (hw : 192 ≤ d.2) (hr : Rcal L g x y v L') : am_wp d 70 0 [some (.ref 36), some (.int g), some (.int x), some (.int y), none] [] (am_si h L) (fun r hh => r = some (.long v) ∧ hh = am_si h L' ∧ am_ty2 L') := by
  rcases hr with ⟨no, rfl, rfl⟩ | ⟨ok, y', n, g', L1, ⟨y2, y1⟩, re, out⟩
  · refine l_Q_c0 hB hL g x y hd hw (fun _ ty => ⟨rfl, rfl, ty⟩) (fun _ _ ty => ⟨rfl, rfl, ty⟩) (fun _ _ _ ty => ⟨rfl, rfl, ty⟩) (fun a b c e _ => absurd ⟨a, b, c, fun z => absurd z e⟩ no) (fun a b c e f _ => absurd ⟨a, b, c, fun _ => f⟩ no) (fun _ _ _ _ _ ty => ⟨rfl, rfl, ty⟩)
  · obtain ⟨o1, o2, o3, o4⟩ := ok
    have gx := jx_eq (by decide) o1
    have xx := R_inst_r hL o3
    have b38 : jn (Rc_0 L) 36 38 = 0 := by unfold Rc_0 jn; rw [u2_ne (by decide), u2_ne (by decide), am_u2_s]; rfl
    have b39 : jn (Rc_0 L) 36 39 = 0 := by unfold Rc_0 jn; rw [u2_ne (by decide), am_u2_s]; rfl
    have b49 : ∀ j, jn (Rc_0 L) 49 j = jn L 49 j := fun j => jn_cg (by unfold Rc_0; rw [fr_u (by decide), fr_u (by decide), fr_u (by decide)])
    have go : ∀ t1 t2 t3, am_ty2 (R_enter (Rc_0 L) (jx g) (jx x) y').2 → am_wp d 70 86 [some (.ref 36), some (.int t1), some (.int t2), some (.int t3), some (.int (R_enter (Rc_0 L) (jx g) (jx x) y').1)] [] (am_si h (R_enter (Rc_0 L) (jx g) (jx x) y').2) (fun r hh => r = some (.long v) ∧ hh = am_si h L' ∧ am_ty2 L') := fun t1 t2 t3 ty => by
      refine s_Rend hB hd hw n _ _ g' L1 ty re (fun ty1 => ?_)
      refine wp_L (L := [some (.ref 36), none, none, none, some (.int g')]) ⟨Or.inr rfl, Or.inl rfl, Or.inl rfl, Or.inl rfl, Or.inr rfl, True.intro⟩ ?_
      refine l_Q_c1 hB ty1 g' hd hw (fun z ty2 => ?_) (fun z ty2 => ?_)
      · rcases out with ⟨_, rfl, rfl⟩ | ⟨z2, _⟩
        · exact ⟨by rw [fr_u (by decide)], rfl, ty2⟩
        · exact absurd z2 z
      · rcases out with ⟨z2, _⟩ | ⟨_, rfl, rfl⟩
        · exact absurd z z2
        · exact ⟨rfl, rfl, ty2⟩
    refine l_Q_c0 hB hL g x y hd hw (fun a _ => absurd o1 a) (fun _ a _ => absurd a o2) (fun _ _ a _ => absurd o3 a) (fun _ _ _ e ty => ?_) (fun _ _ _ e f ty => ?_) (fun _ _ _ e f _ => absurd (o4 e) f)
    · refine l_Q_c2 hB ty (jx g) (jx x) y (Nat.lt_succ_of_le gx.2) xx.2.2 (fun z => absurd ((b49 (jx g)).symm.trans z) e) (by show jn (Rc_0 L) 36 38 < 12; rw [b38]; decide) (by show jn (Rc_0 L) 36 39 < 320; rw [b39]; decide) hd hw (fun _ ty2 => ?_) (fun z _ => absurd ((b49 (jx g)).symm.trans z) e)
      have g9 := go (nI (jx g)) (nI (jx x)) y
      rw [y1 e] at g9
      exact g9 ty2
    · have yy := R_inst_r hL f
      refine l_Q_c2 hB ty (jx g) (jx x) (nI (jx y)) (Nat.lt_succ_of_le gx.2) xx.2.2 (fun _ => by rw [jx_nI (by omega)]; exact ⟨rfl, yy.2.2⟩) (by show jn (Rc_0 L) 36 38 < 12; rw [b38]; decide) (by show jn (Rc_0 L) 36 39 < 320; rw [b39]; decide) hd hw (fun z _ => absurd ((b49 (jx g)).trans e) z) (fun _ ty2 => ?_)
      rw [jx_nI (by omega)] at ty2 ⊢
      have g9 := go (nI (jx g)) (nI (jx x)) (nI (jx y))
      rw [y2 e] at g9
      exact g9 ty2
theorem Fin_17 {h : am_H} {J L : Nat → Nat → Int32} {lab : Nat → Nat} {nn cc : Nat} (hF : Fin h J L lab nn cc) : Fin h (am_u2 J 1 7 (J 1 7 + nI 1)) (am_u2 L 73 8 (L 73 8 + nI 1)) lab nn cc := by
  obtain ⟨⟨a, b, c, d⟩, ho, e17, e4⟩ := hF
  have of : onf h J h (am_u2 J 1 7 (J 1 7 + nI 1)) lab 0 := ⟨fun q x _ _ => ⟨fr_u (by omega), fun _ => rfl⟩, fun _ _ => rfl, fun _ => rfl, fun _ => rfl⟩
  refine ⟨⟨a, ty_w b (tw_u (by decide) (by decide) (by decide)), ty_w c (tw_a (by decide) (by decide) (by decide)), am_W_lo d of (fun _ => rfl) rfl rfl⟩, ?_, by rw [fr_u (by decide), u2_ne (by decide)]; exact e17, by rw [u2_ne (by decide), fr_u (by decide)]; exact e4⟩
  obtain ⟨⟨r1, r2, r3, r4⟩, r5, r6, r7, r8, r9, r10, r11, r12⟩ := ho
  refine ⟨⟨rl_C_cg2 r1 (fun q x y => fr_u (by omega)) (fun q x y => fr_u (by omega)), rl_I_cg2 r2 (fun q x y => fr_u (by omega)) (fun q x y => fr_u (by omega)) (by rw [fr_u (by decide)]) (u2_ne (by decide)), rl_B_cg2 r3 (fun q x y => fr_u (by omega)) (fun q x y => fr_u (by omega)), rl_M_cg r4 (by rw [fr_u (by decide)]) (fun q x y => fr_u (by omega)) (fun q x y => fr_u (by omega))⟩, rl_N_cg2 r5 (fun q x y => fr_u (by omega)) (u2_ne (by decide)) (fr_u (by decide)), opv_cg r6 (fr_u (by decide)) (fr_u (by decide)), r7, rl_K_cg r8 (fun _ => rfl) (fun k e hk hp => ?_) (fun q hq => fr_u (by omega)) (fr_u (by decide)), by rw [fr_u (by decide), u2_ne (by decide)]; exact r9, by rw [am_u2_s, am_u2_s, r10], by rw [fr_u (by decide), r11]; exact congrArg nI (cn_congr 12 (fun c _ => by rw [jn_cg (fr_u (by decide))])), fun hc q x y => by rw [fr_u (by omega), fr_u (by omega)]; exact r12 hc q x y⟩
  obtain ⟨x1, x2, x3, u, f1, f2, f3, f4, f5, f6⟩ := d.1 k hk e hp
  refine ⟨fr_u (by omega), fun w hw => ⟨hw, ?_⟩⟩
  rw [f1] at hw
  have ev : u = w := Option.some.inj hw
  rw [← ev]
  exact fr_u (by omega)
/-- the class's store as a call begins -/
theorem Wnt_0 {h : am_H} {J J0 L : Nat → Nat → Int32} {lab : Nat → Nat} {nn cc g x y' : Nat} {y : Int32} (hF : Fin h J L lab nn cc) (hg : g < 5) (hx : x < jn J 10 5) (hy : jn L 49 g = 2 → y = nI y' ∧ y' < jn J 10 5) (hy12 : y' < 12) (ty : am_ty2 J0) (eJ : J0 = M_want (am_u2 (am_u2 (am_u2 (am_u2 J 33 8 (nI 0)) 33 9 (nI 0)) 33 10 (nI 0)) 33 11 (nI 0)) (nI g) x y) : Wnt h J0 (Rc_0 L) lab 0 0 0 0 nn cc g x y' := by
  obtain ⟨⟨a, b, c, d⟩, ho, e17, e4⟩ := hF
  have x12 : x < 12 := by have := (ty_f b (q := 10) (j := 5) (B := 13) (by decide) (by decide)).2; omega
  have cq : ∀ q, ¬ q = 33 → J0 q = J q := fun q hq => by rw [eJ]; unfold M_want; rw [fr_u hq, fr_u hq, fr_u hq, fr_u hq, fr_u hq, fr_u hq, fr_u hq]
  have c33 : ∀ j, ¬ j = 8 → ¬ j = 9 → ¬ j = 10 → ¬ j = 11 → ¬ j = 13 → ¬ j = 14 → ¬ j = 15 → J0 33 j = J 33 j := fun j x1 x2 x3 x4 x5 x6 x7 => by rw [eJ]; unfold M_want; rw [u2_ne x7, u2_ne x6, u2_ne x5, u2_ne x4, u2_ne x3, u2_ne x2, u2_ne x1]
  have d8 : J0 33 8 = nI 0 := by rw [eJ]; unfold M_want; rw [u2_ne (by decide), u2_ne (by decide), u2_ne (by decide), u2_ne (by decide), u2_ne (by decide), u2_ne (by decide), am_u2_s]
  have d9 : J0 33 9 = nI 0 := by rw [eJ]; unfold M_want; rw [u2_ne (by decide), u2_ne (by decide), u2_ne (by decide), u2_ne (by decide), u2_ne (by decide), am_u2_s]
  have d10 : J0 33 10 = nI 0 := by rw [eJ]; unfold M_want; rw [u2_ne (by decide), u2_ne (by decide), u2_ne (by decide), u2_ne (by decide), am_u2_s]
  have d11 : J0 33 11 = nI 0 := by rw [eJ]; unfold M_want; rw [u2_ne (by decide), u2_ne (by decide), u2_ne (by decide), am_u2_s]
  have d13 : J0 33 13 = nI g := by rw [eJ]; unfold M_want; rw [u2_ne (by decide), u2_ne (by decide), am_u2_s]
  have d14 : J0 33 14 = nI x := by rw [eJ]; unfold M_want; rw [u2_ne (by decide), am_u2_s]
  have d15 : J0 33 15 = y := by rw [eJ]; unfold M_want; rw [am_u2_s]
  have k1 : ∀ q, ¬ q = 33 → am_u2 J0 33 13 (-1) q = J q := fun q hq => by rw [fr_u hq, cq q hq]
  have of : onf h J h (am_u2 J0 33 13 (-1)) lab 0 := ⟨fun q x _ _ => ⟨k1 q (by omega), fun _ => rfl⟩, fun _ _ => rfl, fun _ => rfl, fun _ => rfl⟩
  have l36 : ∀ q, ¬ q = 36 → Rc_0 L q = L q := fun q hq => by unfold Rc_0; rw [fr_u hq, fr_u hq, fr_u hq]
  have z0 : ∀ (A : Nat → Nat → Int32) q j, A q j = nI 0 → jn A q j = 0 := fun A q j e => by unfold jn; rw [e]; rfl
  have m8 : Rc_0 L 36 38 = nI 0 := by unfold Rc_0; rw [u2_ne (by decide), u2_ne (by decide), am_u2_s]
  have m9 : Rc_0 L 36 39 = nI 0 := by unfold Rc_0; rw [u2_ne (by decide), am_u2_s]
  have m41 : Rc_0 L 36 41 = nI 0 := by unfold Rc_0; rw [am_u2_s]
  have m37 : Rc_0 L 36 37 = L 36 37 := by unfold Rc_0; rw [u2_ne (by decide), u2_ne (by decide), u2_ne (by decide)]
  have tyL : am_ty2 (Rc_0 L) := by
    unfold Rc_0
    exact ty_w (ty_w (ty_w c (tw_f (B := 13) (by decide) (by decide) (by decide) (by decide))) (tw_f (B := 321) (by decide) (by decide) (by decide) (by decide))) (tw_f (B := 301) (by decide) (by decide) (by decide) (by decide))
  have cL : chL L (Rc_0 L) := ⟨fun q _ e _ => l36 q e, m37, fun j _ _ => by rw [l36 73 (by decide)]⟩
  have v33 : ∀ j, ¬ j = 13 → am_u2 J0 33 13 (-1) 33 j = J0 33 j := fun j hj => u2_ne hj
  have h1 := ho.1.2.2.1
  have h2 := ho.1.2.2.2.1
  have x10 : jn J0 10 5 = jn J 10 5 := jn_cg (cq 10 (by decide))
  refine ⟨⟨⟨a, ty_w ty (tw_u (by decide) (by decide) (by decide)), tyL, am_W_lo d of (fun _ => rfl) rfl rfl⟩, ⟨z0 _ _ _ (by rw [v33 8 (by decide)]; exact d8), Nat.zero_le _, z0 _ _ _ (by rw [v33 9 (by decide)]; exact d9), z0 _ _ _ m9, fun q => absurd q (by decide)⟩, fun l hl => absurd hl (Nat.not_lt_zero l), ⟨rfl, rfl, rfl⟩, ⟨fun _ => by rw [l36 73 (by decide), v33 16 (by decide), c33 16 (by decide) (by decide) (by decide) (by decide) (by decide) (by decide) (by decide)]; exact e4, fun f q => absurd q (by decide)⟩, ⟨by rw [v33 11 (by decide)]; exact d11, am_u2_s, by rw [z0 _ _ _ m41]; exact z0 _ _ _ (by rw [v33 10 (by decide)]; exact d10), by rw [v33 17 (by decide), c33 17 (by decide) (by decide) (by decide) (by decide) (by decide) (by decide) (by decide), l36 73 (by decide)]; exact e17⟩, ?_⟩, Oth_cg ho d of ho.2.2.2.1 (fun q _ e => k1 q e) cL, z0 _ _ _ m8, Or.inl rfl, ⟨d13, hg⟩, ⟨by unfold jn; rw [d14]; exact nI_clamp (by omega), by rw [x10]; exact hx⟩, fun q => ?_, hy12, by rw [l36 73 (by decide), c33 16 (by decide) (by decide) (by decide) (by decide) (by decide) (by decide) (by decide)]; exact e4⟩
  · rw [k1 28 (by decide), k1 29 (by decide), k1 30 (by decide), k1 16 (by decide), k1 21 (by decide), l36 57 (by decide), l36 55 (by decide), l36 56 (by decide), l36 49 (by decide), l36 54 (by decide)]
    unfold rl_B at h1
    exact ⟨h1.1, h1.2.1, h1.2.2, h2.1, h2.2.2.2.2⟩
  · rw [jn_cg (l36 49 (by decide))] at q
    rw [d15, x10]
    exact hy q
/-- the class's call, beside the reference's -/
theorem w_call {d : am_D} {h : am_H} {J L : Nat → Nat → Int32} {lab : Nat → Nat} {nn cc : Nat} {g x y : Int32} (hF : Fin h J L lab nn cc) (hd : 7 ≤ d.1) (hw : 196 ≤ d.2) : am_wp d 14 0 [some (.ref 1), some (.int g), some (.int x), some (.int y), none, none, none] [] (am_si h J) (fun r hh => ∃ h' J' v L' lab' nn', nn' ≤ nn + 42200 ∧ r = some (.long v) ∧ hh = am_si h' J' ∧ Rcal L g x y v L' ∧ Fin h' J' L' lab' nn' cc) := by
  have hB := hF.1.1
  have ty := hF.1.2.1
  have hI := hF.2.1.1.2.1
  have hM := hF.2.1.1.2.2.2
  have e16 : ∀ j, jn L 49 j = jn J 16 j := fun j => jn_e hM.1.1
  have eI : ∀ i, R_inst L i = I_there J i := fun i => rl_in hI
  have bad : ¬ R_ok L g x y → ∃ h' J' v L' lab' nn', nn' ≤ nn + 42200 ∧ some (Value.long (Int64.ofInt 1099511627774)) = some (.long v) ∧ am_si h J = am_si h' J' ∧ Rcal L g x y v L' ∧ Fin h' J' L' lab' nn' cc := fun no => ⟨h, J, _, L, lab, nn, Nat.le_add_right nn _, rfl, rfl, Or.inl ⟨no, rfl, rfl⟩, hF⟩
  have go : ∀ (yv : Int32) (y' : Nat) (l4 : Int32), R_ok L g x y → ((jn L 49 (jx g) = 2 → y' = jx y) ∧ (¬ jn L 49 (jx g) = 2 → y' = jx x)) → (jn L 49 (jx g) = 2 → yv = nI y' ∧ y' < jn J 10 5) → y' < 12 → am_wp d 14 65 [some (.ref 1), some (.int (nI (jx g))), some (.int (nI (jx x))), some (.int yv), some (.int l4), none, none] [.int yv, .int (nI (jx x)), .int (nI (jx g)), .ref 33] (am_si h J) (fun r hh => ∃ h' J' v L' lab' nn', nn' ≤ nn + 42200 ∧ r = some (.long v) ∧ hh = am_si h' J' ∧ Rcal L g x y v L' ∧ Fin h' J' L' lab' nn' cc) := fun yv y' l4 ok hy1 hy2 hy12 => by
    have gx := jx_eq (by decide) ok.1
    have xx := I_there_r ty (by rw [← eI]; exact ok.2.2.1)
    have b38 : jn (Rc_0 L) 36 38 = 0 := by unfold Rc_0 jn; rw [u2_ne (by decide), u2_ne (by decide), am_u2_s]; rfl
    have b49 : jn (Rc_0 L) 49 (jx g) = jn L 49 (jx g) := jn_cg (by unfold Rc_0; rw [fr_u (by decide), fr_u (by decide), fr_u (by decide)])
    have b41 : jn (Rc_0 L) 36 41 = 0 := by unfold Rc_0 jn; rw [am_u2_s]; rfl
    have eR : R_en (Rc_0 L) (jx g) (jx x) y' = R_enter (Rc_0 L) (jx g) (jx x) y' := by unfold R_en; rw [am_ite_f (by rw [b49]; exact ok.2.1), am_ite_f (by rw [b38]; decide)]
    refine j_call (ml := 6) k14_65 rfl (show 0 < d.1 by omega) (show 19 + 6 ≤ d.2 by omega) ⟨Nat.le_of_ble_eq_true rfl, Nat.le_of_ble_eq_true rfl, am_obB hB rfl, Nat.le_of_ble_eq_true rfl⟩ rfl (rest := []) rfl (l_M_run0 (Q := Qr (R_enter (Rc_0 L) (jx g) (jx x) y').1 (R_enter (Rc_0 L) (jx g) (jx x) y').2 (nn + 42200) cc) hB ty (nI (jx g)) (jx x) yv xx.2.2 (show 6 ≤ d.1 - 1 by omega) (show 145 ≤ d.2 - (19 + 6) by omega) (fun ty0 => ?_)) (fun r hh hq => ?_)
    · have g9 := (run_M (d := (d.1 - 1, d.2 - (19 + 6))) (gI := nI (jx g)) (xI := nI (jx x)) (yI := yv) (show 6 ≤ d.1 - 1 by omega) (show 171 ≤ d.2 - (19 + 6) by omega) 42200).2 0 h _ (Rc_0 L) lab 0 0 0 0 nn cc (jx g) (jx x) y' (by decide) (Wnt_0 hF (Nat.lt_succ_of_le gx.2) xx.2.1 hy2 hy12 ty0 rfl) (by rw [b41]; decide)
      rw [eR] at g9
      exact g9
    · obtain ⟨h', J', v, n, g', L1, lab', nn', nb, rfl, rfl, re, F', out⟩ := hq
      show am_wp _ _ _ [some (.ref 1), some (.int (nI (jx g))), some (.int (nI (jx x))), some (.int yv), some (.int l4), none, none] [.long v] _ _
      refine wp_L (L := [some (.ref 1), some (.int (nI (jx g))), some (.int (nI (jx x))), some (.int yv), none, none, none]) ⟨Or.inr rfl, Or.inr rfl, Or.inr rfl, Or.inr rfl, Or.inl rfl, Or.inl rfl, Or.inl rfl, True.intro⟩ ?_
      refine l_D_c1 F'.1.1 F'.1.2.1 v _ _ _ hd (by omega) (fun z _ => ?_) (fun z _ => ?_)
      · rcases out with ⟨_, e⟩ | ⟨e1, e2, _⟩
        · rw [e] at z; exact absurd z w_err_i
        · exact ⟨h', J', v, L1, lab', nn', nb, rfl, rfl, Or.inr ⟨ok, y', n, g', L1, hy1, re, Or.inr ⟨e1, e2, rfl⟩⟩, F'⟩
      · rcases out with ⟨e1, e⟩ | ⟨e1, e2, _⟩
        · exact ⟨h', _, v, _, lab', nn', nb, rfl, rfl, Or.inr ⟨ok, y', n, g', L1, hy1, re, Or.inl ⟨by rw [e1]; decide, e, rfl⟩⟩, Fin_17 F'⟩
        · rw [e2] at z; exact absurd w_err_e z
  refine l_D_c0 hB ty g x y hd (by omega) (fun _ a _ => bad (fun ok => ok.2.1 (by rw [e16]; exact a))) (fun _ _ a _ => bad (fun ok => a (by rw [← eI]; exact ok.2.2.1))) (fun a b c e _ => ?_) (fun a b c e f _ => ?_) (fun _ _ _ e f _ => bad (fun ok => f (by rw [← eI]; exact ok.2.2.2 (by rw [e16]; exact e)))) (fun a _ => bad (fun ok => a ok.1))
  · have ne : ¬ jn L 49 (jx g) = 2 := by rw [e16]; exact e
    have xx := I_there_r ty c
    exact go y (jx x) _ ⟨a, by rw [e16]; exact b, by rw [eI]; exact c, fun q => absurd q ne⟩ ⟨fun q => absurd q ne, fun _ => rfl⟩ (fun q => absurd q ne) xx.2.2
  · have ee : jn L 49 (jx g) = 2 := by rw [e16]; exact e
    have yy := I_there_r ty f
    exact go (nI (jx y)) (jx y) _ ⟨a, by rw [e16]; exact b, by rw [eI]; exact c, fun _ => by rw [eI]; exact f⟩ ⟨fun _ => rfl, fun q => absurd ee q⟩ (fun _ => ⟨rfl, yy.2.1⟩) yy.2.2
