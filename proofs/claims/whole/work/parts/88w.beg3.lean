/-! A generic begins: what comes of it. -/
def eGo (L : Nat → Nat → Int32) (N nn cc g x y : Nat) (h' : am_H) (J' : Nat → Nat → Int32) : Prop := ∃ L' lab' op' tp' lv' c' nn', nn' ≤ nn + 1 ∧ R_en L g x y = (nI 1, L') ∧ Mst h' J' L' lab' op' tp' lv' c' ∧ Oth h' J' L' nn' cc ∧ c' + 70 * (300 - jn L' 36 41) < N ∧ 0 < op'
def eEr (L : Nat → Nat → Int32) (nn cc g x y : Nat) (h' : am_H) (J' : Nat → Nat → Int32) : Prop := ∃ L' lab' nn', nn' ≤ nn + 1 ∧ R_en L g x y = (nI 0, L') ∧ Fin h' J' L' lab' nn' cc ∧ L' 36 40 = J' 33 11 ∧ ¬ J' 33 11 = 0
def Qe (L : Nat → Nat → Int32) (N nn cc g x y : Nat) : Option Value → am_H → Prop := fun r hh => r = none ∧ ∃ h' J', hh = am_si h' J' ∧ (eGo L N nn cc g x y h' J' ∨ eEr L nn cc g x y h' J')
theorem b_err {h h1 h2 : am_H} {J J1 J2 L L2 : Nat → Nat → Int32} {lab lab1 lab2 : Nat → Nat} {op tp lv c nn cc w sp g x e u key : Nat} {yi ow er : Int32} (hM : Mst h J L lab op tp lv c) (hO : Oth h J L nn cc) (hlv : lv < 12) (J74 : ∀ q, q < 74 → J1 q = J q) (E : Efo h1 J1 L2 lab1 lv sp g x yi ow key cc h2 J2 lab2 e u) (lw : lwr L L2 lv) (hw : lab2 w = 100 + lv) (h77 : 74 ≤ w) (h4 : L 73 4 = J 33 16) (ty : am_ty2 (am_u2 J2 33 11 er)) (tyL : am_ty2 (am_u2 (en3 ow key L2) 36 40 er)) : Fin (am_wP h2 w 1 (some e)) (am_u2 J2 33 11 er) (am_u2 (en3 ow key L2) 36 40 er) lab2 nn cc := by
  obtain ⟨⟨q1, q2, q3, q4⟩, ⟨q5, q6, q7, q8, q9⟩, q10, ⟨q11, q12, q13, q14⟩, q15, q16, q17⟩ := E
  obtain ⟨b1, b2, b3⟩ := en3_o (ow := ow) (key := key) (L := L2)
  have j33 : ∀ j, J2 33 j = J 33 j := fun j => by rw [q11 33 (by decide) (by decide) (by decide) (by decide), J74 33 (by decide)]
  have l73 : ∀ j, ¬ j = 5 → en3 ow key L2 73 j = L 73 j := fun j hj => by rw [b2 j hj, lw.1 73 (by decide) (by decide)]
  refine ⟨⟨B_wP q1 (Or.inl h77), ty, tyL, am_W_w q3 hw hlv (fun q a b => fr_u (by omega)) h77⟩, ?_, ?_, ?_⟩
  · refine Oth_cg2 hO (am_R_w q4 h77) (fun q a b1 b2 b3 b4 => by rw [fr_u b4, q11 q a b1 b2 b3, J74 q a]) (by rw [fr_u (by decide), fr_u (by decide)]; exact q14) (rl_K_w q13 q3 hw hlv (fun q _ a => fr_u a) h77 (fr_u (by decide))) (fun q a b => by rw [fr_u (by omega), b1 q (by omega) (by omega), lw.1 q (by omega) (by omega)]) (by rw [fr_u (by decide), b1 72 (by decide) (by decide), lw.1 72 (by decide) (by decide)]) (by rw [u2_ne (by decide), b1 36 (by decide) (by decide), lw.1 36 (by decide) (by decide)]) (fun j hj => by rw [fr_u (by decide)]; exact l73 j (by omega)) (fun q a => by rw [fr_u (by omega), b1 q (by omega) (by omega), lw.1 q (by omega) (by omega)])
  · rw [u2_ne (by decide), fr_u (by decide), j33, l73 9 (by decide)]
    exact hM.2.2.2.2.2.1.2.2.2
  · rw [fr_u (by decide), u2_ne (by decide), j33, l73 4 (by decide)]
    exact h4
/-- the store when a level has begun -/
def bJ (J : Nat → Nat → Int32) (w g : Nat) : Nat → Nat → Int32 := am_u2 (am_u2 (am_u2 (am_u2 (am_u2 J 33 8 (nI ((jn J 33 8) + 1))) w 2 (nI (jn J 16 g))) w 3 (nI (jn J 33 14))) w 4 (J 33 15)) w 5 (nI (jn J 33 9))
theorem bJ_o {J : Nat → Nat → Int32} {w g : Nat} (hw : 74 ≤ w) : (∀ q, ¬ q = 33 → ¬ q = w → bJ J w g q = J q) ∧ bJ J w g 33 8 = nI ((jn J 33 8) + 1) ∧ (∀ j, ¬ j = 8 → bJ J w g 33 j = J 33 j) ∧ bJ J w g w 2 = nI (jn J 16 g) ∧ bJ J w g w 3 = nI (jn J 33 14) ∧ bJ J w g w 4 = J 33 15 ∧ bJ J w g w 5 = nI (jn J 33 9) := by
  have n : ¬ 33 = w := by omega
  unfold bJ
  refine ⟨fun q a b => by rw [fr_u b, fr_u b, fr_u b, fr_u b, fr_u a], by rw [fr_u n, fr_u n, fr_u n, fr_u n, am_u2_s], fun j a => by rw [fr_u n, fr_u n, fr_u n, fr_u n, u2_ne a], by rw [u2_ne (by decide), u2_ne (by decide), u2_ne (by decide), am_u2_s], by rw [u2_ne (by decide), u2_ne (by decide), am_u2_s], by rw [u2_ne (by decide), am_u2_s], am_u2_s⟩
theorem b_go {h h1 h2 h' : am_H} {J J1 J2 J' L L2 : Nat → Nat → Int32} {lab lab1 lab2 lab' : Nat → Nat} {op tp lv c nn cc w sp g x y e u key N f place : Nat} {yi ow : Int32} (hM : Mst h J L lab op tp lv c) (hO : Oth h J L nn cc) (hlv : lv < 12) (J74 : ∀ q, q < 74 → J1 q = J q) (E : Efo h1 J1 L2 lab1 lv sp g x yi ow key cc h2 J2 lab2 e u) (lw : lwr L L2 lv) (hP : (∀ l, l < lv → lvR h2 J2 L l) ∧ stk h2 J2 L op tp lv c) (hw : am_P h2 34 lv = some w ∧ am_ob h2 w 8 ∧ 74 ≤ w ∧ lab2 w = 100 + lv) (hfr : ∀ i b, i < op → am_P h 35 i = some b → am_P h2 35 i = some b ∧ J2 b = J b) (hsp : am_P h2 w 0 = some e ∨ ∃ k, k < 720 ∧ am_P h2 23 k = some e ∧ J2 e 5 = J2 24 (k / 144)) (h38 : jn L 36 38 = lv) (hg : g < 5) (hx : jn J 33 14 = x ∧ x < jn J 10 5) (hy : jn L 49 g = 2 → J 33 15 = nI y ∧ y < jn J 10 5) (hcl : op = 0 ∨ ∃ b, am_P h 35 (op - 1) = some b ∧ J b 5 = nI 1 ∧ ¬ jn L 65 (tp - 1) = 9) (h4 : L 73 4 = J 33 16) (s : jn J2 e 2 = s_bf L2 lv ∧ jn J2 e 3 = s_pr L2 lv ∧ jn J2 e 4 = s_af L2 lv ∧ jn J2 e 1 = s_sz L2 lv ∧ ∀ p, p < s_sz L2 lv → jn J2 u p = jn L2 59 ((16 * ((4 * lv) + kdp L2 lv p)) + plp L2 lv p)) (s16 : s_sz L2 lv ≤ 16) (s0 : 0 < mk L2 lv 0) (ne : ¬ e = w ∧ ¬ u = w ∧ 74 ≤ e ∧ 74 ≤ u) (tyM : am_ty2 (bJ J2 w g)) (hB' : am_B h') (ty : am_ty2 J') (hW' : am_W h' J' lab') (hR' : am_R h') (o : opn (am_wP h2 w 1 (some e)) (bJ J2 w g) h' J' lab2 lab' op f w e u place) (hpl : (jn J2 e 2 = 0 ∧ place = jn J2 e 3) ∨ (¬ jn J2 e 2 = 0 ∧ place = 0)) (tyL4 : am_ty2 (en4 lv g x y (en3 ow key L2))) (tyL : am_ty2 (R_begin (en4 lv g x y (en3 ow key L2)) 3 0)) (eR : R_en L g x y = (nI 1, R_begin (en4 lv g x y (en3 ow key L2)) 3 0)) (hN : c + 70 * (300 - jn L 36 41) + 69 < N) : eGo L N nn cc g x y h' J' := by
  obtain ⟨⟨q1, q2, q3, q4⟩, ⟨q5, q6, q7, q8, q9⟩, q10, ⟨q11, q12, q13, q14⟩, q15, q16, q17⟩ := E
  obtain ⟨b1, b2, b3⟩ := en3_o (ow := ow) (key := key) (L := L2)
  obtain ⟨a1, a2, a3, a4, a5, a6⟩ := en4_o (lv := lv) (g := g) (x := x) (y := y) (L := en3 ow key L2)
  have lo4 := lwr_L (tp := tp) (g := g) (x := x) (y := y) (key := key) (ow := ow) lw
  obtain ⟨j1, j2, j3, j4, j5, j6, j7⟩ := bJ_o (J := J2) (g := g) hw.2.2.1
  have e58 : en4 lv g x y (en3 ow key L2) 58 = en3 ow key L2 58 := a1 58 (by decide) (by decide) (by decide) (by decide)
  have e735 : en4 lv g x y (en3 ow key L2) 73 = en3 ow key L2 73 := a1 73 (by decide) (by decide) (by decide) (by decide)
  have c : ∀ q, ¬ q = 36 → ¬ q = 61 → ¬ q = 62 → ¬ q = 63 → ¬ q = 58 → ¬ q = 73 → en4 lv g x y (en3 ow key L2) q = L2 q := fun q x1 x2 x3 x4 x5 x6 => by rw [a1 q x1 x2 x3 x4, b1 q x5 x6]
  have d : ∀ q, ¬ q = 36 → ¬ q = 61 → ¬ q = 62 → ¬ q = 63 → ¬ q = 58 → ¬ q = 73 → ¬ q = 59 → ¬ q = 60 → en4 lv g x y (en3 ow key L2) q = L q := fun q x1 x2 x3 x4 x5 x6 x7 x8 => by rw [c q x1 x2 x3 x4 x5 x6, lw.1 q x7 x8]
  have d36 : ∀ j, ¬ j = 38 → en4 lv g x y (en3 ow key L2) 36 j = L 36 j := fun j hj => by rw [a2 j hj, b1 36 (by decide) (by decide), lw.1 36 (by decide) (by decide)]
  have d73 : ∀ j, ¬ j = 5 → en4 lv g x y (en3 ow key L2) 73 j = L 73 j := fun j hj => by rw [e735, b2 j hj, lw.1 73 (by decide) (by decide)]
  rw [← e58] at b3
  have rK : rl_K (am_wP h2 w 1 (some e)) (bJ J2 w g) (en4 lv g x y (en3 ow key L2)) cc := rl_K_w q13 q3 hw.2.2.2 hlv (fun q x1 x2 => j1 q x2 x1) hw.2.2.1 e58
  rw [← e735] at q14
  have c60 := c 60 (by decide) (by decide) (by decide) (by decide) (by decide) (by decide)
  have c59 := c 59 (by decide) (by decide) (by decide) (by decide) (by decide) (by decide)
  have d49 := d 49 (by decide) (by decide) (by decide) (by decide) (by decide) (by decide) (by decide) (by decide)
  have e38 : jn (en4 lv g x y (en3 ow key L2)) 36 38 = lv + 1 := by unfold jn; rw [a3]; exact nI_clamp (by omega)
  generalize en4 lv g x y (en3 ow key L2) = L4 at *
  generalize en3 ow key L2 = L3 at *
  have mkE : ∀ k, mk L4 lv k = mk L2 lv k := fun k => jn_cg c60
  have sE : s_bf L4 lv = s_bf L2 lv ∧ s_pr L4 lv = s_pr L2 lv ∧ s_af L4 lv = s_af L2 lv ∧ s_sz L4 lv = s_sz L2 lv := by
    unfold s_bf s_pr s_af s_sz
    rw [mkE, mkE, mkE, mkE]
    exact ⟨rfl, rfl, rfl, rfl⟩
  have j33 : ∀ j, J2 33 j = J 33 j := fun j => by rw [q11 33 (by decide) (by decide) (by decide) (by decide), J74 33 (by decide)]
  have jlo : ∀ q, q < 74 → ¬ q = 22 → ¬ q = 25 → ¬ q = 26 → ¬ q = 33 → bJ J2 w g q = J q := fun q x1 x2 x3 x4 x5 => by rw [j1 q x5 (by have := hw.2.2.1; omega), q11 q x1 x2 x3 x4, J74 q x1]
  have je : bJ J2 w g e = J2 e := j1 e (by have := ne.2.2.1; omega) ne.1
  have ju : bJ J2 w g u = J2 u := j1 u (by have := ne.2.2.2; omega) ne.2.1
  have i38 : jn J2 33 8 = lv := by have g := hM.2.1.1; unfold jn at g ⊢; rw [j33]; exact g
  have i39 : jn J2 33 9 = op := by have g := hM.2.1.2.2.1; unfold jn at g ⊢; rw [j33]; exact g
  have i314 : jn J2 33 14 = x := by have g := hx.1; unfold jn at g ⊢; rw [j33]; exact g
  have i16 : jn J2 16 g = jn L 49 g := by rw [jn_e hO.1.2.2.2.1.1]; unfold jn; rw [q11 16 (by decide) (by decide) (by decide) (by decide), J74 16 (by decide)]
  have sop := stk_op hP.1 hP.2
  have w5 : jn (bJ J2 w g) w 5 = op := by unfold jn; rw [j7, i39]; exact nI_clamp (by omega)
  have e10 : jn (bJ J2 w g) 10 5 = jn J 10 5 := jn_cg (jlo 10 (by decide) (by decide) (by decide) (by decide) (by decide))
  have b10 : jn J 10 5 < 13 := (ty_f hM.1.2.1 (q := 10) (j := 5) (B := 13) (by decide) (by decide)).2
  have x61 : jn L4 61 lv = x := by unfold jn; rw [a4.1]; exact nI_clamp (by omega)
  have x63 : jn L4 63 lv = g := by unfold jn; rw [a6.1]; exact nI_clamp (by omega)
  have p49 : jn L4 49 g = jn L 49 g := jn_cg d49
  have T3 := Pk_tr q3 (by omega) (by omega) hP.1 hP.2 (h' := am_wP h2 w 1 (some e)) (J' := bJ J2 w g) (L' := L4) lo4.1 lo4.2 (by rw [j1 10 (by decide) (by have := hw.2.2.1; omega)]) (j1 24 (by decide) (by have := hw.2.2.1; omega)) (j1 28 (by decide) (by have := hw.2.2.1; omega)) (fun k a z => by rw [wP_o (by have := hw.2.2.1; omega)]; exact z) (fun l _ => wP_o (by have := hw.2.2.1; omega)) (fun i _ => wP_o (by have := hw.2.2.1; omega)) (fun q x1 x2 ha => by
    have nw : ¬ q = w := fun z => by
      have lw' := hw.2.2.2
      rw [← z] at lw'
      unfold act at ha
      rcases ha with a | a | ⟨l, a, b⟩ | ⟨k, a, b, _⟩
      · omega
      · omega
      · omega
      · omega
    exact ⟨j1 q (by omega) nw, fun j => wP_o nw⟩)
  have key := t_new (h := am_wP h2 w 1 (some e)) (J := bJ J2 w g) (L := L4) (lab := lab2) (B_wP q1 (Or.inl hw.2.2.1)) tyM tyL4 (am_W_w q3 hw.2.2.2 hlv (fun q x1 x2 => j1 q (by omega) x2) hw.2.2.1) T3.1 T3.2 (w := w) (e := e) (u := u) (by rw [wP_o (by have := hw.2.2.1; omega)]; exact hw.1) ⟨wP_s, by rw [wP_o ne.1]; exact q15, by
      rcases hsp with z | ⟨k, z1, z2, z3⟩
      · left; rw [wP_j (by decide)]; exact z
      · right; exact ⟨k, z1, by rw [wP_o (by have := hw.2.2.1; omega)]; exact z2, by rw [je, j1 24 (by decide) (by have := hw.2.2.1; omega)]; exact z3⟩, by
      rw [jn_cg je, jn_cg je, jn_cg je, jn_cg je, sE.1, sE.2.1, sE.2.2.1, sE.2.2.2, mkE]
      exact ⟨s.1, s.2.1, s.2.2.1, s.2.2.2.1, s16, s0⟩, fun p hp => by
      rw [sE.2.2.2] at hp
      rw [jn_cg ju, jn_cg c59, show kdp L4 lv p = kdp L2 lv p by unfold kdp; rw [sE.1, sE.2.1, sE.2.2.1], show plp L4 lv p = plp L2 lv p by unfold plp; rw [sE.1, sE.2.1, sE.2.2.1, sE.2.2.2]]
      exact s.2.2.2.2 p hp, by rw [x63, p49, j4, i16], by rw [j5, i314, a4.1], by rw [x61, e10]; exact hx.2, fun z => by
      rw [x63, p49] at z
      have hy9 := hy z
      have x62 : jn L4 62 lv = y := by unfold jn; rw [a5.1]; exact nI_clamp (by omega)
      rw [x62, e10, j6, a5.1, j33]
      exact hy9, by rw [w5, j7, i39], by rw [w5]; exact sop.1⟩ w5 hlv (by unfold jn; rw [j2, i38]; exact nI_clamp (by omega)) e38 (by have g := hM.2.1.2.2.2.1; unfold jn at g ⊢; rw [d36 39 (by decide)]; exact g) ⟨by rw [j3 11 (by decide), j33]; exact hM.2.2.2.2.2.1.1, by rw [j3 13 (by decide), j33]; exact hM.2.2.2.2.2.1.2.1, by have g := hM.2.2.2.2.2.1.2.2.1; unfold jn at g ⊢; rw [j3 10 (by decide), j33, d36 41 (by decide)]; exact g, by rw [j3 17 (by decide), j33, d73 9 (by decide)]; exact hM.2.2.2.2.2.1.2.2.2⟩ (by
      rw [jlo 28 (by decide) (by decide) (by decide) (by decide) (by decide), jlo 29 (by decide) (by decide) (by decide) (by decide) (by decide), jlo 30 (by decide) (by decide) (by decide) (by decide) (by decide), jlo 16 (by decide) (by decide) (by decide) (by decide) (by decide), jlo 21 (by decide) (by decide) (by decide) (by decide) (by decide), d49, d 57 (by decide) (by decide) (by decide) (by decide) (by decide) (by decide) (by decide) (by decide), d 55 (by decide) (by decide) (by decide) (by decide) (by decide) (by decide) (by decide) (by decide), d 56 (by decide) (by decide) (by decide) (by decide) (by decide) (by decide) (by decide) (by decide), d 54 (by decide) (by decide) (by decide) (by decide) (by decide) (by decide) (by decide) (by decide)]
      exact hM.2.2.2.2.2.2) (by
      rcases hcl with z | ⟨b, z1, z2, z3⟩
      · exact Or.inl z
      · by_cases z0 : op = 0
        · exact Or.inl z0
        · right
          obtain ⟨y1, y2⟩ := hfr (op - 1) b (by omega) z1
          have gb := q3.2.2 (op - 1) (by omega) b y1
          have nb : ¬ b = w := fun z => by have l1 := gb.1; have l2 := hw.2.2.2; rw [z] at l1; omega
          exact ⟨b, by rw [wP_o (by have := hw.2.2.1; omega)]; exact y1, by rw [j1 b (by have := gb.2.1; omega) nb, y2]; exact z2, by rw [jn_cg (d 65 (by decide) (by decide) (by decide) (by decide) (by decide) (by decide) (by decide) (by decide))]; exact z3⟩) (by rw [d73 4 (by decide), j3 16 (by decide), j33]; exact h4) hB' ty hW' o (by rw [jn_cg je, jn_cg je]; exact hpl) rfl tyL
  obtain ⟨k1, k2, k3, k4⟩ := key
  refine ⟨_, lab', op + 1, tp + 1, lv + 1, _, nn, Nat.le_succ nn, eR, k1, ?_, ?_, Nat.succ_pos op⟩
  · have O4 : Oth (am_wP h2 w 1 (some e)) (bJ J2 w g) L4 nn cc := Oth_cg2 hO (am_R_w q4 hw.2.2.1) jlo (by rw [j1 22 (by decide) (by have := hw.2.2.1; omega)]; exact q14) rK (fun q x1 x2 => d q (by omega) (by omega) (by omega) (by omega) (by omega) (by omega) (by omega) (by omega)) (d 72 (by decide) (by decide) (by decide) (by decide) (by decide) (by decide) (by decide) (by decide)) (d36 37 (by decide)) (fun j hj => d73 j (by omega)) (fun q a => d q (by omega) (by omega) (by omega) (by omega) (by omega) (by omega) (by omega) (by omega))
    exact Oth_cg O4 (am_W_w q3 hw.2.2.2 hlv (fun q x1 x2 => j1 q (by omega) x2) hw.2.2.1) (onf_mono o.1 (Nat.zero_le op)) hR' o.2.2.2.1.1 k3
  · rw [k4]
    have e41 : jn L4 36 41 = jn L 36 41 := by unfold jn; rw [d36 41 (by decide)]
    rw [e41]
    clear T3 k1 k3 o lo4
    omega
