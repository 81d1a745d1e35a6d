/-! beginWanted, as the code does it. -/
theorem ty_13 {J : Nat → Nat → Int32} {v : Int32} (h : am_ty2 (am_u2 J 33 13 v)) : am_ty2 J := by
  have e : J = am_u2 (am_u2 J 33 13 v) 33 13 (J 33 13) := funext fun q => funext fun j => by
    by_cases a : q = 33
    · by_cases b : j = 13
      · rw [a, b, am_u2_s]
      · rw [a, u2_ne b, u2_ne b]
    · rw [fr_u a, fr_u a]
  rw [e]
  exact ty_w h (tw_u (by decide) (by decide) (by decide))
theorem w_beg {d : am_D} {h : am_H} {J L : Nat → Nat → Int32} {lab : Nat → Nat} {op tp lv c nn cc g x y N : Nat} (hw0 : Wnt h J L lab op tp lv c nn cc g x y) (hN : c + 70 * (300 - jn L 36 41) + 69 < N) (hd : 5 ≤ d.1) (hw : 123 ≤ d.2) : am_wp d 147 0 [some (.ref 33), none, none] [] (am_si h J) (Qe L N nn cc g x y) := by
  obtain ⟨hM, hO, h38, hcl, ⟨hwg, hg⟩, hx, hy, hy12, h4⟩ := hw0
  have hB := hM.1.1
  have tyJ := ty_13 hM.1.2.1
  have hL := hM.1.2.2.1
  have e16 : jn L 49 g = jn J 16 g := by rw [jn_e hO.1.2.2.2.1.1]; exact jn_cg (fr_u (by decide))
  have e8 : jn J 33 8 = lv := by have q := hM.2.1.1; unfold jn at q ⊢; rw [u2_ne (by decide)] at q; exact q
  have h4' : L 73 4 = am_u2 J 33 13 (-1) 33 16 := by rw [u2_ne (by decide)]; exact h4
  have m17 := hM.2.2.2.2.2.1.2.2.2
  refine l_M_bw hB tyJ g hwg hg hd hw (fun z1 z2 T0 => ?_) (fun z1 z2 ty => ⟨rfl, _, _, rfl, Or.inr ?_⟩) (fun z1 ty => ⟨rfl, _, _, rfl, Or.inr ?_⟩)
  · -- it begins
    have hlv : lv < 12 := by have := hM.2.1.2.1; omega
    have hx14 : jn (am_u2 J 33 13 (-1)) 33 14 = x ∧ x < jn (am_u2 J 33 13 (-1)) 10 5 := ⟨by rw [← hx.1]; unfold jn; rw [u2_ne (by decide)], by rw [jn_cg (fr_u (by decide))]; exact hx.2⟩
    have hy15 : jn L 49 g = 2 → am_u2 J 33 13 (-1) 33 15 = nI y ∧ y < jn (am_u2 J 33 13 (-1)) 10 5 := fun z => ⟨by rw [u2_ne (by decide)]; exact (hy z).1, by rw [jn_cg (fr_u (by decide))]; exact (hy z).2⟩
    have hcl' : op = 0 ∨ ∃ b, am_P h 35 (op - 1) = some b ∧ am_u2 J 33 13 (-1) b 5 = nI 1 ∧ ¬ jn L 65 (tp - 1) = 9 := by
      rcases hcl with z | ⟨b, b1, b2, b3⟩
      · exact Or.inl z
      · by_cases z0 : op = 0
        · exact Or.inl z0
        · right
          have sop := stk_op hM.2.2.1 hM.2.2.2.1
          have gb := hM.1.2.2.2.2.2 (op - 1) (by omega) b b1
          exact ⟨b, b1, by rw [fr_u (by have := gb.2.1; omega)]; exact b2, b3⟩
    have i8 : jn (am_u2 J 33 13 (-1)) 33 8 = lv := hM.2.1.1
    have i16 : jn L 49 g = jn (am_u2 J 33 13 (-1)) 16 g := jn_e hO.1.2.2.2.1.1
    have i15 : am_u2 J 33 13 (-1) 33 15 = J 33 15 := u2_ne (by decide)
    have nz : ¬ jn L 49 g = 0 := by rw [e16]; exact z1
    have n12 : ¬ jn L 36 38 = 12 := by rw [h38]; omega
    have eR : R_en L g x y = R_enter L g x y := by unfold R_en; rw [am_ite_f nz, am_ite_f n12]
    clear hcl hx hy hwg h4 e16 e8 z1 z2
    generalize am_u2 J 33 13 (-1) = J0 at *
    have b10 : jn J0 10 5 < 13 := (ty_f T0 (q := 10) (j := 5) (B := 13) (by decide) (by decide)).2
    have hx12 : x < 12 := by have := hx14.2; omega
    refine w_wrk hB T0 hM.1.2.2.2 hO.2.2.2.1 i8 hlv hd hw (fun h1 J1 lab1 w sp B1 T1 W1 R1 x1 l1 p1 h34 hsp => ?_)
    have h74 := hB.1
    have J74 : ∀ q, q < 74 → J1 q = J0 q := fun q hq => x1.2.2 q (by omega)
    obtain ⟨g1, g2, g3, sp', g4, g5⟩ := W1.2.1 lv hlv w h34
    rw [hsp] at g4
    have es : sp = sp' := Option.some.inj g4
    rw [← es] at g5
    have k8 : jn J1 33 8 = lv := by rw [jn_cg (J74 33 (by decide))]; exact i8
    refine l_M_b72 B1 T1 g w sp hg g3 hsp (by rw [k8]; exact h34) (by omega) hd hw (fun _ => ?_)
    have k14 : jn J1 33 14 = x := by rw [jn_cg (J74 33 (by decide))]; exact hx14.1
    rw [k14, J74 33 (by decide)]
    -- the relations, for the new store
    have rC : rl_C J1 L := rl_C_cg2 hO.1.1 (fun q _ b => J74 q (by omega)) (fun _ _ _ => rfl)
    have rI : rl_I J1 L := rl_I_cg2 hO.1.2.1 (fun q _ b => J74 q (by omega)) (fun _ _ _ => rfl) rfl rfl
    have rM : rl_M J1 L := rl_M_cg hO.1.2.2.2 (by rw [J74 15 (by decide)]) (fun q _ b => J74 q (by omega)) (fun _ _ _ => rfl)
    have k16 : jn J1 16 g = jn L 49 g := by rw [i16]; exact jn_cg (J74 16 (by decide))
    have hyi : jn J1 16 g = 2 → J0 33 15 = nI y := fun z => (hy15 (by rw [← k16]; exact z)).1
    obtain ⟨L2, ow, r1, r2, r3, r4, r5, r6, r7, r8⟩ := R_rows (rk := rkx J1 g x (J0 33 15)) h1 B1 hL hg hx12 hy12 h38 (rkx_lt T1 hL rC rI rM hg hx12 hy12 hyi)
    have lw : lwr L L2 lv := ⟨r4, r5, r6⟩
    have ap : apc L L2 := fun q hq => r4 q (by omega) (by omega)
    have rC2 : rl_C J1 L2 := rl_C_cg2 rC (fun _ _ _ => rfl) (fun q _ b => r4 q (by omega) (by omega))
    have rI2 : rl_I J1 L2 := rl_I_cg2 rI (fun _ _ _ => rfl) (fun q _ b => r4 q (by omega) (by omega)) (by rw [r4 36 (by decide) (by decide)]) (by rw [r4 73 (by decide) (by decide)])
    have rM2 : rl_M J1 L2 := rl_M_cg rM rfl (fun _ _ _ => rfl) (fun q _ b => r4 q (by omega) (by omega))
    have rK2 : rl_K h1 J1 L2 cc := by
      refine rl_K_cg hO.2.2.2.2.1 (fun k => p1 23 k (by omega) (by omega)) (fun k e hk hp => ?_) (fun q hq => J74 q (by omega)) (r4 58 (by decide) (by decide))
      obtain ⟨a, b, c, u, d1, d2, d3, d4, d5, d6⟩ := hM.1.2.2.2.1 k hk e hp
      refine ⟨x1.2.2 e c.2.1, fun u' hu => ?_⟩
      rw [p1 e 0 c.2.1 (by omega)] at hu
      refine ⟨hu, ?_⟩
      rw [d1] at hu
      have eu : u = u' := Option.some.inj hu
      rw [← eu]
      exact x1.2.2 u d4.2.1
    have e7 : J1 22 7 = L2 73 5 := by rw [J74 22 (by decide), r4 73 (by decide) (by decide)]; exact hO.2.2.2.2.2.1
    have hap2 : ow = nI 0 ↔ ∀ w, w < 16 → apl L2 g x y w → ¬ ins_ L2 g w := r8.trans ⟨fun q w a b => by rw [(apl_cg (x := x) (y := y) ap).2]; exact q w a ((apl_cg ap).1.mp b), fun q w a b => by have q9 := q w a ((apl_cg ap).1.mpr b); rw [(apl_cg (x := x) (y := y) ap).2] at q9; exact q9⟩
    have ex : ∃ c2, (jn J1 16 g = 2 → c2 = jn J1 11 y) ∧ (¬ jn J1 16 g = 2 → c2 = 0) := by
      by_cases z : jn J1 16 g = 2
      · exact ⟨_, fun _ => rfl, fun q => absurd z q⟩
      · exact ⟨0, fun q => absurd q z, fun _ => rfl⟩
    obtain ⟨c2, hc2, hc1⟩ := ex
    refine j_call (ml := 8) k147_100 rfl (show 0 < d.1 by omega) (show 19 + 8 ≤ d.2 by omega) ⟨Nat.le_of_ble_eq_true rfl, Nat.le_of_ble_eq_true rfl, am_obB B1 rfl, Nat.le_of_ble_eq_true rfl⟩ rfl (rest := [.ref w]) rfl (w_eff (Q := fun r hh => ∃ h2 J2 lab2 e u, r = some (.ref e) ∧ hh = am_si h2 J2 ∧ Efo h1 J1 L2 lab1 lv sp g x (J0 33 15) ow (144 * g + (12 * jn J1 11 x + c2)) cc h2 J2 lab2 e u) B1 T1 r3 W1 R1 rC2 rI2 rM2 rK2 e7 hlv g5 hg hx12 hy12 hyi hc2 hc1 r7 hap2 (show 4 ≤ d.1 - 1 by omega) (show 96 ≤ d.2 - (19 + 8) by omega) (fun h2 J2 lab2 e u E => ⟨h2, J2, lab2, e, u, rfl, rfl, E⟩)) (fun r hh hq => ?_)
    obtain ⟨h2, J2, lab2, e, u, rfl, rfl, E⟩ := hq
    show am_wp _ _ _ [some (.ref 33), some (.int (nI g)), some (.ref w)] [.ref e, .ref w] _ _
    obtain ⟨bP, bw, bf, bs⟩ := b_eff hM hlv W1 x1 l1 p1 h34 hsp E
    have E' := E
    obtain ⟨⟨q1, q2, q3, q4⟩, _, _, ⟨q11, _, _, _⟩, q15, _, q17⟩ := E'
    have l2t := r3
    have s := cont_rows q17 r2 (fun m hm => (rkx_ap T1 r3 rC2 rI2 rM2 hg hm hx12 hy12 (L := L2) hyi).1) (by rw [q11 18 (by decide) (by decide) (by decide) (by decide), rM2.1.2.2.1])
    obtain ⟨n, n1, o1, o2, o3, o4, o5, o6⟩ := lv_obj (L := L) q3 hlv bw.1 q15 bs
    have new : ¬ e = w := fun z => by have a := o1.1; have b := bw.2.2.2; rw [z] at a; omega
    have nuw : ¬ u = w := fun z => by have b := bw.2.2.2; rw [z] at o2; omega
    have l38 : jn L2 36 38 = lv := by rw [jn_cg (r4 36 (by decide) (by decide))]; exact h38
    have j11 : ∀ i, jn L2 45 i = jn J1 11 i := fun i => jn_e rI2.1
    have eR9 := R_e9_c (g := g) (x := x) (y := y) (key := 144 * g + (12 * jn J1 11 x + c2)) (ow := ow) l38 (fun z => by rw [j11, j11, hc2 (by rw [k16, ← jn_cg (r4 49 (by decide) (by decide))]; exact z)]; omega) (fun z => by rw [j11, hc1 (by rw [k16, ← jn_cg (r4 49 (by decide) (by decide))]; exact z)]; omega)
    have eR2 := eR.trans (r1.trans eR9)
    have tp320 : jn L 36 39 < 320 := by have a := stk_op hM.2.2.1 hM.2.2.2.1; have b := hM.2.1.2.2.2.1; omega
    have tyR := R_enter_ty h hB hL hg hx12 hy12 (by rw [h38]; exact hlv) tp320
    rw [r1, eR9] at tyR
    have k28 : jn J2 33 8 = lv := by rw [jn_cg (q11 33 (by decide) (by decide) (by decide) (by decide)), jn_cg (J74 33 (by decide))]; exact i8
    refine l_M_b2 q1 q2 g w e hg bw.2.1 bw.2.2.1 o1.2.2.1 o1.2.1 (fun z => new z.symm) o6.1 (by rw [k28]; exact hlv) hd hw (fun z1 z2 ty => ?_) (fun z1 z2 ty => ⟨rfl, _, _, rfl, Or.inr ?_⟩) (fun z1 ty => ⟨rfl, _, _, rfl, Or.inr ?_⟩)
    · -- there is a primary
      rw [s.2.2.2.1] at z1
      have s0 : 0 < mk L2 lv 0 := by
        rcases Nat.eq_zero_or_pos (mk L2 lv 0) with z | z
        · exfalso
          unfold E_has at z2
          rw [s.2.2.1, s.2.1, am_ite_t (by show s_pr L2 lv + mk L2 lv 0 ≤ s_pr L2 lv; omega)] at z2
          exact z2
        · exact z
      rw [am_ite_f z1, am_ite_f (by omega)] at eR2 tyR
      have s16 : s_sz L2 lv ≤ 16 := by rw [← s.2.2.2.1]; exact (o6.1 1 (by decide) (by decide)).2
      have sop := stk_op bP.1 bP.2
      have hm9 : jn (bJ J2 w g) 33 9 = op := by
        have q := hM.2.1.2.2.1
        unfold jn at q ⊢
        rw [(bJ_o (J := J2) (g := g) bw.2.2.1).2.2.1 9 (by decide), q11 33 (by decide) (by decide) (by decide) (by decide), J74 33 (by decide)]
        exact q
      have je : bJ J2 w g e = J2 e := (bJ_o bw.2.2.1).1 e (by have := o1.2.1; omega) new
      have ju : bJ J2 w g u = J2 u := (bJ_o bw.2.2.1).1 u (by omega) nuw
      have expl : ∃ place, E_first J2 e = nI place ∧ ((jn J2 e 2 = 0 ∧ place = jn J2 e 3) ∨ (¬ jn J2 e 2 = 0 ∧ place = 0)) ∧ place < 16 := by
        unfold E_first
        by_cases z : jn J2 e 2 = 0
        · rw [am_ite_t z]
          refine ⟨_, rfl, Or.inl ⟨z, rfl⟩, ?_⟩
          rw [s.2.1]
          have : s_pr L2 lv + mk L2 lv 0 + mk L2 lv 2 = s_sz L2 lv := rfl
          omega
        · rw [am_ite_f z]
          exact ⟨0, rfl, Or.inr ⟨z, rfl⟩, by decide⟩
      obtain ⟨place, ep, hpl, p16⟩ := expl
      rw [ep]
      have tyL4 : am_ty2 (en4 lv g x y (en3 ow (144 * g + (12 * jn J1 11 x + c2)) L2)) := by
        have k58 : 144 * g + (12 * jn J1 11 x + c2) < 720 := by
          have a := (ty_n T1 (q := 11) (B := 12) (by decide) (by decide) x).2
          have b : c2 < 12 := by
            by_cases z : jn J1 16 g = 2
            · rw [hc2 z]; exact (ty_n T1 (q := 11) (B := 12) (by decide) (by decide) y).2
            · rw [hc1 z]; decide
          omega
        have t3 : am_ty2 (en3 ow (144 * g + (12 * jn J1 11 x + c2)) L2) := by
          unfold en3
          by_cases z1 : ow = 0
          · rw [am_ite_t z1]
            by_cases z2 : jn L2 58 (144 * g + (12 * jn J1 11 x + c2)) = 0
            · rw [am_ite_t z2]
              exact ty_w (ty_w r3 (tw_a (by decide) (by decide) (by decide))) (tw_n (B := 2) (by decide) (by decide) (by decide) (by decide))
            · rw [am_ite_f z2]
              exact ty_w r3 (tw_n (B := 2) (by decide) (by decide) (by decide) (by decide))
          · rw [am_ite_f z1]
            exact ty_w r3 (tw_a (by decide) (by decide) (by decide))
        unfold en4
        exact ty_w (ty_w (ty_w (ty_w t3 (tw_n (B := 12) (by decide) (by decide) (by decide) hx12)) (tw_n (B := 12) (by decide) (by decide) (by decide) hy12)) (tw_n (B := 5) (by decide) (by decide) (by decide) hg)) (tw_f (B := 13) (by decide) (by decide) (by decide) (by omega))
      have fin : ∀ h' J' lab' f, am_B h' → am_ty2 J' → am_W h' J' lab' → am_R h' → opn (am_wP h2 w 1 (some e)) (bJ J2 w g) h' J' lab2 lab' op f w e u place → eGo L N nn cc g x y h' J' := fun h' J' lab' f B' T' W' R' o => b_go hM hO hlv J74 E lw bP bw bf bs h38 hg hx14 hy15 hcl' h4' s s16 s0 ⟨new, nuw, o1.2.1, o3⟩ ty B' T' W' R' o hpl tyL4 tyR eR2 hN
      refine j_call (ml := 6) k147_195 rfl (show 0 < d.1 by omega) (show 19 + 6 ≤ d.2 by omega) ⟨Nat.le_of_ble_eq_true rfl, Nat.le_of_ble_eq_true rfl, am_obB (B_wP q1 (Or.inl bw.2.2.1)) rfl, Nat.le_of_ble_eq_true rfl⟩ rfl (rest := []) rfl (o_frame (Q := fun r hh => ∃ h' J', r = none ∧ hh = am_si h' J' ∧ eGo L N nn cc g x y h' J') (B_wP q1 (Or.inl bw.2.2.1)) (J := bJ J2 w g) ty (am_W_w q3 bw.2.2.2 hlv (fun q a b => (bJ_o bw.2.2.1).1 q (by omega) b) bw.2.2.1) (am_R_w q4 bw.2.2.1) hm9 (by omega) (w := w) (e := e) (u := u) (place := place) bw.2.1 bw.2.2.1 (by rw [bw.2.2.2]; omega) wP_s o1.2.2.1 o1.2.1 (by rw [o1.1]; exact n1) (by rw [wP_o new]; exact q15) o4 o5 o3 (by omega) (ef_cg o6 je ju) p16 (show 2 ≤ d.1 - 1 by omega) (show 60 ≤ d.2 - (19 + 6) by omega) (fun h' J' lab' f B' T' W' R' o => ⟨h', J', rfl, rfl, fin h' J' lab' f B' T' W' R' o⟩)) (fun r hh hq => ?_)
      obtain ⟨h', J', rfl, rfl, G⟩ := hq
      exact r_vret k147_198 rfl ⟨rfl, h', J', rfl, Or.inl G⟩
    · -- no primary
      rw [s.2.2.2.1] at z1
      have s0 : mk L2 lv 0 = 0 := by
        rcases Nat.eq_zero_or_pos (mk L2 lv 0) with z | z
        · exact z
        · exfalso
          apply z2
          unfold E_has
          rw [s.2.2.1, s.2.1, am_ite_f (by show ¬ (s_pr L2 lv + mk L2 lv 0 ≤ s_pr L2 lv); omega)]
          trivial
      rw [am_ite_f z1, am_ite_t s0] at eR2 tyR
      exact ⟨_, lab2, nn, Nat.le_succ nn, eR2, b_err hM hO hlv J74 E lw bw.2.2.2 bw.2.2.1 h4' ty tyR, by rw [am_u2_s, am_u2_s], by rw [am_u2_s]; decide⟩
    · rw [s.2.2.2.1] at z1
      rw [am_ite_t z1] at eR2 tyR
      exact ⟨_, lab2, nn, Nat.le_succ nn, eR2, b_err hM hO hlv J74 E lw bw.2.2.2 bw.2.2.1 h4' ty tyR, by rw [am_u2_s, am_u2_s], by rw [am_u2_s]; decide⟩
  · -- too deep
    have l12 : lv = 12 := by omega
    have eR : R_en L g x y = (nI 0, am_u2 L 36 40 (-11)) := by unfold R_en; rw [am_ite_f (by rw [e16]; exact z1), am_ite_t (by rw [h38]; exact l12)]
    have tyL : am_ty2 (am_u2 L 36 40 (-11)) := ty_w hL (tw_u (by decide) (by decide) (by decide))
    exact ⟨_, lab, nn, Nat.le_succ nn, eR, e_fin hM hO ty tyL onf_33 (fun q _ b => fr_u b) ⟨fun q _ b _ => fr_u b, u2_ne (by decide), fun j _ _ => by rw [fr_u (by decide)]⟩ (by rw [u2_ne (by decide), fr_u (J := L) (by decide)]; exact m17) (by rw [fr_u (by decide), u2_ne (by decide)]; exact h4'), by rw [am_u2_s, am_u2_s], by rw [am_u2_s]; decide⟩
  · -- no such generic
    have eR : R_en L g x y = (nI 0, am_u2 L 36 40 (-2)) := by unfold R_en; rw [am_ite_t (by rw [e16]; exact z1)]
    have tyL : am_ty2 (am_u2 L 36 40 (-2)) := ty_w hL (tw_u (by decide) (by decide) (by decide))
    exact ⟨_, lab, nn, Nat.le_succ nn, eR, e_fin hM hO ty tyL onf_33 (fun q _ b => fr_u b) ⟨fun q _ b _ => fr_u b, u2_ne (by decide), fun j _ _ => by rw [fr_u (by decide)]⟩ (by rw [u2_ne (by decide), fr_u (J := L) (by decide)]; exact m17) (by rw [fr_u (by decide), u2_ne (by decide)]; exact h4'), by rw [am_u2_s, am_u2_s], by rw [am_u2_s]; decide⟩
