/-! A step of the machine, as the code does it. -/
theorem s1_ty {L : Nat → Nat → Int32} (hL : am_ty2 L) (h3 : jn L 36 41 < 300) (hk : jn L 67 (jn L 36 39 - 1) < 19) : am_ty2 (R_s1 L) := by
  unfold R_s1
  exact ty_w (ty_w (ty_w hL (tw_f (B := 301) (by decide) (by decide) (by decide) (by omega))) (tw_a (by decide) (by decide) (by decide))) (tw_n (B := 20) (by decide) (by decide) (by decide) (by omega))
/-- what a turn leaves -/
def Qo (L : Nat → Nat → Int32) (N nn cc : Nat) : Option Value → am_H → Prop := fun r hh => r = none ∧ ∃ h' J', hh = am_si h' J' ∧ Out L N nn cc h' J'
theorem nx_9 {L : Nat → Nat → Int32} {l p p2 w5 n : Nat} (hs : s_sz L l ≤ 16) (h0 : 0 < mk L l 0) (hp : p2 < s_sz L l) (hl : l < 12) (h5 : w5 ≤ 16 * l) (hn : n = w5 + dpt L l p) (hd : dpt L l p2 = dpt L l p + 1) : n + 1 < 192 := by
  have := dpt_le hs h0 hp
  omega
/-- next, in the code -/
theorem w_next {d : am_D} {h : am_H} {J L : Nat → Nat → Int32} {lab : Nat → Nat} {n tp lv c f w e u t0 lv0 c0 nn cc N : Nat} {a : Int32} (hM : Mst h J L lab (n + 1) tp lv c) (hO : Oth h J L nn cc) (hT : Top h J L lab n tp lv c f w e u t0 lv0 c0) (hr : run1 J L f (lv - 1) t0 tp) (hk : jn J f 4 < 8) (h3 : jn L 36 41 < 300) (hN : c + 70 * (300 - jn L 36 41) ≤ N) (eW : R_work L = R_act (R_s1 L) (tp - 1) 4 a) (ty1 : am_ty2 (M_j1 J f)) (hd : 3 ≤ d.1) (hw : 90 ≤ d.2) : am_wp d 153 0 [some (.ref 33), some (.ref f), none] [] (am_si h (M_j1 J f)) (Qo L N nn cc) := by
  have rw0 := Top_RW hM hT hO.2.2.1
  have hB := hM.1.1
  have m3 := hM.1.2.2.1
  have f74 := hT.1.2.2.1
  have a4 := hT.1.2.2.2.1
  have n192 := hT.1.2.2.2.2
  obtain ⟨kd, pl, r, k9, wh, z5, tl, tp0⟩ := run_ix hr
  obtain ⟨j1, j2, j3, j4, j5, j6⟩ := M_j1_c (J := J) f74
  obtain ⟨l1, l2, l3, l4, l5, l6, l7⟩ := R_s1_c (L := L)
  obtain ⟨rC1, rI1, rN1⟩ := t_j1 hO f74 (L := L)
  have x39 : jn L 36 39 = tp := hM.2.1.2.2.2.1
  have nef : ∀ q, 1000 ≤ lab q → ¬ q = f := fun q hq z => by rw [z, a4] at hq; omega
  have ne : ¬ e = f := nef e hT.2.2.1.2.2.2
  have nu : ¬ u = f := nef u hT.2.2.2.1.2.2.2.2.1
  have e74 := hT.2.2.1.2.2.1
  have u74 := hT.2.2.2.1.2.2.2.1
  have Je : M_j1 J f e = J e := j1 e (fun z => by omega) ne
  have Ju : M_j1 J f u = J u := j1 u (fun z => by omega) nu
  have hE := hT.2.2.2.1.2.2.2.2.2.2
  have hE1 : ef_ok (M_j1 J f) e u := ef_cg hE Je Ju
  have nw : ¬ w = f := fun z => by have a := hT.2.1.2.2.2.2; have b := hT.1.2.2.2.1; have d := hM.2.1.2.1; rw [z, b] at a; omega
  have y2 := hT.2.2.2.2.2.2.2.2.1
  have s := hT.2.2.2.2.1
  have p16 : jn J f 1 < 16 := Nat.lt_of_lt_of_le y2.1.1.2 s.2.2.2.2.1
  have i1 : jn (M_j1 J f) f 1 = jn J f 1 := by unfold jn; rw [j5 1 (by decide)]
  have k19 : jn L 67 (jn L 36 39 - 1) < 19 := rw0.2.2.2.1
  have tyL1 := s1_ty m3 h3 k19
  refine l_M_on hB ty1 f w e hT.1.2.1 hT.2.1.1 hT.2.1.2.2.1 f74 hT.2.1.2.2.2.1 nw hT.2.2.1.1 hT.2.2.1.2.1 e74 ne hE1.1 (by rw [i1, j5 1 (by decide)]; exact ⟨y2.1.1.1, p16⟩) hd (by omega) (fun _ => ?_)
  rw [i1, E_next_cg Je]
  have p4 := (hM.2.2.2.2.1.2 f (Nat.succ_pos n) hT.1.1).1 (Or.inr z5)
  rcases t_next hM hT hr with ⟨en, hl⟩ | ⟨p2, hp2, en, hl⟩
  · rw [en]
    refine l_M_nA hB ty1 f w hT.1.2.1 hT.2.1.1 hT.2.1.2.2.1 f74 hT.2.1.2.2.2.1 nw hd (by omega) (fun ty => ⟨rfl, _, _, rfl, Or.inr (Or.inr ?_)⟩)
    have eW2 : R_work L = (nI 0, am_u2 (R_s1 L) 36 40 (-10)) := by
      rw [eW]
      rcases hl with ⟨z0, z1⟩ | ⟨z0, z1⟩
      · exact R_act_4b z0 z1
      · exact R_act_4d z0 z1
    have s2 : sL L (am_u2 (R_s1 L) 36 40 (-10)) (tp - 1) := ⟨fun q a b d e g => fr_u g, fun j hj => u2_ne hj, fun j a _ => by rw [fr_u (by decide)], fun q a b j hj => by rw [fr_u (by omega)]⟩
    have Jf := M_j1_33 (J := J) f74
    exact t_err (er := -10) hM hO hT hr ty eW2 (fun q a b d e g => by rw [fr_u b, Jf q a b]) (fun q a b => by rw [fr_u (by omega), j1 q (by omega) b]) (fun j hj => u2_ne hj) s2 am_u2_s am_u2_s (by decide) (rl_C_cg2 rC1 (fun q a b => fr_u (by omega)) (fun q a b => fr_u (by omega))) (rl_I_cg2 rI1 (fun q a b => fr_u (by omega)) (fun q a b => fr_u (by omega)) (u2_ne (by decide)) (by rw [fr_u (by decide)])) (rl_N_cg2 rN1 (fun q a b => fr_u (by omega)) (by rw [fr_u (by decide)]) (fr_u (by decide))) (Nat.le_succ nn)
  · rw [en]
    have s16 := s.2.2.2.2.1
    have s0 := s.2.2.2.2.2
    have p216 : p2 < 16 := Nat.lt_of_lt_of_le hp2 s16
    have l12 : lv - 1 < 12 := Nat.lt_of_lt_of_le (Nat.sub_lt hT.2.2.2.2.2.2.2.1 (by decide)) hM.2.1.2.1
    have hn : (p2 = jn J f 1 + 1 ∧ s_pr L (lv - 1) < p2 ∧ p2 < s_af L (lv - 1)) ∨ (jn J f 1 < s_bf L (lv - 1) ∧ ((jn J f 1 + 1 < s_bf L (lv - 1) ∧ p2 = jn J f 1 + 1) ∨ (jn J f 1 + 1 = s_bf L (lv - 1) ∧ p2 = s_pr L (lv - 1)))) := by
      rcases hl with ⟨_, _, a, b, d, _⟩ | ⟨_, _, a, _, b⟩
      · exact Or.inl ⟨a, b, d⟩
      · exact Or.inr ⟨a, b⟩
    have nd := nx_d s0 hn
    have n1 := nx_9 s16 s0 hp2 l12 hT.2.2.2.2.2.2.1.2.2.2.2.2 hT.2.2.2.2.2.2.2.2.2.2.1 nd.1
    refine l_M_nB hB ty1 f w p2 hT.1.2.1 hT.2.1.1 hT.2.1.2.2.1 f74 hT.2.1.2.2.2.1 nw p216 hd (by omega) (fun _ => ?_)
    have m9 : jn (M_j1 J f) 33 9 = n + 1 := by unfold jn; rw [j2 9 (by decide) (by decide)]; exact hM.2.1.2.2.1
    have W1 : am_W h (M_j1 J f) lab := am_W_lo hM.1.2.2.2 (onf_mono (onf_j1 a4 n192 f74) (Nat.zero_le n)) (fun _ => rfl) rfl rfl
    refine j_call (ml := 6) k153_34 rfl (show 0 < d.1 by omega) (show 19 + 6 ≤ d.2 by omega) ⟨Nat.le_of_ble_eq_true rfl, Nat.le_of_ble_eq_true rfl, am_obB hB rfl, Nat.le_of_ble_eq_true rfl⟩ rfl (rest := []) rfl (Qc := Qo L N nn cc) (o_frame hB ty1 W1 hO.2.2.2.1 m9 n1 hT.2.1.2.2.1 hT.2.1.2.2.2.1 (lab_w hT.2.1.2.2.2.2 hM.2.1.2.1) hT.2.2.1.1 hT.2.2.1.2.1 e74 hT.2.2.1.2.2.2 hT.2.2.2.1.1 hT.2.2.2.1.2.1 hT.2.2.2.1.2.2.1 u74 hT.2.2.2.1.2.2.2.2.1 hE1 p216 (show 2 ≤ d.1 - 1 by omega) (show 60 ≤ d.2 - (19 + 6) by omega) (fun h' J' lab' f2 B' T' W' R' o => ⟨rfl, h', J', rfl, Or.inl ?_⟩)) (fun r h1 hq => ?_)
    · -- the reference begins the next one
      have e65 : jn (R_s1 L) 65 (tp - 1) = kd := by rw [jn_cg (l1 65 (by decide) (by decide) (by decide))]; exact r.2.1
      have e66 : jn (R_s1 L) 66 (tp - 1) = pl := by rw [jn_cg (l1 66 (by decide) (by decide) (by decide))]; exact r.2.2.1
      have x38 : jn (R_s1 L) 36 38 = lv := (congrArg Int32.toNatClampNeg (l2 38 (by decide))).trans (hM.2.1.2.2.2.2 (Nat.succ_pos n))
      have y39 : jn (R_s1 L) 36 39 = tp := (congrArg Int32.toNatClampNeg (l2 39 (by decide))).trans x39
      have eW2 : R_work L = (nI 1, R_begin (R_s1 L) kd (pl + 1)) := by
        rw [eW]
        rcases hl with ⟨z0, z1, _⟩ | ⟨z0, z1, _⟩
        · rw [R_act_4a z0 z1, e65, e66]
        · rw [R_act_4c z0 z1, e65, e66]
      have hk2 : (kd = 0 ∧ p2 = jn J f 1 + 1 ∧ s_pr L (lv - 1) < p2 ∧ p2 < s_af L (lv - 1) ∧ pl + 1 = p2 - s_pr L (lv - 1)) ∨ (kd = 3 ∧ jn J f 1 < s_bf L (lv - 1) ∧ pl = jn J f 1 ∧ ((jn J f 1 + 1 < s_bf L (lv - 1) ∧ p2 = jn J f 1 + 1) ∨ (jn J f 1 + 1 = s_bf L (lv - 1) ∧ p2 = s_pr L (lv - 1)))) := by
        rw [e65, e66] at hl
        rcases hl with ⟨z0, _, a, b, d, q⟩ | ⟨_, z0, a, q, b⟩
        · exact Or.inl ⟨z0, a, b, d, q⟩
        · exact Or.inr ⟨z0, a, q, b⟩
      have j21 : M_j1 J f 21 = L 54 := by rw [j1 21 (by decide) (fun z => by omega)]; exact hM.2.2.2.2.2.2.2.2.2.2
      have o12 := o.2.2.2.2.2.1
      have o13 := o.2.2.2.2.2.2.1
      have o14 := o.2.2.2.2.2.2.2
      rw [jn_cg Je, s.2.1] at o13
      rw [jn_cg Je, jn_cg Je, s.2.1, s.1] at o14
      have row : jn (M_j1 J f) u p2 = jn L 59 ((16 * ((4 * (lv - 1)) + kdp L (lv - 1) p2)) + plp L (lv - 1) p2) := by rw [jn_cg Ju]; exact hT.2.2.2.2.2.1 p2 hp2
      have q61 : ∀ q, ¬ q = 36 → ¬ q = 67 → ¬ q = 73 → R_s1 L q = L q := l1
      by_cases hm : p2 = s_pr L (lv - 1)
      · -- the middle
        have bf9 : kd = 3 ∧ pl + 1 = mk (R_s1 L) (jn (R_s1 L) 36 38 - 1) 3 := by
          rcases hk2 with ⟨_, _, b, _⟩ | ⟨q, _, q2, ⟨b1, b2⟩ | ⟨b1, b2⟩⟩
          · omega
          · have sl := (s_le (L := L) (l := lv - 1)).1; omega
          · refine ⟨q, ?_⟩
            rw [q2, x38]
            unfold mk
            rw [jn_cg (q61 60 (by decide) (by decide) (by decide))]
            exact b1
        obtain ⟨g1, g2, g3, g4⟩ := R_begin_9 tyL1 bf9.2
        rw [bf9.1] at eW2
        generalize R_begin (R_s1 L) 3 (pl + 1) = L' at *
        unfold bgF at g2
        rw [y39, x38] at g2
        rw [y39] at g3
        have o14 := o14 hm
        refine t_nxt (kd := 0) (pl := 0) hM hO hT hr hk h3 hN B' T' W' R' o rw0 eW2 g1 hp2 hn (fun kL => fR_newM (J := M_j1 J f) (u := u) m3 kL s16 s0 l12 hm j21 row o12 o14 g2.1 g3 g2.2.2.1) ⟨fun _ => by rw [g4, l4 4 (by decide)], fun z => absurd hm z⟩ (fun kL => ?_)
        have k := keL_mk kL (lv - 1)
        have bp : s_bf L (lv - 1) ≤ 16 ∧ s_pr L (lv - 1) ≤ 16 := by have sl := s_le (L := L) (l := lv - 1); omega
        refine cst_main (by rw [k.1]; show (J' f2 7).toNatClampNeg = _; rw [o14.1]; exact nI_clamp (by omega)) (by rw [k.2.1]; show (J' f2 8).toNatClampNeg = _; rw [o14.2.1]; exact nI_clamp (by omega)) (by rw [k.2.2.2.1]; exact s16)
      · have hk3 := nx_k s0 hm hk2
        have nk : kd = 3 → ¬ pl + 1 = mk (R_s1 L) (jn (R_s1 L) 36 38 - 1) 3 := fun z => by
          rw [x38]
          unfold mk
          rw [jn_cg (q61 60 (by decide) (by decide) (by decide))]
          exact hk3.2.2 z
        obtain ⟨g1, g2, g3, g4, g5⟩ := R_begin_N tyL1 nk
        generalize R_begin (R_s1 L) kd (pl + 1) = L' at *
        unfold bgF at g2
        rw [y39, x38, q61 61 (by decide) (by decide) (by decide), q61 62 (by decide) (by decide) (by decide), hk3.2.1] at g2
        rw [y39, hk3.1] at g3
        rw [y39, x38, jn_cg (q61 54 (by decide) (by decide) (by decide)), jn_cg (q61 59 (by decide) (by decide) (by decide)), hk3.2.1, hk3.1] at g4
        have o13 := o13 hm
        refine t_nxt (kd := 0) (pl := 0) hM hO hT hr hk h3 hN B' T' W' R' o rw0 eW2 g1 hp2 hn (fun kL => fR_new (J := M_j1 J f) (u := u) m3 kL s16 l12 hp2 hm j21 row o12 o13 g2.1 g3 g2.2.1 g2.2.2.1 g2.2.2.2.1 g2.2.2.2.2.1 g2.2.2.2.2.2 g4) ⟨fun z => absurd z hm, fun _ => by rw [g5, l4 4 (by decide)]⟩ (fun kL => cst_oth ?_ ?_ o13.2.2)
        · show (J' f2 7).toNatClampNeg = _; rw [o13.1]; rfl
        · show (J' f2 8).toNatClampNeg = _; rw [o13.2.1]; rfl
    · obtain ⟨rfl, h', J', rfl, q⟩ := hq
      show am_wp _ _ _ _ [] _ _
      exact r_vret k153_37 rfl ⟨rfl, h', J', rfl, q⟩
/-- a step, in the code -/
theorem w_step {d : am_D} {h : am_H} {J L : Nat → Nat → Int32} {lab : Nat → Nat} {n tp lv c f w e u t0 lv0 c0 nn cc N : Nat} (hM : Mst h J L lab (n + 1) tp lv c) (hO : Oth h J L nn cc) (hT : Top h J L lab n tp lv c f w e u t0 lv0 c0) (hr : run1 J L f (lv - 1) t0 tp) (hk : jn J f 4 < jn J 28 (jn J f 2)) (hN : c + 70 * (300 - jn L 36 41) ≤ N) (hd : 4 ≤ d.1) (hw : 120 ≤ d.2) : am_wp d 151 0 [some (.ref 33), some (.ref f), none, none] [] (am_si h J) (Qo L N nn cc) := by
  have rw0 := Top_RW hM hT hO.2.2.1
  have hB := hM.1.1
  have m2 := hM.1.2.1
  have m3 := hM.1.2.2.1
  have f74 := hT.1.2.2.1
  have hf := hT.1.2.1
  have hp1 := hT.2.1.1
  have hw9 := hT.2.1.2.2.1
  have h77 := hT.2.1.2.2.2.1
  have nw : ¬ w = f := fun z => by have a := hT.2.1.2.2.2.2; have b := hT.1.2.2.2.1; have d := hM.2.1.2.1; rw [z, b] at a; omega
  have y2 := hT.2.2.2.2.2.2.2.2.1
  have b28 := ty_n m2 (q := 28) (B := 9) (by decide) (by decide) (jn J f 2)
  have hk8 : jn J f 4 < 8 := by omega
  have st := hM.2.2.2.2.2.1.2.2.1
  have k19 : jn L 67 (jn L 36 39 - 1) < 19 := rw0.2.2.2.1
  obtain ⟨ar, _⟩ := t_arg hM hT hr
  refine l_M_s0 hB m2 f w hf hp1 hw9 f74 h77 nw y2.1.2.1 ⟨y2.1.2.2.1.1, hk8⟩ hd (by omega) (fun z ty1 => ?_) (fun z ty => ⟨rfl, h, _, rfl, Or.inr (Or.inr (t_deep hM hO hT hr hk z ty))⟩)
  have eA := t_act hM hT hr hk z
  have s300 : jn L 36 41 < 301 := (ty_f m3 (q := 36) (j := 41) (B := 301) (by decide) (by decide)).2
  have h3 : jn L 36 41 < 300 := by rw [st] at z; omega
  have tyL1 := s1_ty m3 h3 k19
  have ty1 : am_ty2 (M_j1 J f) := ty1
  have m17 := hM.2.2.2.2.2.2
  have ops := hO.2.2.1 (jn J f 2 * 8 + jn J f 4)
  rw [jn_e m17.2.1, ← m17.2.2.1] at ops
  have b29 := ty_n m2 (q := 29) (B := 10) (by decide) (by decide) (jn J f 2 * 8 + jn J f 4)
  have x := hT.2.2.2.2.2.2.1
  show am_wp d 151 79 _ [] (am_si h (M_j1 J f)) _
  generalize jn J f 2 * 8 + jn J f 4 = ix at *
  generalize J 30 ix = a at *
  refine r_iload k151_79 rfl ?_
  have xm : ∀ {o a : Option Value} {pc : Nat}, am_wp d 151 pc [some (.ref 33), some (.ref f), none, a] [] (am_si h (M_j1 J f)) (Qo L N nn cc) → am_wp d 151 pc [some (.ref 33), some (.ref f), o, a] [] (am_si h (M_j1 J f)) (Qo L N nn cc) := fun q => wp_L (L := [some (.ref 33), some (.ref f), none, _]) ⟨Or.inr rfl, Or.inr rfl, Or.inl rfl, Or.inr rfl, True.intro⟩ q
  have xn : ∀ {o a : Option Value} {pc : Nat}, am_wp d 151 pc [some (.ref 33), some (.ref f), none, none] [] (am_si h (M_j1 J f)) (Qo L N nn cc) → am_wp d 151 pc [some (.ref 33), some (.ref f), o, a] [] (am_si h (M_j1 J f)) (Qo L N nn cc) := fun q => wp_L (L := [some (.ref 33), some (.ref f), none, none]) ⟨Or.inr rfl, Or.inr rfl, Or.inl rfl, Or.inl rfl, True.intro⟩ q
  have j5 := (M_j1_c (J := J) f74).2.2.2.2.1
  have x68 : R_s1 L 68 (tp - 1) = M_j1 J f f 3 := by
    obtain ⟨kd, pl, r, _⟩ := run_ix hr
    rw [R_s1_c.1 68 (by decide) (by decide) (by decide), j5 3 (by decide)]; exact r.2.2.2.2.1
  rcases (show jn J 29 ix = 0 ∨ jn J 29 ix = 1 ∨ jn J 29 ix = 2 ∨ jn J 29 ix = 3 ∨ jn J 29 ix = 4 ∨ jn J 29 ix = 5 ∨ jn J 29 ix = 6 ∨ jn J 29 ix = 7 ∨ jn J 29 ix = 8 ∨ jn J 29 ix = 9 by omega) with o | o | o | o | o | o | o | o | o | o
  · rw [o] at eA ⊢
    refine r_tsIn (t := 136) k151_80 (by decide) rfl (xm ?_)
    rw [R_act_0] at eA
    exact l_M_o0 hB ty1 f w a hf hp1 hw9 f74 h77 nw hd (by omega) (fun ty => ⟨rfl, h, _, rfl, Or.inl (t_sum hM hO hT hr hk8 z hN ty eA)⟩)
  · rw [o] at eA ⊢
    refine r_tsIn (t := 144) k151_80 (by decide) rfl (xm ?_)
    rw [R_act_1, x68] at eA
    exact l_M_o1 hB ty1 f w a hf hp1 hw9 f74 h77 nw hd (by omega) (fun ty => ⟨rfl, h, _, rfl, Or.inl (t_sum hM hO hT hr hk8 z hN ty eA)⟩)
  · obtain ⟨ea, hn⟩ := ops.1 (Or.inl o)
    rw [o] at eA ⊢
    refine r_tsIn (t := 157) k151_80 (by decide) rfl (xm ?_)
    rw [ea] at eA ⊢
    exact l_M_o2 hB ty1 f w (jn L 69 (tp - 1)) (jx a) hf hp1 hw9 f74 h77 nw ar.1 ar.2.2 hn hd (by omega) (fun ty => ⟨rfl, h, _, rfl, t_get hM hO hT hr hk8 h3 hN hn eA ty1 ty⟩)
  · obtain ⟨ea, hn⟩ := ops.1 (Or.inr o)
    rw [o] at eA ⊢
    refine r_tsIn (t := 185) k151_80 (by decide) rfl (xm ?_)
    rw [ea] at eA ⊢
    exact l_M_o3 hB ty1 f w (jn L 69 (tp - 1)) (jx a) hf hp1 hw9 f74 h77 nw ar.1 ar.2.2 hn hd (by omega) (fun ty => ⟨rfl, h, _, rfl, t_put hM hO hT hr hk8 h3 hN hn eA ty1 ty⟩)
  · rw [o] at eA ⊢
    refine r_tsIn (t := 209) k151_80 (by decide) rfl ?_
    refine r_aload k151_209 rfl ?_
    refine r_aload k151_210 rfl ?_
    refine j_call (ml := 3) k151_211 rfl (show 0 < d.1 by omega) (show 19 + 3 ≤ d.2 by omega) ⟨Nat.le_of_ble_eq_true rfl, Nat.le_of_ble_eq_true rfl, am_obB hB rfl, Nat.le_of_ble_eq_true rfl⟩ rfl (rest := []) rfl (w_next hM hO hT hr hk8 h3 hN eA ty1 (show 3 ≤ d.1 - 1 by omega) (show 90 ≤ d.2 - (19 + 3) by omega)) (fun r h1 hq => ?_)
    obtain ⟨rfl, h', J', rfl, q⟩ := hq
    show am_wp _ _ _ _ [] _ _
    refine r_goto k151_214 ?_
    exact r_vret k151_283 rfl ⟨rfl, h', J', rfl, q⟩
  · rw [o] at eA ⊢
    refine r_tsIn (t := 217) k151_80 (by decide) rfl (xn ?_)
    have a4 := hT.1.2.2.2.1
    have n192 := hT.1.2.2.2.2
    have ne : ¬ e = f := fun z => by have hq := hT.2.2.1.2.2.2; rw [z, a4] at hq; omega
    have e74 := hT.2.2.1.2.2.1
    have Je : M_j1 J f e = J e := (M_j1_c f74).1 e (fun z => by omega) ne
    have hE := hT.2.2.2.1.2.2.2.2.2.2
    have i1 : jn (M_j1 J f) f 1 = jn J f 1 := by unfold jn; rw [j5 1 (by decide)]
    have p16 : jn J f 1 < 16 := Nat.lt_of_lt_of_le y2.1.1.2 hT.2.2.2.2.1.2.2.2.2.1
    have tn := t_next hM hT hr
    refine l_M_o5 hB ty1 f w e hf hp1 hw9 f74 h77 nw hT.2.2.1.1 hT.2.2.1.2.1 e74 ne (fun j a b => by rw [jn_cg Je, Je]; exact hE.1 j a b) (by rw [i1, j5 1 (by decide)]; exact ⟨y2.1.1.1, p16⟩) hd (by omega) (fun y ty => ?_) (fun y ty => ?_)
    all_goals rw [i1, E_next_cg Je] at y
    · rcases tn with ⟨en, hl⟩ | ⟨p, hp, en, hl⟩
      · refine ⟨rfl, h, _, rfl, Or.inl (t_sum hM hO hT hr hk8 z hN ty ?_)⟩
        rw [eA]
        rcases hl with ⟨q0, q1⟩ | ⟨q0, q1⟩
        · exact R_act_5b q0 q1
        · exact R_act_5d q0 q1
      · rw [en] at y; exact absurd y (nI_pos (Nat.lt_trans (Nat.lt_of_lt_of_le hp hT.2.2.2.2.1.2.2.2.2.1) (by decide)))
    · rcases tn with ⟨en, hl⟩ | ⟨p, hp, en, hl⟩
      · rw [en] at y; exact absurd (show (-1 : Int32) < 0 by decide) y
      · refine ⟨rfl, h, _, rfl, Or.inl (t_sum hM hO hT hr hk8 z hN ty ?_)⟩
        rw [eA]
        rcases hl with ⟨q0, q1, _⟩ | ⟨q0, q1, _⟩
        · exact R_act_5a q0 q1
        · exact R_act_5c q0 q1
  · rw [o] at eA ⊢
    refine r_tsIn (t := 246) k151_80 (by decide) rfl (xm ?_)
    exact l_M_o6 hB ty1 f w a hf hp1 hw9 f74 h77 nw hd (by omega) (fun ty => ⟨rfl, h, _, rfl, t_note hM hO hT hr hk8 h3 hN eA ty1 ty⟩)
  · obtain ⟨ea, hg⟩ := ops.2 o
    rw [o] at eA ⊢
    refine r_tsIn (t := 257) k151_80 (by decide) rfl (xm ?_)
    rw [ea] at eA ⊢
    exact l_M_o7 hB ty1 f w (jn L 69 (tp - 1)) (jx a) hf hp1 hw9 f74 h77 nw ar.1 ar.2.2 hd (by omega) (fun ty => ⟨rfl, h, _, rfl, t_call hM hO hT hr hk8 h3 hN hg eA tyL1 ty⟩)
  · rw [o] at eA ⊢
    refine r_tsIn (t := 266) k151_80 (by decide) rfl (xm ?_)
    exact l_M_o8 hB ty1 f w (jn L 69 (tp - 1)) a hf hp1 hw9 f74 h77 nw ar.1 ar.2.2 hd (by omega) (fun ty => ⟨rfl, h, _, rfl, t_bec hM hO hT hr hk8 h3 hN eA ty1 tyL1 ty⟩)
  · rw [o] at eA ⊢
    refine r_tsIn (t := 275) k151_80 (by decide) rfl (xn ?_)
    exact l_M_o9 hB ty1 f w hf hp1 hw9 f74 h77 nw hd (by omega) (fun ty => ⟨rfl, h, _, rfl, t_swp hM hO hT hr hk8 h3 hN eA ty⟩)
