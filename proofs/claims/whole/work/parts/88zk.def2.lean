/-! define, both sides: the end. -/
theorem sup_T {K L : Nat → Nat → Int32} {c s : Nat} {t v : Int32} (hK : am_ty2 K) (hL : am_ty2 L) (hC : rl_C K L) (hV : Cv K) (hc : c < 12) (hs : s < 12) (ht : t = -1 ∨ ∃ a, a < 12 ∧ t = nI a) (hv : v = -1 ∨ ∃ a, a < 12 ∧ v = nI a) (hn : C_named K c (nI s) ∧ C_named K c t ∧ C_named K c v) (b1 : ¬ C_below K (nI s) c) (b2 : ¬ C_below K t c) (b3 : ¬ C_below K v c) : ∀ e, dir (dT K c s t v) c e → ¬ e = c ∧ ¬ Rea (K 3) e c ∧ ¬ jn K 5 e = 0 := by
  rintro e ⟨k, hk, ne, rfl⟩
  have z : k = 0 ∨ k = 1 ∨ k = 2 := by omega
  rcases z with rfl | rfl | rfl
  · rw [Nat.add_zero, dT_0] at ne ⊢; exact sup_ok hK hL hC hV hc (Or.inr ⟨s, hs, rfl⟩) hn.1 b1 ne
  · rw [dT_1] at ne ⊢; exact sup_ok hK hL hC hV hc ht hn.2.1 b2 ne
  · rw [dT_2] at ne ⊢; exact sup_ok hK hL hC hV hc hv hn.2.2 b3 ne
theorem dT_x {K : Nat → Nat → Int32} {c s : Nat} {t v : Int32} : ∀ x, ¬ x = c → ∀ i, i < 3 → dT K c s t v (3 * x + i) = K 3 (3 * x + i) := fun x n i hi => dT_o (by omega) (by omega) (by omega)
/-- what is kept of the classes, after define -/
theorem Cv_df {K K' : Nat → Nat → Int32} {c s : Nat} {t v : Int32} {n : Nat → Nat} {r : Nat → Nat → Nat} (hK : am_ty2 K) (hV : Cv K) (hc : c < 12) (tyT : tyA (dT K c s t v)) (acT : Acy (dT K c s t v)) (sup : ∀ e, dir (dT K c s t v) c e → ¬ e = c ∧ ¬ Rea (K 3) e c ∧ ¬ jn K 5 e = 0) (hr : ∀ d, d < 12 → bel K c d → Dr (dT K c s t v) d (n d) (r d)) (e3 : K' 3 = dT K c s t v) (P : Pst (bel K c) n r 12 (K 5) (K' 5) (K 4) (K' 4)) : Cv K' ∧ (∀ x, ¬ jn K' 5 x = 0 ↔ x = c ∨ ¬ jn K 5 x = 0) := by
  have e5 : ∀ d, d < 12 → bel K c d → jn K' 5 d = n d := fun d a b => by
    show (K' 5 d).toNatClampNeg = _
    rw [(P.1 d a b).1]
    exact nI_clamp (by have := (hr d a b).1; omega)
  have o5 : ∀ d, ¬ (d < 12 ∧ bel K c d) → jn K' 5 d = jn K 5 d := fun d a => by
    show (K' 5 d).toNatClampNeg = (K 5 d).toNatClampNeg
    rw [P.2.1 d a]
  have th : ∀ x, ¬ jn K' 5 x = 0 ↔ x = c ∨ ¬ jn K 5 x = 0 := fun x => by
    by_cases z : x < 12 ∧ bel K c x
    · rw [e5 x z.1 z.2]
      have := (hr x z.1 z.2).1
      refine ⟨fun _ => z.2.elim Or.inl (fun w => Or.inr w.1), fun _ => by omega⟩
    · rw [o5 x z]
      exact ⟨Or.inr, fun q => q.elim (fun w => absurd ⟨by omega, Or.inl w⟩ z) id⟩
  refine ⟨⟨fun d e hd q => ?_, by rw [e3]; exact acT, fun d hd q => ?_⟩, th⟩
  · rw [e3] at q
    rw [th, th]
    by_cases z : d = c
    · rw [z] at q; exact ⟨Or.inl z, Or.inr (sup e q).2.2⟩
    · have g := hV.1 d e hd ((dir_cg (dT_x d z)).mp q)
      exact ⟨Or.inr g.1, Or.inr g.2⟩
  · rw [e3]
    by_cases z : bel K c d
    · rw [e5 d hd z]
      refine Dr_r (hr d hd z) (fun i hi => ?_)
      show (K' 4 (12 * d + i)).toNatClampNeg = _
      rw [(P.1 d hd z).2 i hi]
      exact nI_clamp (by have := (hr d hd z).2.1 i hi; omega)
    · rw [o5 d (fun w => z w.2)] at q ⊢
      have D := hV.2.2 d hd q
      have nr : ¬ Rea (K 3) d c := fun w => z (Or.inr ⟨q, (C_place_R hK hV hd hc q).mpr w⟩)
      have D2 := Dr_t tyT D hd acT (fun x rx i hi => dT_x x (fun e => nr (by rw [← e]; exact rx)) i hi)
      refine Dr_r D2 (fun i hi => ?_)
      show (K' 4 (12 * d + i)).toNatClampNeg = (K 4 (12 * d + i)).toNatClampNeg
      have b5 := D.1
      rw [P.2.2 _ (fun ⟨d', a, b, i', a', e⟩ => z (by have := (hr d' a b).1; have : d' = d := by omega
                                                      rw [← this]; exact b))]
theorem rd_270 {d : am_D} {h : am_H} {Q : Option Value → am_H → Prop} {K L : Nat → Nat → Int32} {c s : Nat} {t u v : Int32} (hB : am_B h) (hK : am_ty2 K) (hL : am_ty2 L) (hC : rl_C K L) (hV : Cv K) (hc : c < 12) (hs : s < 12) (ht : t = -1 ∨ ∃ a, a < 12 ∧ t = nI a) (hv : v = -1 ∨ ∃ a, a < 12 ∧ v = nI a) (hn : C_named K c (nI s) ∧ C_named K c t ∧ C_named K c v) (b1 : ¬ C_below K (nI s) c) (b2 : ¬ C_below K t c) (b3 : ¬ C_below K v c) (hd : 2 ≤ d.1) (hw : 45 ≤ d.2) {L3 : Nat → Nat → Int32} (T3 : am_ty2 L3) (f3 : ∀ q, ¬ q = 41 → L3 q = L q) (g3 : ∀ j, j < 36 → L3 41 j = dT K c s t v j) (K1 : ∀ L', am_ty2 L' → Dfo K L (C_settle K c (nI s) t v).2 L' → (C_settle K c (nI s) t v).1 = -5 → Q (some (.int (-5))) (am_si h L')) (K2 : ∀ L' n, am_ty2 L' → Dfo K L (K_forgetAll (C_settle K c (nI s) t v).2) L' → 0 < n → n ≤ 12 → (C_settle K c (nI s) t v).1 = nI n → Q (some (.int (nI n))) (am_si h L')) : am_wp d 37 270 [some (.ref 36), some (.int (nI c)), some (.int (nI s)), some (.int t), some (.int u), some (.int v), some (.int (nI 0)), none] [] (am_si h L3) Q := by
  have tyT : tyA (dT K c s t v) := dT_ty hK hs ht hv
  have sup := sup_T hK hL hC hV hc hs ht hv hn b1 b2 b3
  have acT : Acy (dT K c s t v) := Acy_T (ty_A hK (q := 3) (by decide)) tyT hV.2.1 hc dT_x (fun e q => ⟨(sup e q).1, (sup e q).2.1⟩)
  have hD : ∀ d, d < 12 → (∃ n r, Dr (dT K c s t v) d n r) ∨ Dn (dT K c s t v) d := fun d hd => dr_or tyT hd (Acy_d tyT acT hd)
  have hag : ∀ L1 : Nat → Nat → Int32, am_ty2 L1 → L1 41 = L3 41 → ∀ d, d < 12 → agr (dT K c s t v) d L1 := fun L1 ty e d hd => ⟨ty_A ty (q := 41) (by decide), fun x rx i hi => by rw [e]; exact g3 _ (by have := Rea_12 tyT hd rx; omega)⟩
  have hC3 : rl_C K L3 := rl_C_cg3 hC (fun q _ _ a _ => f3 q a)
  have S := st_c hK hc hn.1 hn.2.1 hn.2.2 b1 b2 b3 hD
  refine rd_chk hB hd hw T3 hK hC3 hV hc hD hag (fun bad L4 T4 f4 => ?_) (fun good L4 T4 f4 => ?_) 12 0 L3 rfl T3 (fun _ _ => rfl) (fun d q => by omega)
  · obtain ⟨e, fr⟩ := S.1 bad
    exact K1 L4 T4 (Dfo_0 hC hV fr (fun q a b => by rw [f4 q b, f3 q a])) e
  · have ch : ∀ d : Nat, ∃ p : Nat × (Nat → Nat), d < 12 → bel K c d → Dr (dT K c s t v) d p.1 p.2 := fun d => by
      by_cases z : d < 12 ∧ bel K c d
      · obtain ⟨n, r, D⟩ := good d z.1 z.2
        exact ⟨(n, r), fun _ _ => D⟩
      · exact ⟨(0, fun _ => 0), fun a b => absurd ⟨a, b⟩ z⟩
    obtain ⟨f, hr⟩ := Classical.axiomOfChoice ch
    have hr : ∀ d, d < 12 → bel K c d → Dr (dT K c s t v) d ((fun d => (f d).1) d) ((fun d => (f d).2) d) := hr
    generalize (fun d => (f d).1) = n at hr
    generalize (fun d => (f d).2) = r at hr
    obtain ⟨s1, s2, s3, s4, s5, s6⟩ := S.2 n r hr
    have CV := Cv_df hK hV hc tyT acT sup hr s2 s3
    refine l_Q_d330 hB T4 c s 0 t u v hc hd hw (fun T5 => ?_)
    refine rd_l3 (L := am_u2 L4 37 c (nI 1)) hB hd hw (fun L6 T6 f6 g6 o6 => ?_) 36 0 _ rfl T5 (fun _ _ => rfl) (fun j q => by omega) (fun _ _ => rfl)
    have f46 : ∀ q, ¬ q = 37 → ¬ q = 38 → ¬ q = 41 → ¬ q = 42 → L6 q = L q := fun q a b e g => by rw [f6 q b, fr_u a, f4 q g, f3 q e]
    have x41 : L6 41 = L3 41 := by rw [f6 41 (by decide), fr_u (by decide), f4 41 (by decide)]
    have x40 : L6 40 = K 5 := by rw [f46 40 (by decide) (by decide) (by decide) (by decide)]; exact hC.2.2.1.symm
    have x39 : L6 39 = K 4 := by rw [f46 39 (by decide) (by decide) (by decide) (by decide)]; exact hC.2.2.2.1.symm
    have x37 : ∀ x, ¬ x = c → jn L6 37 x = jn L 37 x := fun x n => by
      show (L6 37 x).toNatClampNeg = (L 37 x).toNatClampNeg
      rw [f6 37 (by decide), u2_ne n, f4 37 (by decide), f3 37 (by decide)]
    have x37c : jn L6 37 c = 1 := by
      show (L6 37 c).toNatClampNeg = 1
      rw [f6 37 (by decide), am_u2_s]; rfl
    have x38 : L6 38 = dT K c s t v := funext fun j => by
      by_cases z : j < 36
      · rw [g6 j z, fr_u (by decide), f4 41 (by decide)]; exact g3 j z
      · rw [o6 j (by omega), fr_u (by decide), f4 38 (by decide), f3 38 (by decide), dT_o (by omega) (by omega) (by omega), hC.2.2.2.2.1]
    refine l_Q_d367 hB T6 c s t u v hc hd hw (fun _ => ?_)
    refine rd_rn (K := K) (L := L6) (bl := bel K c) (n := n) (r := r) hB hd hw (fun k a b => (hr k a b).1.2) (fun k hk L1 ty e _ _ b => (hr k hk b).2.2.2.2 L1 (hag L1 ty (e.trans x41) k hk)) (fun k hk L1 ty e a b => ?_) (fun k hk b => ?_) T6 (fun L7 T7 f7 p7 => ?_) 12 0 L6 rfl T6 (fun _ _ _ _ => rfl) Pst_0
    · have kc : ¬ k = c := fun z => b (Or.inl z)
      rw [x37 k kc] at a
      have th := (th_n hL hC).mp a
      have D := hV.2.2 k hk th
      have nr : ¬ Rea (K 3) k c := fun w => b (Or.inr ⟨th, (C_place_R hK hV hk hc th).mpr w⟩)
      obtain ⟨L2, y1, y2, y3⟩ := D.2.2.2.2 L1 ⟨ty_A ty (q := 41) (by decide), fun x rx i hi => by
        have xc : ¬ x = c := fun z => nr (by rw [← z]; exact rx)
        have x12 := Rea_12 (ty_A hK (q := 3) (by decide)) hk rx
        rw [e, x41, g3 _ (by omega)]
        exact dT_x x xc i hi⟩
      have j40 : jn L6 40 k = jn K 5 k := by
        show (L6 40 k).toNatClampNeg = (K 5 k).toNatClampNeg
        rw [x40]
      rw [j40, x39]
      refine ⟨L2, y1, fun i hi => (y2 i hi).trans ?_, y3⟩
      exact (ty_n hK (q := 4) (B := 12) (by decide) (by decide) (12 * k + i)).1.symm
    · by_cases z : k = c
      · rw [z, x37c]; decide
      · rw [x37 k z]
        exact (th_n hL hC).mpr (b.resolve_left z).1
    · rw [x40, x39] at p7
      obtain ⟨e5, e4⟩ := Pst_u s3 p7
      refine l_Q_d450 hB T7 c s t u v hc hd hw (fun _ => ?_)
      refine rd_l6 (L := L7) hB hd hw (fun L8 T8 f8 g8 => ?_) 5 0 L7 rfl T7 (fun _ _ => rfl) (fun g q => by omega)
      refine l_Q_d471 hB T8 c s 0 t u v hc hd hw (fun _ => ?_)
      have nc := (hr c hc (Or.inl rfl)).1
      have jc : jn L8 40 c = n c := by
        show (L8 40 c).toNatClampNeg = _
        rw [f8 40 (by decide), (p7.1 c hc (Or.inl rfl)).1]
        exact nI_clamp (by omega)
      rw [jc]
      have fk : ∀ q, ¬ q = 24 → ¬ q = 25 → K_forgetAll (C_settle K c (nI s) t v).2 q = (C_settle K c (nI s) t v).2 q := fun q a b => fr_K_forgetAll q ⟨a, b⟩
      have f78 : ∀ q, ¬ q = 39 → ¬ q = 40 → ¬ q = 42 → ¬ q = 58 → L8 q = L6 q := fun q a b e g => by rw [f8 q g, f7 q a b e]
      have j37 : ∀ x, jn L8 37 x = jn L6 37 x := fun x => jn_cg (f78 37 (by decide) (by decide) (by decide) (by decide))
      have k5 : ∀ x, jn (K_forgetAll (C_settle K c (nI s) t v).2) 5 x = jn (C_settle K c (nI s) t v).2 5 x := fun x => jn_cg (fk 5 (by decide) (by decide))
      refine K2 L8 (n c) T8 ⟨⟨?_, ?_, ?_, ?_, ?_, fun x => ?_⟩, Cv_cg CV.1 (fk 3 (by decide) (by decide)) (fk 4 (by decide) (by decide)) (fk 5 (by decide) (by decide)), fun e => ?_, Or.inr ⟨_, rfl, fun q a1 a2 a3 a4 a5 a6 => s4 q a1 a2 a3 a4 a5 a6, fun q a b => ?_, g8⟩⟩ nc.1 nc.2 s1
      · rw [fk 6 (by decide) (by decide), s4 6 (by decide) (by decide) (by decide) (by decide) (by decide) (by decide), f78 43 (by decide) (by decide) (by decide) (by decide), f46 43 (by decide) (by decide) (by decide) (by decide)]; exact hC.1
      · rw [fk 7 (by decide) (by decide), s4 7 (by decide) (by decide) (by decide) (by decide) (by decide) (by decide), f78 44 (by decide) (by decide) (by decide) (by decide), f46 44 (by decide) (by decide) (by decide) (by decide)]; exact hC.2.1
      · rw [fk 5 (by decide) (by decide), f8 40 (by decide)]; exact e5
      · rw [fk 4 (by decide) (by decide), f8 39 (by decide)]; exact e4
      · rw [fk 3 (by decide) (by decide), s2, f78 38 (by decide) (by decide) (by decide) (by decide), x38]
      · rw [k5, CV.2 x, j37]
        by_cases z : x = c
        · rw [z, x37c]; exact ⟨fun _ => Or.inl rfl, fun _ => rfl⟩
        · rw [x37 x z, hC.2.2.2.2.2 x]
          exact ⟨Or.inr, fun q => q.resolve_left z⟩
      · rw [fk 2 (by decide) (by decide)]
        by_cases z : jn K 5 c = 0
        · rw [s5 z, e]
          have n0 : ¬ ¬ jn L 37 c = 0 := fun q => (th_n hL hC).mp q z
          have g := cn_set (p := fun c => ¬ jn L 37 c = 0) (q := fun c => ¬ jn L8 37 c = 0) (j := c) n0 (by show ¬ jn L8 37 c = 0; rw [j37, x37c]; decide) 12 hc (fun i _ ne => by show ¬ jn L 37 i = 0 ↔ ¬ jn L8 37 i = 0; rw [j37, x37 i ne])
          rw [g]
          exact nI_1 _
        · rw [s6 z, e]
          refine congrArg nI (cn_congr 12 (fun i _ => ?_))
          by_cases zi : i = c
          · rw [zi, j37, x37c]
            exact ⟨fun _ => by decide, fun _ => (th_n hL hC).mpr z⟩
          · rw [j37, x37 i zi]
      · rw [f78 q (by omega) (by omega) (by omega) b]
        exact f46 q (by omega) (by omega) (by omega) (by omega)
theorem rd_205 {d : am_D} {h : am_H} {Q : Option Value → am_H → Prop} {K L : Nat → Nat → Int32} {c s : Nat} {t u v : Int32} (hB : am_B h) (hK : am_ty2 K) (hL : am_ty2 L) (hC : rl_C K L) (hV : Cv K) (hc : c < 12) (hs : s < 12) (ht : t = -1 ∨ ∃ a, a < 12 ∧ t = nI a) (hv : v = -1 ∨ ∃ a, a < 12 ∧ v = nI a) (hn : C_named K c (nI s) ∧ C_named K c t ∧ C_named K c v) (b1 : ¬ C_below K (nI s) c) (b2 : ¬ C_below K t c) (b3 : ¬ C_below K v c) (hd : 2 ≤ d.1) (hw : 45 ≤ d.2) (K1 : ∀ L', am_ty2 L' → Dfo K L (C_settle K c (nI s) t v).2 L' → (C_settle K c (nI s) t v).1 = -5 → Q (some (.int (-5))) (am_si h L')) (K2 : ∀ L' n, am_ty2 L' → Dfo K L (K_forgetAll (C_settle K c (nI s) t v).2) L' → 0 < n → n ≤ 12 → (C_settle K c (nI s) t v).1 = nI n → Q (some (.int (nI n))) (am_si h L')) : am_wp d 37 205 [some (.ref 36), some (.int (nI c)), some (.int (nI s)), some (.int t), some (.int u), some (.int v), none, none] [] (am_si h L) Q := by
  refine l_Q_d205 hB hL c s t u v hc hd hw (fun _ => ?_)
  refine rd_l1 (L := L) hB hd hw (fun L2 T2 f2 g2 => ?_) 36 0 L rfl hL (fun _ _ => rfl) (fun j q => by omega)
  refine l_Q_d235 hB T2 c s 0 t u v hc hs ht hv hd hw (fun T3 => ?_)
  refine rd_270 hB hK hL hC hV hc hs ht hv hn b1 b2 b3 hd hw T3 (fun q a => by rw [fr_u a, fr_u a, fr_u a, f2 q a]) (fun j hj => ?_) K1 K2
  by_cases z2 : j = 3 * c + 2
  · rw [z2, am_u2_s, dT_2]
  by_cases z1 : j = 3 * c + 1
  · rw [z1, u2_ne (by omega), am_u2_s, dT_1]
  by_cases z0 : j = 3 * c
  · rw [z0, u2_ne (by omega), u2_ne (by omega), am_u2_s, dT_0]
  rw [u2_ne z2, u2_ne z1, u2_ne z0, g2 j hj, dT_o z0 z1 z2, hC.2.2.2.2.1]
/-- define: the reference answers as the class does -/
theorem w_def {d : am_D} {h : am_H} {K L : Nat → Nat → Int32} {c s t u : Int32} (hB : am_B h) (hK : am_ty2 K) (hL : am_ty2 L) (hC : rl_C K L) (hV : Cv K) (hd : 2 ≤ d.1) (hw : 45 ≤ d.2) : am_wp d 37 0 [some (.ref 36), some (.int c), some (.int s), some (.int t), some (.int u), none, none, none] [] (am_si h L) (fun r hh => ∃ L', r = some (.int (D_define K c s t u).1) ∧ hh = am_si h L' ∧ am_ty2 L' ∧ Dfo K L (D_define K c s t u).2 L') := by
  have same : Dfo K L K L := Dfo_0 hC hV (fun _ _ _ => rfl) (fun _ _ _ => rfl)
  have dv : w_in c (nI 1) (nI 11) → w_sup s t u → D_define K c s t u = am_ite ((C_settle K (jx c) s t (d_v t u)).1 ≤ 0) ((C_settle K (jx c) s t (d_v t u)).1, (C_settle K (jx c) s t (d_v t u)).2) ((C_settle K (jx c) s t (d_v t u)).1, K_forgetAll (C_settle K (jx c) s t (d_v t u)).2) := fun a b => by
    unfold D_define d_v
    rw [am_ite_t a, am_ite_t b]
    by_cases z : t = -1
    · rw [am_ite_t z, am_ite_t z]
    · rw [am_ite_f z, am_ite_f z]
  refine rd_0 hB hL hK hC hV hd hw (fun z => ?_) (fun a b z => ?_) (fun a b n z => ?_) (fun c' s' ec c0 c12 es s12 ht hv b n b1 b2 b3 => ?_)
  · have e : D_define K c s t u = (-1, K) := by
      unfold D_define
      by_cases z1 : w_in c (nI 1) (nI 11)
      · rw [am_ite_t z1, am_ite_f (fun q => z ⟨z1, q⟩)]
      · rw [am_ite_f z1]
    rw [e]
    exact ⟨L, rfl, rfl, hL, same⟩
  · have e : C_settle K (jx c) s t (d_v t u) = (-2, K) := by
      unfold C_settle
      by_cases z1 : C_named K (jx c) s
      · rw [am_ite_t z1]
        by_cases z2 : C_named K (jx c) t
        · rw [am_ite_t z2, am_ite_f (fun q => z ⟨z1, z2, q⟩)]
        · rw [am_ite_f z2]
      · rw [am_ite_f z1]
    rw [dv a b, e, am_ite_t (show ((-2 : Int32) ≤ 0) by decide)]
    exact ⟨L, rfl, rfl, hL, same⟩
  · have e : C_settle K (jx c) s t (d_v t u) = (-4, K) := by
      unfold C_settle
      rw [am_ite_t n.1, am_ite_t n.2.1, am_ite_t n.2.2]
      by_cases z1 : C_below K s (jx c)
      · rw [am_ite_t z1]
      · rw [am_ite_f z1]
        by_cases z2 : C_below K t (jx c)
        · rw [am_ite_t z2]
        · rw [am_ite_f z2, am_ite_t ((z.resolve_left z1).resolve_left z2)]
    rw [dv a b, e, am_ite_t (show ((-4 : Int32) ≤ 0) by decide)]
    exact ⟨L, rfl, rfl, hL, same⟩
  · have wc : w_in c (nI 1) (nI 11) := by
      rw [ec, w_in_iff, nI_toInt (show 1 < 2 ^ 31 by decide), nI_toInt (show c' < 2 ^ 31 by omega), nI_toInt (show 11 < 2 ^ 31 by decide)]
      omega
    have jc : jx c = c' := by rw [ec]; exact jx_nI (by omega)
    have dv' := dv wc b
    rw [jc, es] at dv'
    rw [es] at n b1 ⊢
    refine rd_205 hB hK hL hC hV c12 s12 ht hv n b1 b2 b3 hd hw (fun L' T' D e => ?_) (fun L' m T' D m0 m12 e => ?_)
    · rw [dv', e, am_ite_t (by decide)]
      exact ⟨L', rfl, rfl, T', D⟩
    · have np : ¬ nI m ≤ 0 := fun q => by
        rw [Int32.le_iff_toInt_le, nI_toInt (by omega)] at q
        have : (0 : Int32).toInt = 0 := by decide
        omega
      rw [dv', e, am_ite_f np]
      exact ⟨L', rfl, rfl, T', D⟩
