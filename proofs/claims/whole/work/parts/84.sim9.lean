/-! Turns: the befores and the afters are opened. -/
/-- a frame just opened, no middle -/
theorem fR_new {J J' L L' : Nat → Nat → Int32} {f u l tp p : Nat} (hL : am_ty2 L) (kL : keL L L') (hs : s_sz L l ≤ 16) (hl : l < 12) (hp : p < s_sz L l) (hm : ¬ p = s_pr L l) (j21 : J 21 = L 54) (hrow : jn J u p = jn L 59 ((16 * ((4 * l) + kdp L l p)) + plp L l p)) (o12 : J' f 1 = nI p ∧ J' f 2 = nI (jn J 21 (jn J u p)) ∧ J' f 3 = nI 0 ∧ J' f 4 = nI 0 ∧ J' f 5 = nI 0 ∧ J' f 6 = nI 0) (o13 : J' f 7 = nI 0 ∧ J' f 8 = nI 0 ∧ J' f 9 = nI 0) (g64 : L' 64 tp = nI l) (g65 : L' 65 tp = nI (kdp L l p)) (g66 : L' 66 tp = nI (plp L l p)) (g67 : L' 67 tp = nI 0) (g68 : L' 68 tp = nI 0) (g69 : L' 69 tp = L 61 l) (g70 : L' 70 tp = L 62 l) (g71 : L' 71 tp = nI (jn L 54 (jn L 59 ((16 * ((4 * l) + kdp L l p)) + plp L l p)))) : fR J' L' f l tp (tp + 1) := by
  obtain ⟨k1, k2, k3, k4, k5⟩ := keL_mk kL l
  have lt := plp_lt hs hp
  have b54 := ty_n hL (q := 54) (B := 8) (by decide) (by decide) (jn L 59 ((16 * ((4 * l) + kdp L l p)) + plp L l p))
  have e2 : J' f 2 = nI (jn L 54 (jn L 59 ((16 * ((4 * l) + kdp L l p)) + plp L l p))) := by rw [o12.2.1, hrow, jn_e j21]
  have i1 : jn J' f 1 = p := by unfold jn; rw [o12.1]; exact nI_clamp (by omega)
  have i2 : jn J' f 2 = jn L 54 (jn L 59 ((16 * ((4 * l) + kdp L l p)) + plp L l p)) := by unfold jn at b54 e2 ⊢; rw [e2]; exact nI_clamp (by omega)
  have z0 : ∀ j, J' f j = nI 0 → jn J' f j = 0 := fun j hj => by unfold jn; rw [hj]; rfl
  refine ⟨⟨⟨by rw [i1]; exact o12.1, by rw [i1, k4]; exact hp⟩, ⟨by rw [i2]; exact e2, by rw [i2]; exact b54.2⟩, ⟨by rw [z0 4 o12.2.2.2.1]; exact o12.2.2.2.1, by rw [z0 4 o12.2.2.2.1]; decide⟩, ⟨by rw [z0 7 o13.1]; exact o13.1, by rw [z0 7 o13.1]; decide⟩, ⟨by rw [z0 8 o13.2.1]; exact o13.2.1, by rw [z0 8 o13.2.1]; decide⟩⟩, Or.inr ⟨by rw [i1, k2]; exact hm, Or.inl o12.2.2.2.2.1, o13.2.2, z0 7 o13.1, z0 8 o13.2.1, rfl, ?_⟩⟩
  rw [i1, show kdp L' l p = kdp L l p by unfold kdp; rw [k1, k2, k3], show plp L' l p = plp L l p by unfold plp; rw [k1, k2, k3, k4]]
  refine ⟨?_, ?_, ?_, ?_, by rw [g68, o12.2.2.1], ?_, Or.inl ⟨o12.2.2.2.2.2, by rw [g69, kL 61 (by decide) (by decide)], by rw [g70, kL 62 (by decide) (by decide)]⟩⟩
  · unfold jn; rw [g64]; exact nI_clamp (by omega)
  · unfold jn; rw [g65]; exact nI_clamp (by omega)
  · unfold jn; rw [g66]; exact nI_clamp (by omega)
  · rw [z0 4 o12.2.2.2.1]; unfold jn; rw [g67]; rfl
  · rw [i2]; unfold jn at b54 g71 ⊢; rw [g71]; exact nI_clamp (by omega)
/-- a middle just opened -/
theorem fR_newM {J J' L L' : Nat → Nat → Int32} {f u l tp p : Nat} (hL : am_ty2 L) (kL : keL L L') (hs : s_sz L l ≤ 16) (h0 : 0 < mk L l 0) (hl : l < 12) (hm : p = s_pr L l) (j21 : J 21 = L 54) (hrow : jn J u p = jn L 59 ((16 * ((4 * l) + kdp L l p)) + plp L l p)) (o12 : J' f 1 = nI p ∧ J' f 2 = nI (jn J 21 (jn J u p)) ∧ J' f 3 = nI 0 ∧ J' f 4 = nI 0 ∧ J' f 5 = nI 0 ∧ J' f 6 = nI 0) (o14 : J' f 7 = nI (s_bf L l) ∧ J' f 8 = nI (s_pr L l) ∧ J' f 9 = nI 1) (g64 : L' 64 tp = nI l) (g65 : L' 65 tp = nI 9) (g67 : L' 67 tp = nI 0) : fR J' L' f l tp (tp + 1) := by
  obtain ⟨k1, k2, k3, k4, k5⟩ := keL_mk kL l
  have kp : kdp L l p = 0 ∧ plp L l p = 0 := by
    rw [hm]
    unfold kdp plp s_bf s_pr s_af
    rw [if_neg (by omega), if_neg (by omega), if_pos (by omega), if_neg (by omega), if_neg (by omega), if_pos (by omega)]
    exact ⟨rfl, by omega⟩
  have psz : p < s_sz L l := by rw [hm]; unfold s_pr s_sz; omega
  rw [kp.1, kp.2, show 16 * (4 * l + 0) + 0 = 64 * l by omega] at hrow
  have b54 := ty_n hL (q := 54) (B := 8) (by decide) (by decide) (jn L 59 (64 * l))
  have e2 : J' f 2 = nI (jn L 54 (jn L 59 (64 * l))) := by rw [o12.2.1, hrow, jn_e j21]
  have i1 : jn J' f 1 = p := by unfold jn; rw [o12.1]; exact nI_clamp (by omega)
  have i2 : jn J' f 2 = jn L 54 (jn L 59 (64 * l)) := by unfold jn at b54 e2 ⊢; rw [e2]; exact nI_clamp (by omega)
  have z4 : jn J' f 4 = 0 := by unfold jn; rw [o12.2.2.2.1]; rfl
  have bp : s_bf L l ≤ s_pr L l ∧ s_pr L l ≤ 16 := by unfold s_bf s_pr s_sz at *; omega
  have i7 : jn J' f 7 = s_bf L l := by unfold jn; rw [o14.1]; exact nI_clamp (by omega)
  have i8 : jn J' f 8 = s_pr L l := by unfold jn; rw [o14.2.1]; exact nI_clamp (by omega)
  refine ⟨⟨⟨by rw [i1]; exact o12.1, by rw [i1, k4]; exact psz⟩, ⟨by rw [i2]; exact e2, by rw [i2]; exact b54.2⟩, ⟨by rw [z4]; exact o12.2.2.2.1, by rw [z4]; decide⟩, ⟨by rw [i7]; exact o14.1, by rw [i7]; omega⟩, ⟨by rw [i8]; exact o14.2.1, by rw [i8]; omega⟩⟩, Or.inl ⟨by rw [i1, k2]; exact hm, by unfold jn; rw [g65]; rfl, by unfold jn; rw [g64]; exact nI_clamp (by omega), Or.inl ⟨o12.2.2.2.2.1, o14.2.2, o12.2.2.2.2.2, o12.2.2.1, o12.2.2.2.1, by rw [i7, k1]; exact Nat.le_refl _, by rw [i7, k2]; exact bp.1, by rw [i8, k2], ?_, rfl, ?_⟩⟩⟩
  · rw [i7, k1]; unfold jn; rw [g67, Nat.sub_self]; rfl
  · rw [i2, jn_cg (kL 54 (by decide) (by decide)), jn_cg (kL 59 (by decide) (by decide))]
theorem dpt_pr {L : Nat → Nat → Int32} {l : Nat} (h0 : 0 < mk L l 0) : dpt L l (s_pr L l) = s_bf L l := by
  unfold dpt
  rw [if_neg (by unfold s_bf s_pr; omega), if_neg (by omega), if_pos (by unfold s_pr s_af; omega)]
  omega
theorem dpt_as {L : Nat → Nat → Int32} {l p : Nat} (h : asd L l p) : dpt L l p = s_bf L l + 1 := by
  unfold dpt
  unfold asd at h
  rcases h with z | z
  · rw [if_neg (by omega), if_pos z.2]
  · rw [if_neg (by unfold s_bf s_af at *; omega), if_neg (by unfold s_pr s_af at *; omega), if_neg (by omega)]
theorem asd_ne {L : Nat → Nat → Int32} {l p : Nat} (h0 : 0 < mk L l 0) (h : asd L l p) : ¬ p = s_pr L l ∧ ¬ p < s_bf L l := by
  unfold asd at h
  unfold s_bf s_pr s_af at *
  omega
theorem tb_s {t0 n l : Nat} (h : t0 ≤ n + l) : t0 + 1 ≤ n + 1 + l + 1 := by omega
theorem s1 {t : Nat} : t + 1 - 1 = t := by omega
/-- the reference opens an aside, and the frames stand beside each other -/
theorem t_asd0 {h h' : am_H} {J L J' : Nat → Nat → Int32} {lab lab' : Nat → Nat} {n tp lv c f w e u t0 lv0 c0 f2 kd pl : Nat} (hM : Mst h J L lab (n + 1) tp lv c) (hT : Top h J L lab n tp lv c f w e u t0 lv0 c0) (rw0 : RW L) (hp : jn J f 1 = s_pr L (lv - 1)) (h9 : jn L 65 t0 = 9) (h64 : jn L 64 t0 = lv - 1) (hB' : am_B h') (ty : am_ty2 J') (hW' : am_W h' J' lab') (o : opn h (am_u2 J f 7 (nI ((jn J f 7) + 1))) h' J' lab lab' (n + 1) f2 w e u (jn J f 7)) (etp : tp = t0 + 1) (eM : R_mid L t0 = R_begin (am_u2 L 67 t0 (nI ((jn L 67 t0) + 1))) kd pl) (hk : kd < 3) (ekd : kd = kdp L (lv - 1) (jn J f 7)) (epl : pl = plp L (lv - 1) (jn J f 7)) (psz : jn J f 7 < s_sz L (lv - 1)) (pas : asd L (lv - 1) (jn J f 7)) (k67 : ¬ jn L 67 t0 = mk L (lv - 1) 1) (dec : 4 * (jn J f 8 - (jn J f 7 + 1)) + 2 < 4 * (jn J f 8 - jn J f 7)) (hf2 : ∀ L', keL L L' → jn L' 67 t0 = jn L 67 t0 + 1 → (∀ q, 64 ≤ q → q ≤ 71 → ¬ q = 67 → L' q t0 = L q t0) → (∀ j, ¬ j = 7 → J' f j = J f j) → jn J' f 7 = jn J f 7 + 1 → J' 28 = J 28 → fmA J' L' f (lv - 1) t0 tp ∨ fmC J' L' f (lv - 1) t0 tp) : ∃ L' c', rstp L L' ∧ Mst h' J' L' lab' (n + 2) (tp + 1) lv c' ∧ c' < c ∧ chL L L' ∧ jn L' 36 41 = jn L 36 41 := by
  subst etp
  have m1 := hM.1.1
  have m3 := hM.1.2.2.1
  have x39 : jn L 36 39 = t0 + 1 := hM.2.1.2.2.2.1
  have lv38 : jn L 36 38 = lv := hM.2.1.2.2.2.2 (Nat.succ_pos n)
  have tt : jn L 36 39 - 1 = t0 := by rw [x39]; exact s1
  have y2 := hT.2.2.2.2.2.2.2.2.1
  have s := hT.2.2.2.2.1
  have eW : R_work L = (nI 1, R_begin (am_u2 L 67 t0 (nI ((jn L 67 t0) + 1))) kd pl) := by
    rw [R_work_9 (by rw [tt]; exact h9), tt, eM]
  have tyL := R_work_t h m1 m3 rw0 eW
  have k19 : jn L 67 t0 < 19 := by have q := rw0.2.2.2.1; rw [tt] at q; exact q
  have k31 : jn L 67 t0 + 1 < 2 ^ 31 := Nat.lt_trans (Nat.succ_lt_succ k19) (by decide)
  have l1 : am_ty2 (am_u2 L 67 t0 (nI ((jn L 67 t0) + 1))) := ty_w m3 (tw_n (B := 20) (by decide) (by decide) (by decide) (Nat.succ_lt_succ k19))
  obtain ⟨g1, g2, g3, g4, g5⟩ := R_begin_N l1 (kd := kd) (pl := pl) (fun z => absurd hk (by rw [z]; decide))
  obtain ⟨q1, q2, q3, q4, q5⟩ := bg_ch g1 rfl
  have g11 := g1.1
  have b3 := g1.2.2.1 67 (by decide) (by decide) t0
  generalize R_begin (am_u2 L 67 t0 (nI ((jn L 67 t0) + 1))) kd pl = L' at *
  have x36 : ∀ j, jn (am_u2 L 67 t0 (nI ((jn L 67 t0) + 1))) 36 j = jn L 36 j := fun j => jn_cg (fr_u (by decide))
  have x61 : ∀ q, ¬ q = 67 → (am_u2 L 67 t0 (nI ((jn L 67 t0) + 1))) q = L q := fun q hq => fr_u hq
  rw [x36, x39] at g3 g4 g11 b3
  unfold bgF at g2
  rw [x36, x39, x36, lv38, x61 61 (by decide), x61 62 (by decide)] at g2
  rw [x36, lv38, jn_cg (x61 54 (by decide)), jn_cg (x61 59 (by decide))] at g4
  rw [x61 73 (by decide)] at g5
  have tn : ¬ t0 = t0 + 1 := fun z => absurd z (Nat.ne_of_lt (Nat.lt_succ_self t0))
  have n67 : jn L' 67 t0 = jn L 67 t0 + 1 := by
    have q : L' 67 t0 = nI (jn L 67 t0 + 1) := by rw [b3 tn, am_u2_s]
    show (L' 67 t0).toNatClampNeg = _
    rw [q]
    exact nI_clamp k31
  have lo0 : ∀ q, 64 ≤ q → q ≤ 71 → ¬ q = 67 → L' q t0 = L q t0 := fun q a b z => q5 q a b t0 (by rw [x39]; exact tn) (fun z2 => absurd z2 z)
  have kL := chL_ke q1
  obtain ⟨k1, k2, k3, k4, k5⟩ := keL_mk kL (lv - 1)
  rw [ekd, epl] at g4
  rw [ekd] at g3
  rw [epl] at g2
  have s16 := s.2.2.2.2.1
  have s0 := s.2.2.2.2.2
  have l12 : lv - 1 < 12 := Nat.lt_of_lt_of_le (Nat.sub_lt hT.2.2.2.2.2.2.2.1 (by decide)) hM.2.1.2.1
  have pne := asd_ne s0 pas
  have o0 := o
  obtain ⟨o1, ⟨o2, o3, o4, o5⟩, ⟨o6, o7⟩, ⟨o8, o9, o10⟩, o11, o12, o13, o14⟩ := o
  have a4 := hT.1.2.2.2.1
  have ff2 : ¬ f = f2 := fun z => by
    have g := (o7 f hT.1.2.1.2.1).1
    rw [z, o4, ← z, a4] at g
    exact absurd (Nat.add_left_cancel g) (fun z => absurd z.symm (Nat.ne_of_lt (Nat.lt_succ_self n)))
  have gf := (o11 f hT.1.2.2.1 hT.1.2.1.2.1 ff2).1
  have f7b := y2.1.2.2.2.1.2
  have fj : ∀ j, ¬ j = 7 → J' f j = J f j := fun j hj => by rw [gf, u2_ne hj]
  have f7 : J' f 7 = nI (jn J f 7 + 1) := by rw [gf, am_u2_s]
  have jj : ∀ j, ¬ j = 7 → jn J' f j = jn J f j := fun j hj => by unfold jn; rw [fj j hj]
  have p31 : jn J f 7 < 16 := Nat.lt_of_lt_of_le psz s16
  have j7 : jn J' f 7 = jn J f 7 + 1 := by
    show (J' f 7).toNatClampNeg = _
    rw [f7]
    exact nI_clamp (Nat.lt_trans (Nat.succ_lt_succ p31) (by decide))
  have Jo : ∀ q, ¬ q = f → am_u2 J f 7 (nI ((jn J f 7) + 1)) q = J q := fun q hq => fr_u hq
  have f74 := hT.1.2.2.1
  have Jf : ∀ q, q < 74 → am_u2 J f 7 (nI ((jn J f 7) + 1)) q = J q := fun q hq => fr_u (fun z => absurd hq (by rw [z]; exact Nat.not_lt.mpr f74))
  have ge := hT.2.2.1.2.2.2
  have gu := hT.2.2.2.1.2.2.2.2.1
  have n192 := hT.1.2.2.2.2
  have nef : ∀ q, 1000 ≤ lab q → ¬ q = f := fun q hq z => by rw [z, a4] at hq; omega
  rw [jn_cg (Jf 21 (by decide)), jn_cg (Jo u (nef u gu))] at o12
  rw [jn_cg (Jo e (nef e ge)), s.2.1] at o13
  have q28 : J' 28 = J 28 := (o8 28 (by decide) (by decide)).trans (Jf 28 (by decide))
  have p4 := (hM.2.2.2.2.1.2 f (Nat.succ_pos n) hT.1.1).1 (Or.inl hp)
  have hR2 := fR_new (J := J) (J' := J') (u := u) m3 kL s16 l12 psz pne.1 hM.2.2.2.2.2.2.2.2.2.2 (hT.2.2.2.2.2.1 _ psz) o12 (o13 pne.1) g2.1 g3 g2.2.1 g2.2.2.1 g2.2.2.2.1 g2.2.2.2.2.1 g2.2.2.2.2.2 g4
  have h9' : jn L' 65 t0 = 9 := by unfold jn at h9 ⊢; rw [lo0 65 (by decide) (by decide) (by decide)]; exact h9
  have hR : fR J' L' f (lv - 1) t0 (t0 + 1) := ⟨fty_w y2.1 k4 (fj 1 (by decide)) (fj 2 (by decide)) (by rw [jj 4 (by decide), fj 4 (by decide)]; exact y2.1.2.2.1) (by rw [j7, f7]; exact ⟨rfl, p31⟩) (by rw [jj 8 (by decide), fj 8 (by decide)]; exact y2.1.2.2.2.2), Or.inl ⟨by rw [jj 1 (by decide), k2]; exact hp, h9', by unfold jn at h64 ⊢; rw [lo0 64 (by decide) (by decide) (by decide)]; exact h64, by rcases hf2 L' kL n67 lo0 fj j7 q28 with z | z; exact Or.inl z; exact Or.inr (Or.inr z)⟩⟩
  have i1 : jn J' f2 1 = jn J f 7 := by
    show (J' f2 1).toNatClampNeg = _
    rw [o12.1]
    exact nI_clamp (Nat.lt_trans p31 (by decide))
  have hA2 : adj h' J' L' f2 (n + 1) (t0 + 1) (lv - 1) lv := ⟨fun _ => ⟨Nat.succ_pos n, (Nat.sub_add_cancel hT.2.2.2.2.2.2.2.1).symm, by rw [s1]; exact h9', by rw [s1, k5 1 (by decide), n67]; exact fun z => k67 (Nat.succ.inj z)⟩, fun z => absurd (by unfold asd at pas ⊢; rw [i1, k1, k2, k3]; exact pas) z⟩
  have dd : n = jn J w 5 + s_bf L (lv - 1) := by
    have q := hT.2.2.2.2.2.2.2.2.2.2.1
    rw [hp, dpt_pr s0] at q
    exact q
  have t0b := hT.2.2.2.2.2.2.2.2.2.2.2.1.2 (Or.inr hp)
  have b9 := rw0.2.2.1
  rw [x39] at b9
  refine ⟨L', _, Or.inr ⟨rw0, eW⟩, Mst_push (J0 := am_u2 J f 7 (nI ((jn J f 7) + 1))) hM hT hB' ty hW' tyL (fun q _ hq => Jo q hq) ⟨fun q _ hq => Jf q (Nat.lt_of_le_of_lt hq (by decide)), by rw [Jf 10 (by decide)]⟩ (u2_ne (by decide)) o0 kL (fun q a b j hj => q5 q a b j (by rw [x39]; exact Nat.ne_of_lt (Nat.lt_succ_of_lt hj)) (fun _ => Nat.ne_of_lt hj)) (by rw [Jf 33 (by decide)]) q2 (by show (L' 36 39).toNatClampNeg = _; rw [g11]; exact nI_clamp (Nat.lt_trans (Nat.succ_lt_succ b9) (by decide))) (by rw [Jf 33 (by decide)]; exact hM.2.2.2.2.2.1.1) (by rw [Jf 33 (by decide)]; exact hM.2.2.2.2.2.1.2.1) (by rw [jn_cg (Jf 33 (by decide))]; have m15 := hM.2.2.2.2.2.1.2.2.1; unfold jn at m15 ⊢; rw [q3]; exact m15) (by rw [Jf 33 (by decide), q4]; exact hM.2.2.2.2.2.1.2.2.2) hR hR2 hA2 (by rw [dpt_as pas, dd, Nat.add_assoc]) ⟨tb_s t0b, fun z => by rcases z with z | z; exact absurd z pne.2; exact absurd z pne.1⟩ p31 ⟨fun z => absurd z pne.1, fun _ => by rw [g5, Jf 33 (by decide), p4]⟩, ?_, q1, by unfold jn; rw [q3]⟩
  have y7 := hT.2.2.2.2.2.2.2.2.2.2.2.2.2.1
  have c2 : ct J' L' f2 (lv - 1) = 2 := by
    have q7 := o13 pne.1
    unfold ct jn
    rw [q7.1, q7.2.1, q7.2.2, o12.2.2.2.2.1, if_neg nI_01, if_neg nI_01]
    rfl
  rw [y7, c2]
  unfold ct
  rw [jj 8 (by decide), j7, fj 9 (by decide), fj 5 (by decide), k5 2 (by decide)]
  generalize 4 * (jn J f 8 - (jn J f 7 + 1)) = x1 at *
  generalize 4 * (jn J f 8 - jn J f 7) = x2 at *
  generalize (if J f 9 = nI 1 then 4 * mk L (lv - 1) 2 + 1 else 0) = x3
  generalize (if J f 5 = nI 1 then 0 else 1) = x4
  clear hT hM hR hR2 hA2 g2 g3 g4 g5 g11 b3 q1 q2 q3 q4 q5 o12 o13 o14 o11
  omega
theorem ar_a {a b bf pr m3 m1 : Nat} (hb : bf = m3) (hp : pr = m3 + m1) (h1 : bf ≤ a) (h2 : a < pr) (hk : b = a - bf) : b < m1 ∧ ¬ b = m1 ∧ a + 1 - bf = b + 1 ∧ bf ≤ a + 1 ∧ a + 1 ≤ pr ∧ ¬ a < bf ∧ ¬ a = pr := by omega
theorem ar_c {a b af sz m1 m2 : Nat} (hz : sz = af + m2) (h1 : af ≤ a) (h2 : a < sz) (hk : b = m1 + 1 + (a - af)) : m1 < b ∧ b ≤ m1 + m2 ∧ ¬ b = m1 ∧ m2 - (b - m1) = sz - 1 - a ∧ m1 + 1 + (a + 1 - af) = b + 1 ∧ af ≤ a + 1 ∧ a + 1 ≤ sz := by omega
theorem ar_d {a b : Nat} (h : ¬ b ≤ a) : 4 * (b - (a + 1)) + 2 < 4 * (b - a) := by omega
theorem s_le {L : Nat → Nat → Int32} {l : Nat} : s_bf L l ≤ s_pr L l ∧ s_pr L l ≤ s_af L l ∧ s_af L l ≤ s_sz L l := by unfold s_bf s_pr s_af s_sz; omega
/-- a before or an after is opened -/
theorem t_asd {h h' : am_H} {J L J' : Nat → Nat → Int32} {lab lab' : Nat → Nat} {n tp lv c f w e u t0 lv0 c0 f2 : Nat} (hM : Mst h J L lab (n + 1) tp lv c) (hT : Top h J L lab n tp lv c f w e u t0 lv0 c0) (hop : opv L) (z1 : ¬ jn J f 8 ≤ jn J f 7) (hp : jn J f 1 = s_pr L (lv - 1)) (h9 : jn L 65 t0 = 9) (h64 : jn L 64 t0 = lv - 1) (hq : fmA J L f (lv - 1) t0 tp ∨ fmC J L f (lv - 1) t0 tp) (hB' : am_B h') (ty : am_ty2 J') (hW' : am_W h' J' lab') (o : opn h (am_u2 J f 7 (nI ((jn J f 7) + 1))) h' J' lab lab' (n + 1) f2 w e u (jn J f 7)) : ∃ L' c', rstp L L' ∧ Mst h' J' L' lab' (n + 2) (tp + 1) lv c' ∧ c' < c ∧ chL L L' ∧ jn L' 36 41 = jn L 36 41 := by
  have rw0 := Top_RW hM hT hop
  have lv38 : jn L 36 38 = lv := hM.2.1.2.2.2.2 (Nat.succ_pos n)
  have sl := s_le (L := L) (l := lv - 1)
  rcases hq with q | q
  · obtain ⟨q1, q2, q3, q4, q5, q6, q7, q8, q9, q10, q11⟩ := q
    have lt : jn J f 7 < s_pr L (lv - 1) := by rw [← q8]; exact Nat.not_le.mp z1
    have ar := ar_a (bf := s_bf L (lv - 1)) (pr := s_pr L (lv - 1)) (m3 := mk L (lv - 1) 3) (m1 := mk L (lv - 1) 1) rfl rfl q6 lt q9
    refine t_asd0 (kd := 1) (pl := jn L 67 t0) hM hT rw0 hp h9 h64 hB' ty hW' o q10 (R_mid_B (by rw [lv38]; exact ar.1)) (by decide) ?_ ?_ (Nat.lt_of_lt_of_le lt (Nat.le_trans sl.2.1 sl.2.2)) (Or.inl ⟨q6, lt⟩) ar.2.1 (ar_d z1) (fun L' kL n67 lo0 fj j7 _ => Or.inl ?_)
    · unfold kdp; rw [if_neg ar.2.2.2.2.2.1, if_pos lt]
    · unfold plp; rw [if_neg ar.2.2.2.2.2.1, if_pos lt]; exact q9
    · obtain ⟨k1, k2, k3, k4, k5⟩ := keL_mk kL (lv - 1)
      have jj : ∀ j, ¬ j = 7 → jn J' f j = jn J f j := fun j hj => by unfold jn; rw [fj j hj]
      exact ⟨by rw [fj 5 (by decide)]; exact q1, by rw [fj 9 (by decide)]; exact q2, by rw [fj 6 (by decide)]; exact q3, by rw [fj 3 (by decide)]; exact q4, by rw [fj 4 (by decide)]; exact q5, by rw [j7, k1]; exact ar.2.2.2.1, by rw [j7, k2]; exact ar.2.2.2.2.1, by rw [jj 8 (by decide), k2]; exact q8, by rw [j7, k1, n67]; exact ar.2.2.1.symm, q10, by rw [jj 2 (by decide), jn_cg (kL 54 (by decide) (by decide)), jn_cg (kL 59 (by decide) (by decide))]; exact q11⟩
  · obtain ⟨q1, q2, q3, q4, q5, q6, q7, q8, q9⟩ := q
    have lt : jn J f 7 < s_sz L (lv - 1) := by rw [← q5]; exact Nat.not_le.mp z1
    have ar := ar_c (af := s_af L (lv - 1)) (sz := s_sz L (lv - 1)) (m1 := mk L (lv - 1) 1) (m2 := mk L (lv - 1) 2) rfl q3 lt q6
    have g1 : ¬ jn J f 7 < s_bf L (lv - 1) := Nat.not_lt.mpr (Nat.le_trans sl.1 (Nat.le_trans sl.2.1 q3))
    have g2 : ¬ jn J f 7 < s_pr L (lv - 1) := Nat.not_lt.mpr (Nat.le_trans sl.2.1 q3)
    have g3 : ¬ jn J f 7 < s_af L (lv - 1) := Nat.not_lt.mpr q3
    refine t_asd0 (kd := 2) hM hT rw0 hp h9 h64 hB' ty hW' o q9 (R_mid_A (by rw [lv38]; exact ar.1) (by rw [lv38]; exact ar.2.1)) (by decide) ?_ ?_ lt (Or.inr q3) ar.2.2.1 (ar_d z1) (fun L' kL n67 lo0 fj j7 q28 => Or.inr ?_)
    · unfold kdp; rw [if_neg g1, if_neg g2, if_neg g3]
    · unfold plp; rw [if_neg g1, if_neg g2, if_neg g3, lv38]; exact ar.2.2.2.1
    · obtain ⟨k1, k2, k3, k4, k5⟩ := keL_mk kL (lv - 1)
      have jj : ∀ j, ¬ j = 7 → jn J' f j = jn J f j := fun j hj => by unfold jn; rw [fj j hj]
      exact ⟨by rw [fj 5 (by decide)]; exact q1, by rw [fj 9 (by decide)]; exact q2, by rw [j7, k3]; exact ar.2.2.2.2.2.1, by rw [j7, k4]; exact ar.2.2.2.2.2.2, by rw [jj 8 (by decide), k4]; exact q5, by rw [j7, k3, k5 1 (by decide), n67]; exact ar.2.2.2.2.1.symm, by rw [lo0 68 (by decide) (by decide) (by decide), fj 3 (by decide)]; exact q7, by rw [jn_cg q28, jj 2 (by decide), jj 4 (by decide)]; exact q8, q9⟩
