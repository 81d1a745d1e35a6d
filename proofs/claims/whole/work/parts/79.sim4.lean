/-! Turns: the middle's body begins; the afters come. -/
theorem R_work_t {L L' : Nat → Nat → Int32} (h : am_H) (hB : am_B h) (hL : am_ty2 L) (r : RW L) (e : R_work L = (nI 1, L')) : am_ty2 L' := by
  have g := RW_ty h hB hL r
  rw [e] at g
  exact g
theorem bg_ch {L L1 L' : Nat → Nat → Int32} {i : Nat} {x : Int32} (hb : bgO L1 L') (h1 : L1 = am_u2 L 67 i x) : chL L L' ∧ L' 36 38 = L 36 38 ∧ L' 36 41 = L 36 41 ∧ L' 73 9 = L 73 9 ∧ (∀ q, 64 ≤ q → q ≤ 71 → ∀ j, ¬ j = jn L 36 39 → (q = 67 → ¬ j = i) → L' q j = L q j) := by
  have e : ∀ q, ¬ q = 67 → L1 q = L q := fun q hq => by rw [h1, fr_u hq]
  have t : jn L1 36 39 = jn L 36 39 := jn_cg (e 36 (by decide))
  obtain ⟨b1, b2, b3, b4, b5⟩ := hb
  refine ⟨⟨fun q a b c => by rw [b4 q a b c, e q (by omega)], by rw [b2 37 (by decide), e 36 (by decide)], fun j a b => by rw [b5 j a, e 73 (by decide)]⟩, by rw [b2 38 (by decide), e 36 (by decide)], by rw [b2 41 (by decide), e 36 (by decide)], by rw [b5 9 (by decide), e 73 (by decide)], fun q a b j c d => ?_⟩
  rw [b3 q a b j (by rw [t]; exact c)]
  by_cases z : q = 67
  · rw [h1, z, u2_ne (d z)]
  · rw [e q z]
/-- the middle's own body begins -/
theorem t_begM {h : am_H} {J L : Nat → Nat → Int32} {lab : Nat → Nat} {n tp lv c f w e u t0 lv0 c0 : Nat} (hM : Mst h J L lab (n + 1) tp lv c) (hT : Top h J L lab n tp lv c f w e u t0 lv0 c0) (hop : opv L) (z1 : jn J f 8 ≤ jn J f 7) (hp : jn J f 1 = s_pr L (lv - 1)) (h9 : jn L 65 t0 = 9) (h64 : jn L 64 t0 = lv - 1) (hq : fmA J L f (lv - 1) t0 tp) (ty : am_ty2 (am_u2 (am_u2 J f 5 (nI 1)) 33 16 ((J 33 16) + (nI 1)))) : ∃ L' tp' c', rstp L L' ∧ Mst h (am_u2 (am_u2 J f 5 (nI 1)) 33 16 ((J 33 16) + (nI 1))) L' lab (n + 1) tp' lv c' ∧ c' < c ∧ chL L L' ∧ jn L' 36 41 = jn L 36 41 := by
  have hf74 := hT.1.2.2.1
  have hM2 := hM
  have rw0 := Top_RW hM hT hop
  obtain ⟨⟨m1, m2, m3, m4⟩, ⟨m5, m6, m7, m8, m9⟩, m10, m11, m12, ⟨m13, m14, m15, m16⟩, m17⟩ := hM
  have a1 := hT.1.1
  have d1 := hT.2.2.2.1
  have s := hT.2.2.2.2.1
  have r6 := hT.2.2.2.2.2.1
  have y1 := hT.2.2.2.2.2.2.2.1
  have y2 := hT.2.2.2.2.2.2.2.2.1
  have y7 := hT.2.2.2.2.2.2.2.2.2.2.2.2.2.1
  have lv38 := m9 (by omega)
  obtain ⟨q1, q2, q3, q4, q5, q6, q7, q8, q9, q10, q11⟩ := hq
  have fj : ∀ j, ¬ j = 5 → am_u2 (am_u2 J f 5 (nI 1)) 33 16 ((J 33 16) + (nI 1)) f j = J f j := fun j hj => by rw [fr_u (by omega), u2_ne hj]
  have f5 : am_u2 (am_u2 J f 5 (nI 1)) 33 16 ((J 33 16) + (nI 1)) f 5 = nI 1 := by rw [fr_u (by omega), am_u2_s]
  have jj : ∀ j, ¬ j = 5 → jn (am_u2 (am_u2 J f 5 (nI 1)) 33 16 ((J 33 16) + (nI 1))) f j = jn J f j := fun j hj => by unfold jn; rw [fj j hj]
  have e16 : am_u2 (am_u2 J f 5 (nI 1)) 33 16 ((J 33 16) + (nI 1)) 33 16 = J 33 16 + nI 1 := am_u2_s
  have o33 : ∀ j, ¬ j = 16 → am_u2 (am_u2 J f 5 (nI 1)) 33 16 ((J 33 16) + (nI 1)) 33 j = J 33 j := fun j hj => by rw [u2_ne hj, fr_u (by omega)]
  have p4 := (m12.2 f (by omega) a1).1 (Or.inl hp)
  have tt : jn L 36 39 - 1 = t0 := by omega
  have k67 : jn L 67 t0 = mk L (jn L 36 38 - 1) 1 := by rw [lv38, q9]; unfold s_pr s_bf at *; omega
  -- the reference
  have eW : R_work L = (nI 1, R_begin (am_u2 L 67 t0 (nI ((jn L 67 t0) + 1))) 0 0) := by
    rw [R_work_9 (by rw [tt]; exact h9), tt, R_mid_P k67]
  have tyL := R_work_t h m1 m3 rw0 eW
  have l1 : am_ty2 (am_u2 L 67 t0 (nI ((jn L 67 t0) + 1))) := ty_w m3 (tw_n (B := 20) (by decide) (by decide) (by decide) (by have := rw0.2.2.2.1; rw [tt] at this; omega))
  obtain ⟨g1, g2, g3, g4, g5⟩ := R_begin_N l1 (kd := 0) (pl := 0) (fun z => absurd z (by decide))
  obtain ⟨c1, c2, c3, c4, c5⟩ := bg_ch g1 rfl
  generalize hL' : R_begin (am_u2 L 67 t0 (nI ((jn L 67 t0) + 1))) 0 0 = L' at *
  have x36 : ∀ j, jn (am_u2 L 67 t0 (nI ((jn L 67 t0) + 1))) 36 j = jn L 36 j := fun j => jn_cg (fr_u (by decide))
  have x39 : jn L 36 39 = t0 + 1 := by omega
  rw [x36, x39] at g3 g4
  unfold bgF at g2
  rw [x36, x39, x36, lv38] at g2
  rw [x36, lv38] at g4
  have x61 : ∀ q, ¬ q = 67 → (am_u2 L 67 t0 (nI ((jn L 67 t0) + 1))) q = L q := fun q hq => fr_u hq
  rw [x61 61 (by decide), x61 62 (by decide)] at g2
  rw [jn_cg (x61 54 (by decide)), jn_cg (x61 59 (by decide))] at g4
  have kL := chL_ke c1
  obtain ⟨k1, k2, k3, k4, k5⟩ := keL_mk kL (lv - 1)
  have n67 : L' 67 t0 = nI (mk L (lv - 1) 1 + 1) := by
    have b3 := g1.2.2.1 67 (by decide) (by decide) t0 (by rw [x36]; omega)
    rw [b3, am_u2_s, k67, lv38]
  have sz1 : mk L (lv - 1) 1 ≤ 16 := by have := s.2.2.2.2.1; unfold s_sz at this; omega
  have lo0 : ∀ q, 64 ≤ q → q ≤ 71 → ¬ q = 67 → L' q t0 = L q t0 := fun q a b z => c5 q a b t0 (by omega) (fun z2 => absurd z2 z)
  have cc := r6 (s_pr L (lv - 1)) (by unfold s_pr s_sz; have := s.2.2.2.2.2; omega)
  have kp : kdp L (lv - 1) (s_pr L (lv - 1)) = 0 ∧ plp L (lv - 1) (s_pr L (lv - 1)) = 0 := by
    have := s.2.2.2.2.2
    unfold kdp plp s_bf s_pr s_af
    rw [if_neg (by omega), if_neg (by omega), if_pos (by omega), if_neg (by omega), if_neg (by omega), if_pos (by omega)]
    exact ⟨rfl, by omega⟩
  refine ⟨L', t0 + 2, _, Or.inr ⟨rw0, eW⟩, Mst_same hM2 hT ty tyL (fun q hq hn => by rw [fr_u (by omega), fr_u hn]) ⟨fun q _ _ => by rw [fr_u (by omega), fr_u (by omega)], by rw [fr_u (by omega), fr_u (by omega)]⟩ kL (fun q a b j hj => c5 q a b j (by omega) (fun _ => by omega)) (o33 8 (by decide)) (o33 9 (by decide)) c2 ?_ (by rw [o33 11 (by decide)]; exact m13) (by rw [o33 13 (by decide)]; exact m14) ?_ (by rw [o33 17 (by decide), c4]; exact m16) (fj 1 (by decide)) ⟨fty_w y2.1 k4 (fj 1 (by decide)) (fj 2 (by decide)) (by rw [jj 4 (by decide), fj 4 (by decide)]; exact y2.1.2.2.1) (by rw [jj 7 (by decide), fj 7 (by decide)]; exact y2.1.2.2.2.1) (by rw [jj 8 (by decide), fj 8 (by decide)]; exact y2.1.2.2.2.2), Or.inl ⟨by rw [jj 1 (by decide), k2]; exact hp, ?_, ?_, Or.inr (Or.inl ⟨f5, by rw [fj 9 (by decide)]; exact q2, by rw [jj 7 (by decide), k2]; omega, by rw [jj 8 (by decide), k2]; exact q8, ?_, rfl, ?_⟩)⟩⟩ ⟨fun _ => ?_, fun z => absurd (by rw [jj 1 (by decide)]; exact hp) z⟩, ?_, c1, by unfold jn; rw [c3]⟩
  · have g11 := g1.1
    rw [x36, x39] at g11
    have b9 := rw0.2.2.1
    unfold jn
    rw [g11]
    exact nI_clamp (by omega)
  · unfold jn at m15 ⊢; rw [o33 10 (by decide), c3]; exact m15
  · unfold jn at h9 ⊢; rw [lo0 65 (by decide) (by decide) (by decide)]; exact h9
  · unfold jn at h64 ⊢; rw [lo0 64 (by decide) (by decide) (by decide)]; exact h64
  · unfold jn; rw [n67, nI_clamp (by omega), k5 1 (by decide)]
  · have b2 := y2.1.2.1
    have lb : jn L 71 (t0 + 1) = jn L 71 (t0 + 1) := rfl
    refine ⟨?_, ?_, ?_, ?_, ?_, ?_, Or.inl ⟨by rw [fj 6 (by decide)]; exact q3, ?_, ?_⟩⟩
    · unfold jn; rw [g2.1]; exact nI_clamp (by omega)
    · unfold jn; rw [g3]; exact nI_clamp (by omega)
    · unfold jn; rw [g2.2.1]; exact nI_clamp (by omega)
    · rw [jj 4 (by decide)]; unfold jn; rw [g2.2.2.1, q5]
    · rw [g2.2.2.2.1, fj 3 (by decide), q4]
    · rw [jj 2 (by decide), q11]
      have b54 := ty_n m3 (q := 54) (B := 8) (by decide) (by decide) (jn L 59 (16 * (4 * (lv - 1) + 0) + 0))
      unfold jn at g4 ⊢
      rw [g4]
      unfold jn at b54
      rw [nI_clamp (by omega), show 16 * (4 * (lv - 1) + 0) + 0 = 64 * (lv - 1) by omega]
    · rw [g2.2.2.2.2.1, kL 61 (by decide) (by decide)]
    · rw [g2.2.2.2.2.2, kL 62 (by decide) (by decide)]
  · rw [e16, g5, x61 73 (by decide), p4]
  · rw [y7]
    unfold ct
    rw [jj 8 (by decide), jj 7 (by decide), fj 9 (by decide), f5, if_pos rfl, if_neg (show ¬ J f 5 = nI 1 by rw [q1]; decide), k5 2 (by decide)]
    omega
/-- the middle's own body is behind: the afters come -/
theorem t_aft {h : am_H} {J L : Nat → Nat → Int32} {lab : Nat → Nat} {n tp lv c f w e u t0 lv0 c0 : Nat} (hM : Mst h J L lab (n + 1) tp lv c) (hT : Top h J L lab n tp lv c f w e u t0 lv0 c0) (hop : opv L) (z2 : jn J 28 (jn J f 2) ≤ jn J f 4) (hp : jn J f 1 = s_pr L (lv - 1)) (h9 : jn L 65 t0 = 9) (h64 : jn L 64 t0 = lv - 1) (hq : fmB J L f (lv - 1) t0 tp) (ty : am_ty2 (am_u2 (am_u2 (am_u2 J f 9 (nI 0)) f 7 (nI (jn J e 4))) f 8 (nI (jn J e 1)))) : ∃ L' tp' c', rstp L L' ∧ Mst h (am_u2 (am_u2 (am_u2 J f 9 (nI 0)) f 7 (nI (jn J e 4))) f 8 (nI (jn J e 1))) L' lab (n + 1) tp' lv c' ∧ c' < c ∧ chL L L' ∧ jn L' 36 41 = jn L 36 41 := by
  have hf74 := hT.1.2.2.1
  have hM2 := hM
  have rw0 := Top_RW hM hT hop
  obtain ⟨⟨m1, m2, m3, m4⟩, ⟨m5, m6, m7, m8, m9⟩, m10, m11, m12, ⟨m13, m14, m15, m16⟩, m17⟩ := hM
  have a1 := hT.1.1
  have s := hT.2.2.2.2.1
  have y1 := hT.2.2.2.2.2.2.2.1
  have y2 := hT.2.2.2.2.2.2.2.2.1
  have y7 := hT.2.2.2.2.2.2.2.2.2.2.2.2.2.1
  have lv38 := m9 (by omega)
  obtain ⟨q1, q2, q3, q4, q5, q6, q7⟩ := hq
  generalize hJ' : am_u2 (am_u2 (am_u2 J f 9 (nI 0)) f 7 (nI (jn J e 4))) f 8 (nI (jn J e 1)) = J' at *
  have fj : ∀ j, ¬ j = 7 → ¬ j = 8 → ¬ j = 9 → J' f j = J f j := fun j a b d => by rw [← hJ', u2_ne b, u2_ne a, u2_ne d]
  have f9 : J' f 9 = nI 0 := by rw [← hJ', u2_ne (by decide), u2_ne (by decide), am_u2_s]
  have f7 : J' f 7 = nI (s_af L (lv - 1)) := by rw [← hJ', u2_ne (by decide), am_u2_s, s.2.2.1]
  have f8 : J' f 8 = nI (s_sz L (lv - 1)) := by rw [← hJ', am_u2_s, s.2.2.2.1]
  have jo : ∀ q, ¬ q = f → J' q = J q := fun q hq => by rw [← hJ', fr_u hq, fr_u hq, fr_u hq]
  have jj : ∀ j, ¬ j = 7 → ¬ j = 8 → ¬ j = 9 → jn J' f j = jn J f j := fun j a b d => by unfold jn; rw [fj j a b d]
  have sle : s_af L (lv - 1) ≤ s_sz L (lv - 1) := by unfold s_af s_sz; omega
  have s16 := s.2.2.2.2.1
  have j7 : jn J' f 7 = s_af L (lv - 1) := by unfold jn; rw [f7]; exact nI_clamp (by omega)
  have j8 : jn J' f 8 = s_sz L (lv - 1) := by unfold jn; rw [f8]; exact nI_clamp (by omega)
  have p4 := (m12.2 f (by omega) a1).1 (Or.inl hp)
  have x39 : jn L 36 39 = t0 + 2 := by omega
  have tt : jn L 36 39 - 1 = t0 + 1 := by omega
  have l71 : jn L 57 (jn L 71 (t0 + 1)) ≤ jn L 67 (t0 + 1) := by rw [q7.2.2.2.2.2.1, q7.2.2.2.1, ← jn_e m17.1.symm]; exact z2
  have eW : R_work L = (nI 1, am_u2 (R_gv L) 68 (((jn L 36 39) - 1) - 1) (L 68 (jn L 36 39 - 1))) := by
    rw [R_work_G (by rw [tt, q7.2.1]; decide) (by rw [tt]; exact l71), R_give_M m3 (by omega) (by rw [tt]; exact h9) (by rw [tt, show t0 + 1 - 1 = t0 by omega, q5, h64])]
  have tyL := R_work_t h m1 m3 rw0 eW
  rw [tt, show t0 + 1 - 1 = t0 by omega] at eW tyL
  have b9 := rw0.2.2.1
  have g38 : am_u2 (R_gv L) 68 t0 (L 68 (t0 + 1)) 36 38 = L 36 38 := by
    rw [fr_u (by decide)]
    unfold R_gv
    rw [am_u2_s, tt, show t0 + 1 - 1 = t0 by omega, h64, (ty_f m3 (q := 36) (j := 38) (B := 13) (by decide) (by decide)).1, lv38, show lv - 1 + 1 = lv by omega]
  have g39 : am_u2 (R_gv L) 68 t0 (L 68 (t0 + 1)) 36 39 = nI (t0 + 1) := by
    rw [fr_u (by decide)]
    unfold R_gv
    rw [u2_ne (by decide), am_u2_s, tt]
  have gq : ∀ q, ¬ q = 36 → ¬ q = 68 → am_u2 (R_gv L) 68 t0 (L 68 (t0 + 1)) q = L q := fun q a b => by
    rw [fr_u b]
    unfold R_gv
    rw [fr_u a, fr_u a]
  have g36 : ∀ j, ¬ j = 38 → ¬ j = 39 → am_u2 (R_gv L) 68 t0 (L 68 (t0 + 1)) 36 j = L 36 j := fun j a b => by
    rw [fr_u (by decide)]
    unfold R_gv
    rw [u2_ne a, u2_ne b]
  have g68 : ∀ j, ¬ j = t0 → am_u2 (R_gv L) 68 t0 (L 68 (t0 + 1)) 68 j = L 68 j := fun j a => by
    rw [u2_ne a]
    unfold R_gv
    rw [fr_u (by decide), fr_u (by decide)]
  have g68t : am_u2 (R_gv L) 68 t0 (L 68 (t0 + 1)) 68 t0 = L 68 (t0 + 1) := am_u2_s
  generalize hL' : am_u2 (R_gv L) 68 t0 (L 68 (t0 + 1)) = L' at *
  have c1 : chL L L' := ⟨fun q a b d => gq q b (by omega), g36 37 (by decide) (by decide), fun j _ _ => by rw [gq 73 (by decide) (by decide)]⟩
  have kL := chL_ke c1
  obtain ⟨k1, k2, k3, k4, k5⟩ := keL_mk kL (lv - 1)
  refine ⟨L', t0 + 1, _, Or.inr ⟨rw0, eW⟩, Mst_same hM2 hT ty tyL (fun q hq hn => jo q hn) ⟨fun q _ _ => jo q (by omega), by rw [jo 10 (by omega)]⟩ kL (fun q a b j hj => ?_) (by rw [jo 33 (by omega)]) (by rw [jo 33 (by omega)]) g38 ?_ (by rw [jo 33 (by omega)]; exact m13) (by rw [jo 33 (by omega)]; exact m14) ?_ (by rw [jo 33 (by omega), gq 73 (by decide) (by decide)]; exact m16) (fj 1 (by decide) (by decide) (by decide)) ⟨fty_w y2.1 k4 (fj 1 (by decide) (by decide) (by decide)) (fj 2 (by decide) (by decide) (by decide)) (by rw [jj 4 (by decide) (by decide) (by decide), fj 4 (by decide) (by decide) (by decide)]; exact y2.1.2.2.1) (by rw [j7, f7]; exact ⟨rfl, by omega⟩) (by rw [j8, f8]; exact ⟨rfl, by omega⟩), Or.inl ⟨by rw [jj 1 (by decide) (by decide) (by decide), k2]; exact hp, by rw [jn_cg (gq 65 (by decide) (by decide))]; exact h9, by rw [jn_cg (gq 64 (by decide) (by decide))]; exact h64, Or.inr (Or.inr ⟨by rw [fj 5 (by decide) (by decide) (by decide)]; exact q1, f9, by rw [j7, k3]; exact Nat.le_refl _, by rw [j7, k4]; exact sle, by rw [j8, k4], ?_, ?_, ?_, rfl⟩)⟩⟩ ⟨fun _ => by rw [gq 73 (by decide) (by decide), jo 33 (by omega)]; exact p4, fun z => absurd (by rw [jj 1 (by decide) (by decide) (by decide)]; exact hp) z⟩, ?_, c1, by unfold jn; rw [g36 41 (by decide) (by decide)]⟩
  · by_cases z : q = 68
    · rw [z]; exact g68 j (by omega)
    · rw [gq q (by omega) z]
  · unfold jn; rw [g39]; exact nI_clamp (by omega)
  · unfold jn at m15 ⊢; rw [jo 33 (by omega), g36 41 (by decide) (by decide)]; exact m15
  · rw [jn_cg (gq 67 (by decide) (by decide)), q5, j7, k5 1 (by decide), k3]; omega
  · rw [g68t, fj 3 (by decide) (by decide) (by decide)]; exact q7.2.2.2.2.1
  · rw [jn_cg (jo 28 (by omega)), jj 2 (by decide) (by decide) (by decide), jj 4 (by decide) (by decide) (by decide)]; exact z2
  · rw [y7]
    unfold ct
    rw [j8, j7, f9, q2, fj 5 (by decide) (by decide) (by decide), if_neg nI_01, if_pos rfl, q1, if_pos rfl, q3, q4]
    unfold s_sz s_af
    omega
