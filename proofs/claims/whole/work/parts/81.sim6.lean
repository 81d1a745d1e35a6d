/-! Turns: a frame closes. -/
theorem kdp_9 {L : Nat → Nat → Int32} {l p : Nat} : ¬ kdp L l p = 9 := by
  unfold kdp
  split
  · decide
  · split
    · decide
    · split <;> decide
/-- the reference gives what the frame on top has summed -/
theorem t_giv {h : am_H} {J L : Nat → Nat → Int32} {lab : Nat → Nat} {n tp lv c f w e u t0 lv0 c0 : Nat} (hM : Mst h J L lab (n + 1) tp lv c) (hT : Top h J L lab n tp lv c f w e u t0 lv0 c0) (hop : opv L) (z1 : jn J f 8 ≤ jn J f 7) (z2 : jn J 28 (jn J f 2) ≤ jn J f 4) (hq : (jn J f 1 = s_pr L (lv - 1) ∧ jn L 65 t0 = 9 ∧ jn L 64 t0 = lv - 1 ∧ fmC J L f (lv - 1) t0 tp) ∨ fot J L f (lv - 1) t0 tp) : tp = t0 + 1 ∧ ∃ L1, R_work L = (nI 1, R_give L1 (J f 3)) ∧ (∀ q, ¬ q = 67 → L1 q = L q) ∧ (∀ j, ¬ j = t0 → L1 67 j = L 67 j) ∧ am_ty2 L1 := by
  have rw0 := Top_RW hM hT hop
  obtain ⟨⟨m1, m2, m3, m4⟩, ⟨m5, m6, m7, m8, m9⟩, m10, m11, m12, ⟨m13, m14, m15, m16⟩, m17⟩ := hM
  have s := hT.2.2.2.2.1
  have lv38 := m9 (by omega)
  rcases hq with ⟨p1, p2, p3, q1, q2, q3, q4, q5, q6, q7, q8, q9⟩ | ⟨q1, q2, q3, q4, q5, q6, q7⟩
  · have tt : jn L 36 39 - 1 = t0 := by omega
    refine ⟨q9, am_u2 L 67 t0 (nI ((jn L 67 t0) + 1)), ?_, fun q hq => fr_u hq, fun j hj => u2_ne hj, ty_w m3 (tw_n (B := 20) (by decide) (by decide) (by decide) (by have := rw0.2.2.2.1; rw [tt] at this; omega))⟩
    rw [R_work_9 (by rw [tt]; exact p2), tt, R_mid_G (by rw [lv38, q6]; unfold s_af s_sz at *; omega), q7]
  · have tt : jn L 36 39 - 1 = t0 := by omega
    refine ⟨q6, L, ?_, fun _ _ => rfl, fun _ _ => rfl, m3⟩
    rw [R_work_G (by rw [tt, q7.2.1]; exact kdp_9) (by rw [tt, q7.2.2.2.2.2.1, q7.2.2.2.1, ← jn_e m17.1.symm]; exact z2), tt, q7.2.2.2.2.1]
theorem ct_pos {J L : Nat → Nat → Int32} {f l : Nat} : 0 < ct J L f l := by unfold ct; omega
/-- a frame closes -/
theorem t_close {h : am_H} {J L J' : Nat → Nat → Int32} {lab : Nat → Nat} {n tp lv c f w e u t0 lv0 c0 : Nat} (hM : Mst h J L lab (n + 1) tp lv c) (hT : Top h J L lab n tp lv c f w e u t0 lv0 c0) (hop : opv L) (z1 : jn J f 8 ≤ jn J f 7) (z2 : jn J 28 (jn J f 2) ≤ jn J f 4) (z5 : J f 5 = nI 1) (hq : (jn J f 1 = s_pr L (lv - 1) ∧ jn L 65 t0 = 9 ∧ jn L 64 t0 = lv - 1 ∧ fmC J L f (lv - 1) t0 tp) ∨ fot J L f (lv - 1) t0 tp) (ty : am_ty2 J') (P9 : J' 33 9 = nI n) (P8 : J' 33 8 = nI lv0) (P33 : ∀ j, ¬ j = 8 → ¬ j = 9 → ¬ j = 12 → J' 33 j = J 33 j) (Pq : ∀ q, q < 74 → ¬ q = 33 → J' q = J q) (Pa : asd L (lv - 1) (jn J f 1) → ∀ q, 74 ≤ q → J' q = J q) (Pb : ¬ asd L (lv - 1) (jn J f 1) → 0 < n → ∃ b, am_P h 35 (n - 1) = some b ∧ J' b 3 = J b 3 + J f 3 ∧ (∀ j, ¬ j = 3 → J' b j = J b j) ∧ ∀ q, 74 ≤ q → ¬ q = b → J' q = J q) (P0 : n = 0 → (∀ q, 74 ≤ q → J' q = J q) ∧ J' 33 12 = J f 3) : ∃ L', (RW L ∧ R_work L = (nI 1, L')) ∧ Mst h J' L' lab n t0 lv0 c0 ∧ c0 < c ∧ chL L L' ∧ jn L' 36 41 = jn L 36 41 ∧ (n = 0 → L' 36 42 = J' 33 12) := by
  have rw0 := Top_RW hM hT hop
  obtain ⟨etp, L1, eW, l1, l2, l3⟩ := t_giv hM hT hop z1 z2 hq
  obtain ⟨⟨m1, m2, m3, m4⟩, ⟨m5, m6, m7, m8, m9⟩, m10, m11, m12, ⟨m13, m14, m15, m16⟩, m17⟩ := hM
  obtain ⟨⟨a1, a2, a3, a4, a5⟩, ⟨b1, b2, b3, b4, b5⟩, ⟨c1, c2, c3, c4⟩, ⟨d1, d2, d3, d4, d5, d6, d7⟩, s, r, x, y1, y2, y3, y4, y5, y6, y7, y8⟩ := hT
  have lv38 := m9 (by omega)
  have hl0 : lv0 ≤ lv := by omega
  have x39 : jn L1 36 39 = t0 + 1 := by rw [jn_cg (l1 36 (by decide))]; omega
  have tyL := R_work_t h m1 m3 rw0 eW
  have p4 := (m12.2 f (by omega) a1).1 (Or.inr z5)
  have cc : c0 < c := by have := ct_pos (J := J) (L := L) (f := f) (l := lv - 1); omega
  have b9 := rw0.2.2.1
  have j28 := Pq 28 (by decide) (by decide)
  have fixd : J' 28 = L 57 ∧ J' 29 = L 55 ∧ J' 30 = L 56 ∧ J' 16 = L 49 ∧ J' 21 = L 54 := by
    rw [j28, Pq 29 (by decide) (by decide), Pq 30 (by decide) (by decide), Pq 16 (by decide) (by decide), Pq 21 (by decide) (by decide)]; exact m17
  rcases Nat.eq_zero_or_pos n with hn | hn
  · -- the last frame
    have y8' := y8
    rw [hn] at y8'
    obtain ⟨t00, lv00, c00⟩ := y8'
    have o := P0 hn
    have eG : R_give L1 (J f 3) = am_u2 (am_u2 L1 36 39 (nI ((jn L1 36 39) - 1))) 36 42 (J f 3) := R_give_0 (by rw [x39, t00])
    rw [eG] at eW tyL
    have gq : ∀ q, ¬ q = 36 → am_u2 (am_u2 L1 36 39 (nI ((jn L1 36 39) - 1))) 36 42 (J f 3) q = L1 q := fun q hq => by rw [fr_u hq, fr_u hq]
    have g39 : am_u2 (am_u2 L1 36 39 (nI ((jn L1 36 39) - 1))) 36 42 (J f 3) 36 39 = nI 0 := by rw [u2_ne (by decide), am_u2_s, x39, t00]
    have gj : ∀ j, ¬ j = 39 → ¬ j = 42 → am_u2 (am_u2 L1 36 39 (nI ((jn L1 36 39) - 1))) 36 42 (J f 3) 36 j = L 36 j := fun j a b => by rw [u2_ne b, u2_ne a, l1 36 (by decide)]
    have g42 : am_u2 (am_u2 L1 36 39 (nI ((jn L1 36 39) - 1))) 36 42 (J f 3) 36 42 = J f 3 := am_u2_s
    generalize am_u2 (am_u2 L1 36 39 (nI ((jn L1 36 39) - 1))) 36 42 (J f 3) = L' at *
    have g73 : ∀ j, L' 73 j = L 73 j := fun j => by rw [gq 73 (by decide), l1 73 (by decide)]
    have of0 : onf h J h J' lab 0 := ⟨fun q a _ _ => ⟨o.1 q a, fun _ => rfl⟩, fun _ _ => rfl, fun _ => rfl, fun _ => rfl⟩
    refine ⟨L', ⟨rw0, eW⟩, ⟨⟨m1, ty, tyL, am_W_lo m4 of0 (fun _ => rfl) rfl rfl⟩, ⟨by unfold jn; rw [P8]; exact nI_clamp (by omega), by omega, by unfold jn; rw [P9]; exact nI_clamp (by omega), by unfold jn; rw [g39, t00]; rfl, fun q => by omega⟩, fun l hl => by omega, by rw [hn]; exact ⟨t00, lv00, c00⟩, ⟨fun _ => by rw [g73 4, P33 16 (by decide) (by decide) (by decide)]; exact p4, fun f' q _ => by omega⟩, ⟨by rw [P33 11 (by decide) (by decide) (by decide)]; exact m13, by rw [P33 13 (by decide) (by decide) (by decide)]; exact m14, by unfold jn at m15 ⊢; rw [P33 10 (by decide) (by decide) (by decide), gj 41 (by decide) (by decide)]; exact m15, by rw [P33 17 (by decide) (by decide) (by decide), g73 9]; exact m16⟩, ?_⟩, cc, ⟨fun q a b d => by rw [gq q b, l1 q (by omega)], gj 37 (by decide) (by decide), fun j _ _ => g73 j⟩, by unfold jn; rw [gj 41 (by decide) (by decide)], fun _ => by rw [g42, o.2]⟩
    rw [gq 57 (by decide), gq 55 (by decide), gq 56 (by decide), gq 49 (by decide), gq 54 (by decide), l1 57 (by decide), l1 55 (by decide), l1 56 (by decide), l1 49 (by decide), l1 54 (by decide)]
    exact fixd
  · -- there is a frame below
    obtain ⟨k, rfl⟩ : ∃ k, n = k + 1 := ⟨n - 1, by omega⟩
    have y8' := y8
    obtain ⟨b, wb, tb, lb, cb, v1, v2, v3, v4, v5, v6, v7, v8, v9, v10, v11⟩ := y8'
    have tv := fR_t v5
    have g64 := fR_64 v5
    have x2 : jn L1 36 39 - 1 = t0 := by omega
    have x3 : jn L1 36 39 - 1 - 1 = t0 - 1 := by omega
    have e64 : jn L1 64 (t0 - 1) = lv0 - 1 := by rw [jn_cg (l1 64 (by decide))]; exact g64
    have e65 : jn L1 65 (t0 - 1) = jn L 65 (t0 - 1) := jn_cg (l1 65 (by decide))
    have e67 : jn L1 67 (t0 - 1) = jn L 67 (t0 - 1) := by unfold jn; rw [l2 (t0 - 1) (by omega)]
    have gv36 : ∀ j, ¬ j = 38 → ¬ j = 39 → R_gv L1 36 j = L 36 j := fun j a b => by unfold R_gv; rw [u2_ne a, u2_ne b, l1 36 (by decide)]
    have gv38 : R_gv L1 36 38 = nI lv0 := by unfold R_gv; rw [am_u2_s, x3, e64, show lv0 - 1 + 1 = lv0 by omega]
    have gv39 : R_gv L1 36 39 = nI t0 := by unfold R_gv; rw [u2_ne (by decide), am_u2_s, x2]
    have gvq : ∀ q, ¬ q = 36 → R_gv L1 q = L1 q := fun q hq => by unfold R_gv; rw [fr_u hq, fr_u hq]
    -- what both cases need
    have fin : ∀ L', am_ty2 L' → R_work L = (nI 1, L') → (∀ j, L' 36 j = R_gv L1 36 j) → (∀ q, ¬ q = 36 → ¬ q = 68 → L' q = L1 q) → (∀ q, 74 ≤ q → ¬ q = b → J' q = J q) → (∀ j, ¬ j = 3 → J' b j = J b j) → stk h J' L' (k + 1) t0 lv0 c0 → ((jn J b 1 = s_pr L (lv0 - 1)) ∨ J b 5 = nI 1) → ∃ L', (RW L ∧ R_work L = (nI 1, L')) ∧ Mst h J' L' lab (k + 1) t0 lv0 c0 ∧ c0 < c ∧ chL L L' ∧ jn L' 36 41 = jn L 36 41 ∧ (k + 1 = 0 → L' 36 42 = J' 33 12) := by
      intro L' tyL' eW' f36 fq jb jb3 hst hbm
      have gb := m4.2.2 k (by omega) b v1
      have ofk := onf_f (h := h) (J := J) (J' := J') gb.1 (by omega) jb
      have of0 := onf_mono ofk (Nat.zero_le k)
      have g73 : ∀ j, L' 73 j = L 73 j := fun j => by rw [fq 73 (by decide) (by decide), l1 73 (by decide)]
      have cL : chL L L' := ⟨fun q a b d => by rw [fq q b (by omega), l1 q (by omega)], by rw [f36, gv36 37 (by decide) (by decide)], fun j _ _ => g73 j⟩
      have kL := chL_ke cL
      have k2 := (keL_mk kL (lv0 - 1)).2.1
      refine ⟨L', ⟨rw0, eW'⟩, ⟨⟨m1, ty, tyL', am_W_lo m4 of0 (fun _ => rfl) rfl rfl⟩, ⟨by unfold jn; rw [P8]; exact nI_clamp (by omega), by omega, by unfold jn; rw [P9]; exact nI_clamp (by omega), by unfold jn; rw [f36, gv39]; exact nI_clamp (by omega), fun _ => by unfold jn; rw [f36, gv38]; exact nI_clamp (by omega)⟩, fun l hl => lvR_lo (m10 l (by omega)) m4 (by omega) (keL_V kL l) of0 (by rw [Pq 10 (by decide) (by decide)]) (Pq 24 (by decide) (by decide)), hst, ⟨fun q => by omega, fun f' _ hf' => ?_⟩, ⟨by rw [P33 11 (by decide) (by decide) (by decide)]; exact m13, by rw [P33 13 (by decide) (by decide) (by decide)]; exact m14, by unfold jn at m15 ⊢; rw [P33 10 (by decide) (by decide) (by decide), f36, gv36 41 (by decide) (by decide)]; exact m15, by rw [P33 17 (by decide) (by decide) (by decide), g73 9]; exact m16⟩, ?_⟩, cc, cL, by unfold jn; rw [f36, gv36 41 (by decide) (by decide)], fun q => by omega⟩
      · rw [show k + 1 - 1 = k by omega, v1] at hf'
        have ef : b = f' := Option.some.inj hf'
        rw [← ef, k2, g73 4, P33 16 (by decide) (by decide) (by decide), jb3 5 (by decide), show jn J' b 1 = jn J b 1 by unfold jn; rw [jb3 1 (by decide)]]
        refine ⟨fun _ => p4, fun q1 q2 => ?_⟩
        rcases hbm with z | z
        · exact absurd z q1
        · rw [z] at q2; exact absurd q2 (by decide)
      · rw [fq 57 (by decide) (by decide), fq 55 (by decide) (by decide), fq 56 (by decide) (by decide), fq 49 (by decide) (by decide), fq 54 (by decide) (by decide), l1 57 (by decide), l1 55 (by decide), l1 56 (by decide), l1 49 (by decide), l1 54 (by decide)]
        exact fixd
    by_cases as : asd L (lv - 1) (jn J f 1)
    · obtain ⟨j1, j2, j3, j4⟩ := y3.1 as
      have elv : lv0 - 1 = lv - 1 := by omega
      have eG : R_give L1 (J f 3) = R_gv L1 := R_give_N l3 (by omega) (by rw [x3, e65]; exact j3) (by rw [x3, e67, e64, elv]; rw [show mk L1 (lv - 1) 1 = mk L (lv - 1) 1 by unfold mk; rw [jn_cg (l1 60 (by decide))]]; exact j4)
      rw [eG] at eW tyL
      have ja := Pa as
      have gb := m4.2.2 k (by omega) b v1
      have kL : keL L (R_gv L1) := fun q p1 p2 => by rw [gvq q (by omega), l1 q (by omega)]
      have ofk : onf h J h J' lab (k + 1) := ⟨fun q a _ _ => ⟨ja q a, fun _ => rfl⟩, fun _ _ => rfl, fun _ => rfl, fun _ => rfl⟩
      refine fin (R_gv L1) tyL eW (fun _ => rfl) (fun q a _ => gvq q a) (fun q a _ => ja q a) (fun j _ => by rw [ja b gb.2.1]) (stk_lo y8 m4 (by omega) (by omega) ofk j28 (keL_L kL (fun q p1 p2 j hj => ?_))) (Or.inl (fR_mid v5 j3))
      by_cases z : q = 67
      · rw [z, gvq 67 (by decide), l2 j (by omega)]
      · rw [gvq q (by omega), l1 q z]
    · rcases y3.2 as with z | ⟨b', w1, w2, w3⟩
      · omega
      · rw [show k + 1 - 1 = k by omega, v1] at w1
        have eb : b = b' := Option.some.inj w1
        subst eb
        obtain ⟨b', w4, w5, w6, w7⟩ := Pb as (by omega)
        rw [show k + 1 - 1 = k by omega, v1] at w4
        have eb : b = b' := Option.some.inj w4
        subst eb
        have eG : R_give L1 (J f 3) = am_u2 (R_gv L1) 68 (((jn L1 36 39) - 1) - 1) ((L1 68 (((jn L1 36 39) - 1) - 1)) + J f 3) := R_give_B (by omega) (by rw [x3, e65]; exact w3)
        rw [eG, x3] at eW tyL
        have u68 : L 68 (t0 - 1) = J b 3 := by
          rcases fR_run v5 w3 with ⟨_, _, _, q⟩ | q
          · have := q.2.2.2.2.2.1
            rw [show t0 - 1 = tb + 1 by omega]; exact q.2.2.2.2.2.2.2.2.2.2.1
          · have := q.2.2.2.2.2.1
            rw [show t0 - 1 = tb by omega]; exact q.2.2.2.2.2.2.2.2.2.2.1
        have kL : keL L (am_u2 (R_gv L1) 68 (t0 - 1) ((L1 68 (t0 - 1)) + J f 3)) := fun q p1 p2 => by rw [fr_u (by omega), gvq q (by omega), l1 q (by omega)]
        refine fin _ tyL eW (fun j => by rw [fr_u (by decide)]) (fun q p1 p2 => by rw [fr_u p2, gvq q p1]) w7 w6 (stk_sum y8 m4 (by omega) (by omega) v1 w3 w7 w6 j28 kL (fun q p1 p2 j hj hz => ?_) ?_) (Or.inr w2)
        · by_cases z : q = 68
          · rw [z, u2_ne (hz z), gvq 68 (by decide), l1 68 (by decide)]
          · rw [fr_u z, gvq q (by omega)]
            by_cases z7 : q = 67
            · rw [z7, l2 j (by omega)]
            · rw [l1 q z7]
        · rw [am_u2_s, w5, l1 68 (by decide), u68]
