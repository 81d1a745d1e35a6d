/-! Steps of the machine that change the stores: what they leave alone. -/
theorem Oth_st {h : am_H} {J J3 L L3 : Nat → Nat → Int32} {lab : Nat → Nat} {nn nn' cc : Nat} (ho : Oth h J L nn cc) (hW : am_W h J lab) (of : onf h J h J3 lab 0) (rC : rl_C J3 L3) (rI : rl_I J3 L3) (rN : rl_N J3 L3 nn') (hJ : ∀ q, q < 74 → ¬ q = 33 → ¬ q = 7 → ¬ (10 ≤ q ∧ q ≤ 14) → ¬ (31 ≤ q ∧ q ≤ 32) → J3 q = J q) (hL : ∀ q, 37 ≤ q → q < 64 → ¬ (43 ≤ q ∧ q ≤ 48) → L3 q = L q) (h73 : ∀ j, ¬ j = 3 → ¬ j = 4 → ¬ j = 7 → ¬ j = 9 → L3 73 j = L 73 j) (hZ : ∀ q, 1000 ≤ q → L3 q = L q) : Oth h J3 L3 nn' cc := by
  obtain ⟨⟨r1, r2, r3, r4⟩, r5, r6, r7, r8, r9, r10, r11, r12⟩ := ho
  refine ⟨⟨rC, rI, rl_B_cg2 r3 (fun q a b => hJ q (by omega) (by omega) (by omega) (by omega) (by omega)) (fun q a b => hL q (by omega) (by omega) (by omega)), rl_M_cg r4 (by rw [hJ 15 (by decide) (by decide) (by decide) (by decide) (by decide)]) (fun q a b => hJ q (by omega) (by omega) (by omega) (by omega) (by omega)) (fun q a b => hL q (by omega) (by omega) (by omega))⟩, rN, opv_cg r6 (hL 55 (by decide) (by decide) (by decide)) (hL 56 (by decide) (by decide) (by decide)), r7, rl_K_cg r8 of.2.2.2 (fun k e hk hp => ?_) (fun q hq => hJ q (by omega) (by omega) (by omega) (by omega) (by omega)) (hL 58 (by decide) (by decide) (by decide)), by rw [hJ 22 (by decide) (by decide) (by decide) (by decide) (by decide), h73 5 (by decide) (by decide) (by decide) (by decide)]; exact r9, by rw [hJ 1 (by decide) (by decide) (by decide) (by decide) (by decide), h73 8 (by decide) (by decide) (by decide) (by decide)]; exact r10, by rw [hJ 2 (by decide) (by decide) (by decide) (by decide) (by decide), r11]; exact congrArg nI (cn_congr 12 (fun c _ => by rw [jn_cg (hL 37 (by decide) (by decide) (by decide))])), fun hc q a b => by rw [hJ q b (by omega) (by omega) (by omega) (by omega), hZ (q + 1000) (by omega)]; exact r12 hc q a b⟩
  obtain ⟨a, b, c, u, d1, d2, d3, d4, d5, d6⟩ := hW.1 k hk e hp
  have ge := of.1 e b c.2.1 (nf_hi (by omega))
  have gu := of.1 u d3 d4.2.1 (nf_hi (by omega))
  refine ⟨ge.1, fun v hv => ?_⟩
  rw [d1] at hv
  have ev : u = v := Option.some.inj hv
  subst ev
  exact ⟨d1, gu.1⟩
/-- what a step may change on the class's side -/
def sJ (J J3 : Nat → Nat → Int32) (f : Nat) : Prop := (∀ q, q < 74 → ¬ q = 7 → ¬ (10 ≤ q ∧ q ≤ 14) → ¬ (31 ≤ q ∧ q ≤ 32) → J3 q = M_j1 J f q) ∧ J3 10 5 = J 10 5 ∧ (∀ q, 74 ≤ q → ¬ q = f → J3 q = J q) ∧ ∀ j, ¬ j = 3 → ¬ j = 6 → J3 f j = M_j1 J f f j
/-- what a step may change on the reference's side -/
def sL (L L3 : Nat → Nat → Int32) (i : Nat) : Prop := (∀ q, ¬ (43 ≤ q ∧ q ≤ 48) → ¬ (68 ≤ q ∧ q ≤ 70) → ¬ q = 72 → ¬ q = 73 → ¬ q = 36 → L3 q = R_s1 L q) ∧ (∀ j, ¬ j = 40 → L3 36 j = R_s1 L 36 j) ∧ (∀ j, ¬ j = 7 → ¬ j = 3 → L3 73 j = R_s1 L 73 j) ∧ ∀ q, 68 ≤ q → q ≤ 70 → ∀ j, ¬ j = i → L3 q j = R_s1 L q j
theorem t_gen {h : am_H} {J L J3 L3 : Nat → Nat → Int32} {lab : Nat → Nat} {n tp lv c f w e u t0 lv0 c0 nn nn' cc N : Nat} (hM : Mst h J L lab (n + 1) tp lv c) (hO : Oth h J L nn cc) (hT : Top h J L lab n tp lv c f w e u t0 lv0 c0) (hr : run1 J L f (lv - 1) t0 tp) (hk : jn J f 4 < 8) (h3 : jn L 36 41 < 300) (hN : c + 70 * (300 - jn L 36 41) ≤ N) (ty : am_ty2 J3) (eW : R_work L = (nI 1, L3)) (s1 : sJ J J3 f) (s2 : sL L L3 (tp - 1)) (h68 : L3 68 (tp - 1) = J3 f 3) (hA : fA J3 L3 f (tp - 1) (lv - 1)) (rC : rl_C J3 L3) (rI : rl_I J3 L3) (rN : rl_N J3 L3 nn') (hnn : nn' ≤ nn + 1) : oGo L N nn cc h J3 := by
  have rw0 := Top_RW hM hT hO.2.2.1
  have f74 := hT.1.2.2.1
  have tyL := R_work_t h hM.1.1 hM.1.2.2.1 rw0 eW
  obtain ⟨kd, pl, r, _, _, z5, tl, tp0⟩ := run_ix hr
  obtain ⟨j1, j2, j3, j4, j5, j6⟩ := M_j1_c (J := J) f74
  obtain ⟨l1, l2, l3, l4, l5, l6, l7⟩ := R_s1_c (L := L)
  obtain ⟨u1, u2, u3, u4⟩ := s1
  obtain ⟨v1, v2, v3, v4⟩ := s2
  have x39 : jn L 36 39 = tp := hM.2.1.2.2.2.1
  rw [x39] at l6 l7
  have st := hM.2.2.2.2.2.1.2.2.1
  have s31 : jn L 36 41 + 1 < 2 ^ 31 := Nat.lt_trans (Nat.succ_lt_succ h3) (by decide)
  have e41 : jn L3 36 41 = jn L 36 41 + 1 := by
    show (L3 36 41).toNatClampNeg = _
    rw [v2 41 (by decide), l3]
    exact nI_clamp s31
  have kL : keL L L3 := fun q a b => by rw [v1 q (by omega) (by omega) (by omega) (by omega) (by omega), l1 q (by omega) (by omega) (by omega)]
  have Jf := M_j1_33 (J := J) f74
  have kJ : keJ J J3 := ⟨fun q a b => by rw [u1 q (by omega) (by omega) (by omega) (by omega), Jf q (by omega) (by omega)], u2⟩
  have o33 : ∀ j, J3 33 j = M_j1 J f 33 j := fun j => by rw [u1 33 (by decide) (by decide) (by decide) (by decide)]
  have M' : Mst h J3 L3 lab (n + 1) tp lv c := by
    refine t_op hM hT hr ty tyL u3 kJ kL (fun j a b d => by rw [u4 j a d, j5 j b]) (by rw [u4 4 (by decide) (by decide)]; exact j6) hk (fun j a b _ _ => by rw [o33, j2 j a b]) ?_ (by rw [o33, j4, v3 9 (by decide) (by decide), l5, hM.2.2.2.2.2.1.2.2.2]) (by rw [v2 38 (by decide), l2 38 (by decide)]) (by rw [v2 39 (by decide), l2 39 (by decide)]) (by rw [v3 4 (by decide) (by decide), l4 4 (by decide)]) (fun q a b j hj => ?_) (fun q hq => by rw [v1 q (by omega) (by omega) (by omega) (by omega) (by omega), l1 q (by omega) (by omega) (by omega)]) ?_ h68 hA
    · rw [e41]
      show (J3 33 10).toNatClampNeg = _
      rw [o33, j3, st]
      exact nI_clamp s31
    · by_cases z : 68 ≤ q ∧ q ≤ 70
      · rw [v4 q z.1 z.2 j hj, l1 q (by omega) (by omega) (by omega)]
      · by_cases z7 : q = 67
        · rw [z7, v1 67 (by decide) (by decide) (by decide) (by decide) (by decide), l6 j hj]
        · rw [v1 q (by omega) z (by omega) (by omega) (by omega), l1 q (by omega) z7 (by omega)]
    · rw [v1 67 (by decide) (by decide) (by decide) (by decide) (by decide), l7, r.2.2.2.1]
  have of := onf_mono (onf_f (h := h) (J := J) (J' := J3) hT.1.2.2.2.1 hT.1.2.2.2.2 u3) (Nat.zero_le n)
  refine ⟨L3, lab, n + 1, tp, lv, c, nn', hnn, Or.inr ⟨rw0, eW⟩, M', Oth_st hO hM.1.2.2.2 of rC rI rN (fun q a b d1 d2 d3 => by rw [u1 q a d1 d2 d3, Jf q a b]) (fun q a b d => by rw [v1 q d (by omega) (by omega) (by omega) (by omega), l1 q (by omega) (by omega) (by omega)]) (fun j a b d1 d2 => by rw [v3 j d1 a, l4 j d2]) (fun q a => by rw [v1 q (by omega) (by omega) (by omega) (by omega) (by omega), l1 q (by omega) (by omega) (by omega)]), ?_, fun z => absurd z (Nat.succ_ne_zero n)⟩
  rw [e41]
  clear M' kL kJ eW tyL ty hr r of rC rI rN hA
  omega
/-- a step that ends in an error -/
theorem t_err {h : am_H} {J L J3 L3 : Nat → Nat → Int32} {lab : Nat → Nat} {n tp lv c f w e u t0 lv0 c0 nn nn' cc : Nat} {er : Int32} (hM : Mst h J L lab (n + 1) tp lv c) (hO : Oth h J L nn cc) (hT : Top h J L lab n tp lv c f w e u t0 lv0 c0) (hr : run1 J L f (lv - 1) t0 tp) (ty : am_ty2 J3) (eW : R_work L = (nI 0, L3)) (u1 : ∀ q, q < 74 → ¬ q = 33 → ¬ q = 7 → ¬ (10 ≤ q ∧ q ≤ 14) → ¬ (31 ≤ q ∧ q ≤ 32) → J3 q = J q) (u3 : ∀ q, 74 ≤ q → ¬ q = f → J3 q = J q) (u33 : ∀ j, ¬ j = 11 → J3 33 j = M_j1 J f 33 j) (s2 : sL L L3 (tp - 1)) (e11 : J3 33 11 = er) (e40 : L3 36 40 = er) (her : ¬ er = 0) (rC : rl_C J3 L3) (rI : rl_I J3 L3) (rN : rl_N J3 L3 nn') (hnn : nn' ≤ nn + 1) : oEr L nn cc h J3 := by
  have rw0 := Top_RW hM hT hO.2.2.1
  have f74 := hT.1.2.2.1
  have tyL : am_ty2 L3 := by have g := RW_ty h hM.1.1 hM.1.2.2.1 rw0; rw [eW] at g; exact g
  obtain ⟨kd, pl, r, _, _, z5, tl, tp0⟩ := run_ix hr
  obtain ⟨j1, j2, j3, j4, j5, j6⟩ := M_j1_c (J := J) f74
  obtain ⟨l1, l2, l3, l4, l5, l6, l7⟩ := R_s1_c (L := L)
  obtain ⟨v1, v2, v3, v4⟩ := s2
  have of := onf_mono (onf_f (h := h) (J := J) (J' := J3) hT.1.2.2.2.1 hT.1.2.2.2.2 u3) (Nat.zero_le n)
  have p4 := (hM.2.2.2.2.1.2 f (Nat.succ_pos n) hT.1.1).1 (Or.inr z5)
  refine ⟨L3, lab, nn', hnn, rw0, eW, ⟨⟨hM.1.1, ty, tyL, am_W_lo hM.1.2.2.2 of (fun _ => rfl) rfl rfl⟩, Oth_st hO hM.1.2.2.2 of rC rI rN u1 (fun q a b d => by rw [v1 q d (by omega) (by omega) (by omega) (by omega), l1 q (by omega) (by omega) (by omega)]) (fun j a b d1 d2 => by rw [v3 j d1 a, l4 j d2]) (fun q a => by rw [v1 q (by omega) (by omega) (by omega) (by omega) (by omega), l1 q (by omega) (by omega) (by omega)]), by rw [u33 17 (by decide), j4, v3 9 (by decide) (by decide), l5, hM.2.2.2.2.2.1.2.2.2], by rw [v3 4 (by decide) (by decide), l4 4 (by decide), u33 16 (by decide), j2 16 (by decide) (by decide)]; exact p4⟩, by rw [e11, e40], by rw [e11]; exact her⟩
