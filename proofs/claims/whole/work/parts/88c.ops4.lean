/-! A step of the machine: next. -/
theorem cst_main {J L : Nat → Nat → Int32} {f l : Nat} (h7 : jn J f 7 = s_bf L l) (h8 : jn J f 8 = s_pr L l) (hs : s_sz L l ≤ 16) : ct J L f l ≤ 67 := by
  unfold ct
  rw [h7, h8]
  unfold s_bf s_pr s_sz at *
  split <;> split <;> omega
theorem cst_oth {J L : Nat → Nat → Int32} {f l : Nat} (h7 : jn J f 7 = 0) (h8 : jn J f 8 = 0) (h9 : J f 9 = nI 0) : ct J L f l ≤ 67 := by
  unfold ct
  rw [h7, h8, h9, if_neg nI_01]
  split <;> omega
theorem nx_d {L : Nat → Nat → Int32} {l p p2 : Nat} (h0 : 0 < mk L l 0) (h : (p2 = p + 1 ∧ s_pr L l < p2 ∧ p2 < s_af L l) ∨ (p < s_bf L l ∧ ((p + 1 < s_bf L l ∧ p2 = p + 1) ∨ (p + 1 = s_bf L l ∧ p2 = s_pr L l)))) : dpt L l p2 = dpt L l p + 1 ∧ ¬ asd L l p2 ∧ (p2 < s_bf L l ∨ p2 = s_pr L l → p < s_bf L l) := by
  unfold dpt asd
  unfold s_bf s_pr s_af at *
  rcases h with ⟨a, b, c⟩ | ⟨a, ⟨b, c⟩ | ⟨b, c⟩⟩
  · subst a
    rw [if_neg (by omega), if_neg (by omega), if_pos c, if_neg (by omega), if_neg (by omega), if_pos (by omega)]
    omega
  · subst c
    rw [if_pos b, if_pos a]
    omega
  · subst c
    rw [if_neg (by omega), if_neg (by omega), if_pos (by omega), if_pos a]
    omega
theorem nx_k {L : Nat → Nat → Int32} {l p p2 kd pl : Nat} (h0 : 0 < mk L l 0) (hm : ¬ p2 = s_pr L l) (h : (kd = 0 ∧ p2 = p + 1 ∧ s_pr L l < p2 ∧ p2 < s_af L l ∧ pl + 1 = p2 - s_pr L l) ∨ (kd = 3 ∧ p < s_bf L l ∧ pl = p ∧ ((p + 1 < s_bf L l ∧ p2 = p + 1) ∨ (p + 1 = s_bf L l ∧ p2 = s_pr L l)))) : kd = kdp L l p2 ∧ pl + 1 = plp L l p2 ∧ (kd = 3 → ¬ pl + 1 = mk L l 3) := by
  unfold kdp plp
  unfold s_bf s_pr s_af at *
  rcases h with ⟨k, a, b, c, d⟩ | ⟨k, a, d, ⟨b, c⟩ | ⟨b, c⟩⟩
  · rw [if_neg (by omega), if_neg (by omega), if_pos c, if_neg (by omega), if_neg (by omega), if_pos c]
    exact ⟨k, d, fun z => by omega⟩
  · rw [if_pos (by omega), if_pos (by omega)]
    exact ⟨k, by omega, fun z => by omega⟩
  · exact absurd c hm
theorem tb_n {t0 tp n l : Nat} (h : t0 ≤ n + l + 1) (ht : tp = t0 + 1) : tp ≤ n + 1 + l + 1 := by omega
theorem tb_m {t0 tp n l : Nat} (h : t0 ≤ n + l) (ht : tp = t0 + 1 ∨ tp = t0 + 2) : tp ≤ n + 1 + l + 1 := by omega
theorem tb_x {t0 tp n l : Nat} (h : t0 ≤ n + l) (ht : tp = t0 + 1) : tp ≤ n + 1 + l := by omega
theorem pot_n {c0 a b N st : Nat} (hb : b ≤ 67) (hs : st < 300) (hN : c0 + a + 70 * (300 - st) ≤ N) : c0 + a + b + 70 * (300 - (st + 1)) < N := by omega
/-- next -/
theorem t_nxt {h h' : am_H} {J L J' L' : Nat → Nat → Int32} {lab lab' : Nat → Nat} {n tp lv c f w e u t0 lv0 c0 nn cc N f2 p2 kd pl : Nat} (hM : Mst h J L lab (n + 1) tp lv c) (hO : Oth h J L nn cc) (hT : Top h J L lab n tp lv c f w e u t0 lv0 c0) (hr : run1 J L f (lv - 1) t0 tp) (hk : jn J f 4 < 8) (h3 : jn L 36 41 < 300) (hN : c + 70 * (300 - jn L 36 41) ≤ N) (hB' : am_B h') (ty : am_ty2 J') (hW' : am_W h' J' lab') (hR' : am_R h') (o : opn h (M_j1 J f) h' J' lab lab' (n + 1) f2 w e u p2) (rw0 : RW L) (eW : R_work L = (nI 1, L')) (bO : bgO (R_s1 L) L') (hps : p2 < s_sz L (lv - 1)) (hn : (p2 = jn J f 1 + 1 ∧ s_pr L (lv - 1) < p2 ∧ p2 < s_af L (lv - 1)) ∨ (jn J f 1 < s_bf L (lv - 1) ∧ ((jn J f 1 + 1 < s_bf L (lv - 1) ∧ p2 = jn J f 1 + 1) ∨ (jn J f 1 + 1 = s_bf L (lv - 1) ∧ p2 = s_pr L (lv - 1))))) (hR2 : keL L L' → fR J' L' f2 (lv - 1) tp (tp + 1)) (h4 : (p2 = s_pr L (lv - 1) → L' 73 4 = L 73 4) ∧ (¬ p2 = s_pr L (lv - 1) → L' 73 4 = L 73 4 + nI 1)) (hc2 : keL L L' → ct J' L' f2 (lv - 1) ≤ 67) : oGo L N nn cc h' J' := by
  have f74 := hT.1.2.2.1
  have tyL := R_work_t h hM.1.1 hM.1.2.2.1 rw0 eW
  obtain ⟨kd', pl', r, k9, _, z5, tl, tp0⟩ := run_ix hr
  obtain ⟨j1, j2, j3, j4, j5, j6⟩ := M_j1_c (J := J) f74
  obtain ⟨l1, l2, l3, l4, l5, l6, l7⟩ := R_s1_c (L := L)
  have x39 : jn L 36 39 = tp := hM.2.1.2.2.2.1
  rw [x39] at l6 l7
  have y39 : jn (R_s1 L) 36 39 = tp := by unfold jn; rw [l2 39 (by decide)]; exact x39
  obtain ⟨b1, b2, b3, b4, b5⟩ := bO
  rw [y39] at b1 b3
  have cL : chL L L' := ⟨fun q a b d => by rw [b4 q a b d, l1 q b (fun z => a (by omega)) d], by rw [b2 37 (by decide), l2 37 (by decide)], fun j a b => by rw [b5 j a, l4 j b]⟩
  have kL := chL_ke cL
  obtain ⟨k1, k2, k3, k4, k5⟩ := keL_mk kL (lv - 1)
  have s := hT.2.2.2.2.1
  have nd := nx_d s.2.2.2.2.2 hn
  have y2 := hT.2.2.2.2.2.2.2.2.1
  have y7 := hT.2.2.2.2.2.2.2.2.2.2.2.2.2.1
  have a4 := hT.1.2.2.2.1
  have o0 := o
  obtain ⟨o1, ⟨o2, o3, o4, o5⟩, ⟨o6, o7⟩, ⟨o8, o9, o10⟩, o11, o12, o13, o14⟩ := o
  have ff2 : ¬ f = f2 := fun z => by
    have g := (o7 f hT.1.2.1.2.1).1
    rw [z, o4, ← z, a4] at g
    exact absurd (Nat.add_left_cancel g) (fun z => absurd z.symm (Nat.ne_of_lt (Nat.lt_succ_self n)))
  have gf := (o11 f f74 hT.1.2.1.2.1 ff2).1
  have fj : ∀ j, ¬ j = 4 → J' f j = J f j := fun j hj => by rw [gf, j5 j hj]
  have f4 : J' f 4 = nI (jn J f 4 + 1) := by rw [gf, j6]
  have k31 : jn J f 4 + 1 < 2 ^ 31 := Nat.lt_trans (Nat.succ_lt_succ hk) (by decide)
  have i4 : jn J' f 4 = jn J f 4 + 1 := by show (J' f 4).toNatClampNeg = _; rw [f4]; exact nI_clamp k31
  have tpn : ¬ tp - 1 = tp := fun z => by omega
  have lq : ∀ q, 64 ≤ q → q ≤ 71 → ¬ q = 67 → ∀ j, ¬ j = tp → L' q j = L q j := fun q a b d j hj => by rw [b3 q a b j hj, l1 q (by omega) d (by omega)]
  have lo : ∀ q, 64 ≤ q → q ≤ 71 → ∀ j, j < tp - 1 → L' q j = L q j := fun q a b j hj => by
    by_cases z : q = 67
    · rw [z, b3 67 (by decide) (by decide) j (by omega), l6 j (Nat.ne_of_lt hj)]
    · exact lq q a b z j (by omega)
  have hR : fR J' L' f (lv - 1) t0 tp := fR_upd y2 hr kL (fun j _ b _ => fj j b) ⟨by rw [i4]; exact f4, by rw [i4]; exact Nat.succ_lt_succ hk⟩ lo (fun kd pl q => by
    refine ⟨by unfold jn; rw [lq 64 (by decide) (by decide) (by decide) _ tpn]; exact q.1, by unfold jn; rw [lq 65 (by decide) (by decide) (by decide) _ tpn]; exact q.2.1, by unfold jn; rw [lq 66 (by decide) (by decide) (by decide) _ tpn]; exact q.2.2.1, ?_, by rw [lq 68 (by decide) (by decide) (by decide) _ tpn, fj 3 (by decide)]; exact q.2.2.2.2.1, by unfold jn; rw [lq 71 (by decide) (by decide) (by decide) _ tpn, fj 2 (by decide)]; exact q.2.2.2.2.2.1, ?_⟩
    · rw [i4]
      show (L' 67 (tp - 1)).toNatClampNeg = _
      rw [b3 67 (by decide) (by decide) _ tpn, l7, q.2.2.2.1]
      exact nI_clamp k31
    · have z := q.2.2.2.2.2.2
      unfold fA at z ⊢
      rw [fj 6 (by decide), lq 69 (by decide) (by decide) (by decide) _ tpn, lq 70 (by decide) (by decide) (by decide) _ tpn, kL 61 (by decide) (by decide), kL 62 (by decide) (by decide), jn_cg (kL 49 (by decide) (by decide)), jn_cg (kL 63 (by decide) (by decide))]
      exact z)
  have p31 : p2 < 16 := Nat.lt_of_lt_of_le hps s.2.2.2.2.1
  have i1 : jn J' f2 1 = p2 := by show (J' f2 1).toNatClampNeg = _; rw [o12.1]; exact nI_clamp (Nat.lt_trans p31 (by decide))
  have hA2 : adj h' J' L' f2 (n + 1) tp (lv - 1) lv := ⟨fun z => absurd (by unfold asd at z ⊢; rw [i1, k1, k2, k3] at z; exact z) nd.2.1, fun _ => Or.inr ⟨f, by rw [Nat.add_sub_cancel, o5 n (fun z => absurd z (Nat.ne_of_lt (Nat.lt_succ_self n)))]; exact hT.1.1, by rw [fj 5 (by decide)]; exact z5, by unfold jn; rw [lq 65 (by decide) (by decide) (by decide) _ tpn]; have z := r.2.1; unfold jn at z; rw [z]; exact k9⟩⟩
  have st := hM.2.2.2.2.2.1.2.2.1
  have s31 : jn L 36 41 + 1 < 2 ^ 31 := Nat.lt_trans (Nat.succ_lt_succ h3) (by decide)
  have e41 : jn L' 36 41 = jn L 36 41 + 1 := by
    show (L' 36 41).toNatClampNeg = _
    rw [b2 41 (by decide), l3]
    exact nI_clamp s31
  have dd := hT.2.2.2.2.2.2.2.2.2.2.1
  have tb := hT.2.2.2.2.2.2.2.2.2.2.2.1
  have p4 := (hM.2.2.2.2.1.2 f (Nat.succ_pos n) hT.1.1).1 (Or.inr z5)
  have b9 := rw0.2.2.1
  rw [x39] at b9
  have tt := fR_t y2
  have htb : tbd L (lv - 1) p2 tp (n + 1) := by
    refine ⟨?_, fun z => ?_⟩
    · rcases hr with q | q
      · exact tb_m (tb.2 (Or.inr q.1)) tt
      · exact tb_n tb.1 q.1.2.2.2.2.2.1
    · have pb := nd.2.2 z
      rcases hr with q | q
      · have e := q.1
        have sl := (s_le (L := L) (l := lv - 1)).1
        omega
      · exact tb_x (tb.2 (Or.inl pb)) q.1.2.2.2.2.2.1
  have Jf := M_j1_33 (J := J) f74
  refine ⟨L', lab', n + 2, tp + 1, lv, _, nn, Nat.le_succ nn, Or.inr ⟨rw0, eW⟩, Mst_push (J0 := M_j1 J f) hM hT hB' ty hW' tyL (fun q a b => j1 q (fun z => by omega) b) ⟨fun q a b => Jf q (by omega) (by omega), by rw [Jf 10 (by decide) (by decide)]⟩ (j5 1 (by decide)) o0 kL (fun q a b j hj => lo q a b j (Nat.lt_of_lt_of_le hj tl)) (j2 8 (by decide) (by decide)) (by rw [b2 38 (by decide), l2 38 (by decide)]) (by show (L' 36 39).toNatClampNeg = _; rw [b1]; exact nI_clamp (Nat.lt_trans (Nat.succ_lt_succ b9) (by decide))) (by rw [j2 11 (by decide) (by decide)]; exact hM.2.2.2.2.2.1.1) (by rw [j2 13 (by decide) (by decide)]; exact hM.2.2.2.2.2.1.2.1) (by rw [e41]; show (M_j1 J f 33 10).toNatClampNeg = _; rw [j3, st]; exact nI_clamp s31) (by rw [j4, b5 9 (by decide), l5, hM.2.2.2.2.2.1.2.2.2]) hR (hR2 kL) hA2 (by rw [nd.1, ← Nat.add_assoc, ← dd]) htb p31 ⟨fun z => by rw [h4.1 z, j2 16 (by decide) (by decide)]; exact p4, fun z => by rw [h4.2 z, j2 16 (by decide) (by decide), p4]⟩, Oth_cg hO hM.1.2.2.2 ?_ hR' (fun q a b => by rw [o8 q a b, Jf q a b]) cL, ?_, fun z => absurd z (Nat.succ_ne_zero _)⟩
  · refine ⟨fun q a b d => ?_, fun i hi => absurd hi (Nat.not_lt_zero i), o1.2.2.1, o1.2.2.2⟩
    have nf : ¬ q = f := fun z => d (by rw [z]; exact ⟨by omega, by have := hT.1.2.2.2.2; omega⟩)
    have g := o1.1 q a b (fun z => d ⟨by have := z.1; omega, z.2⟩)
    exact ⟨by rw [g.1, j1 q (fun z => by omega) nf], g.2⟩
  · rw [e41]
    have ec : ct J' L' f (lv - 1) = ct J L f (lv - 1) := by
      unfold ct jn
      rw [fj 8 (by decide), fj 7 (by decide), fj 9 (by decide), fj 5 (by decide), k5 2 (by decide)]
    rw [ec]
    rw [y7] at hN
    exact pot_n (hc2 kL) h3 hN
