/-! A turn of the machine, as the code does it. -/
theorem asd_E {J L : Nat → Nat → Int32} {e p l : Nat} (s2 : jn J e 2 = s_bf L l) (s3 : jn J e 3 = s_pr L l) (s4 : jn J e 4 = s_af L l) : E_aside J e p ↔ asd L l p := by
  unfold E_aside asd
  rw [s2, s3, s4]
  have sl := s_le (L := L) (l := l)
  by_cases z1 : p < s_bf L l
  · rw [am_ite_t z1]
    by_cases z2 : p < s_af L l
    · rw [am_ite_t z2]; exact ⟨fun q => q.elim, fun q => by omega⟩
    · rw [am_ite_f z2]; exact ⟨fun _ => Or.inr (by omega), fun _ => True.intro⟩
  · rw [am_ite_f z1]
    by_cases z2 : p < s_pr L l
    · rw [am_ite_t z2]; exact ⟨fun _ => Or.inl ⟨by omega, z2⟩, fun _ => True.intro⟩
    · rw [am_ite_f z2]
      by_cases z3 : p < s_af L l
      · rw [am_ite_t z3]; exact ⟨fun q => q.elim, fun q => by omega⟩
      · rw [am_ite_f z3]; exact ⟨fun _ => Or.inr (by omega), fun _ => True.intro⟩
/-- a frame closes, in the code -/
theorem w_close {d : am_D} {h : am_H} {J L : Nat → Nat → Int32} {lab : Nat → Nat} {n tp lv c f w e u t0 lv0 c0 nn cc N : Nat} (hM : Mst h J L lab (n + 1) tp lv c) (hO : Oth h J L nn cc) (hT : Top h J L lab n tp lv c f w e u t0 lv0 c0) (hN : c + 70 * (300 - jn L 36 41) ≤ N) (z1 : jn J f 8 ≤ jn J f 7) (z2 : jn J 28 (jn J f 2) ≤ jn J f 4) (z5 : J f 5 = nI 1) (hq : (jn J f 1 = s_pr L (lv - 1) ∧ jn L 65 t0 = 9 ∧ jn L 64 t0 = lv - 1 ∧ fmC J L f (lv - 1) t0 tp) ∨ fot J L f (lv - 1) t0 tp) (hd : 1 ≤ d.1) (hw : 21 ≤ d.2) : am_wp d 150 0 [some (.ref 33), some (.ref f), none] [] (am_si h J) (Qo L N nn cc) := by
  have hB := hM.1.1
  have m2 := hM.1.2.1
  have f74 := hT.1.2.2.1
  have hf := hT.1.2.1
  have hp1 := hT.2.1.1
  have hw9 := hT.2.1.2.2.1
  have h77 := hT.2.1.2.2.2.1
  have a4 := hT.1.2.2.2.1
  have n192 := hT.1.2.2.2.2
  have nw : ¬ w = f := fun z => by have a := hT.2.1.2.2.2.2; have d := hM.2.1.2.1; rw [z, a4] at a; omega
  have ne : ¬ e = f := fun z => by have hq := hT.2.2.1.2.2.2; rw [z, a4] at hq; omega
  have e74 := hT.2.2.1.2.2.1
  have y2 := hT.2.2.2.2.2.2.2.2.1
  have s := hT.2.2.2.2.1
  have p16 : jn J f 1 < 16 := Nat.lt_of_lt_of_le y2.1.1.2 s.2.2.2.2.1
  have hE := hT.2.2.2.1.2.2.2.2.2.2
  have x := hT.2.2.2.2.2.2.1
  have o9 : jn J 33 9 = n + 1 := hM.2.1.2.2.1
  have o91 : jn J 33 9 - 1 = n := by rw [o9]; exact s1
  have o8 : jn J 33 8 = lv := hM.2.1.1
  have lp := hT.2.2.2.2.2.2.2.1
  have l12 := hM.2.1.2.1
  have lvd' : lvd lv0 lv (jn J w 5) n := hT.2.2.2.2.2.2.2.2.2.2.2.2.1
  have aE := asd_E (J := J) (L := L) (e := e) (p := jn J f 1) (l := lv - 1) s.1 s.2.1 s.2.2.1
  have w200 : jn J w 5 < 200 := by have := x.2.2.2.2.2; omega
  have c1 : n = jn J w 5 → lv0 = lv - 1 := fun z => by unfold lvd at lvd'; omega
  have c2 : ¬ n = jn J w 5 → lv0 = lv := fun z => by unfold lvd at lvd'; omega
  have e8 : J 33 8 = nI lv := by have g := (ty_f m2 (q := 33) (j := 8) (B := 13) (by decide) (by decide)).1; rw [o8] at g; exact g
  -- the outcome, once the store is known
  have fin : ∀ J', am_ty2 J' → J' 33 9 = nI n → J' 33 8 = nI lv0 → (∀ j, ¬ j = 8 → ¬ j = 9 → ¬ j = 12 → J' 33 j = J 33 j) → (∀ q, q < 74 → ¬ q = 33 → J' q = J q) → (asd L (lv - 1) (jn J f 1) → ∀ q, 74 ≤ q → J' q = J q) → (¬ asd L (lv - 1) (jn J f 1) → 0 < n → ∃ b, am_P h 35 (n - 1) = some b ∧ J' b 3 = J b 3 + J f 3 ∧ (∀ j, ¬ j = 3 → J' b j = J b j) ∧ ∀ q, 74 ≤ q → ¬ q = b → J' q = J q) → (n = 0 → (∀ q, 74 ≤ q → J' q = J q) ∧ J' 33 12 = J f 3) → (∀ q, 74 ≤ q → ¬ fcl lab 0 q → J' q = J q) → Qo L N nn cc none (am_si h J') := fun J' ty P9 P8 P33 Pq Pa Pb P0 Po => by
    obtain ⟨L', eW, M', cc', cL, e41, fin⟩ := t_close hM hT hO.2.2.1 z1 z2 z5 hq ty P9 P8 P33 Pq Pa Pb P0
    have of : onf h J h J' lab 0 := ⟨fun q a _ z => ⟨Po q a z, fun _ => rfl⟩, fun _ _ => rfl, fun _ => rfl, fun _ => rfl⟩
    exact ⟨rfl, h, J', rfl, Or.inl ⟨L', lab, n, t0, lv0, c0, nn, Nat.le_succ nn, Or.inr eW, M', Oth_cg hO hM.1.2.2.2 of hO.2.2.2.1 Pq cL, by rw [e41]; exact Nat.lt_of_lt_of_le (Nat.add_lt_add_right cc' _) hN, fin⟩⟩
  have n33 : ∀ q, 74 ≤ q → ¬ q = 33 := fun q hq z => by omega
  have h0 : 0 < jn J 33 9 := by rw [o9]; exact Nat.succ_pos n
  have h8 : 0 < jn J 33 8 := by rw [o8]; exact lp
  rcases Nat.eq_zero_or_pos n with hn | hn
  · have na : ¬ asd L (lv - 1) (jn J f 1) := fun z => by
      have := (hT.2.2.2.2.2.2.2.2.2.1.1 z).1
      omega
    have nw5 : n = jn J w 5 := by unfold lvd at lvd'; omega
    refine l_M_c0 hB m2 f w e hf hp1 hw9 f74 h77 nw hT.2.2.1.1 hT.2.2.1.2.1 e74 ne hE.1 ⟨y2.1.1.1, p16⟩ h0 h8 ⟨x.2.2.2.2.1, w200⟩ (o91.trans hn) hd hw (fun q1 _ _ _ => absurd (o91.trans nw5) q1) (fun _ q2 _ => absurd (aE.mp q2) na) (fun _ _ _ ty => ?_) (fun _ q2 _ => absurd (aE.mp q2) na)
    rw [o91, o8] at ty ⊢
    refine fin _ ty (by rw [u2_ne (by decide), u2_ne (by decide), am_u2_s]) (by rw [u2_ne (by decide), am_u2_s, c1 nw5]) (fun j a b d => by rw [u2_ne d, u2_ne a, u2_ne b]) (fun q a b => by rw [fr_u b, fr_u b, fr_u b]) (fun z => absurd z na) (fun _ z => absurd hn (by omega)) (fun _ => ⟨fun q a => by rw [fr_u (n33 q a), fr_u (n33 q a), fr_u (n33 q a)], am_u2_s⟩) (fun q a _ => by rw [fr_u (n33 q a), fr_u (n33 q a), fr_u (n33 q a)])
  · obtain ⟨k, rfl⟩ : ∃ k, n = k + 1 := ⟨n - 1, by omega⟩
    have y8 := hT.2.2.2.2.2.2.2.2.2.2.2.2.2.2
    obtain ⟨b, wb, tb, lb, cb, v1, _⟩ := y8
    obtain ⟨lbb, b74, hb⟩ := hM.1.2.2.2.2.2 k (by omega) b v1
    have n4 : ¬ f = b := fun z => by rw [← z, a4] at lbb; omega
    have n5 : ¬ e = b := fun z => by have q := hT.2.2.1.2.2.2; rw [z, lbb] at q; omega
    have nz : ¬ jn J 33 9 - 1 = 0 := by rw [o91]; exact Nat.succ_ne_zero k
    have fb : fcl lab 0 b := ⟨by omega, by omega⟩
    refine l_M_cl hB m2 f w e b hf hp1 hw9 f74 h77 nw hT.2.2.1.1 hT.2.2.1.2.1 e74 ne hE.1 ⟨y2.1.1.1, p16⟩ h0 h8 ⟨x.2.2.2.2.1, w200⟩ hb b74 n4 n5 (fun _ => by rw [o91, s1]; exact v1) hd hw (fun _ _ q3 _ => absurd q3 nz) (fun q1 q2 _ ty => ?_) (fun q1 q2 ty => ?_) (fun _ _ q3 _ => absurd q3 nz) (fun q1 q2 _ ty => ?_) (fun q1 q2 ty => ?_)
    · rw [o91] at q1 ty ⊢
      have na : ¬ asd L (lv - 1) (jn J f 1) := fun z => q2 (aE.mpr z)
      exact fin _ ty (by rw [fr_u (fun z => n33 b b74 z.symm), am_u2_s]) (by rw [fr_u (fun z => n33 b b74 z.symm), u2_ne (by decide), c2 q1]; exact e8) (fun j a d g => by rw [fr_u (fun z => n33 b b74 z.symm), u2_ne d]) (fun q a d => by rw [fr_u (fun z => by omega), fr_u d]) (fun z => absurd z na) (fun _ _ => ⟨b, v1, am_u2_s, fun j hj => by rw [u2_ne hj, fr_u (n33 b b74)], fun q a d => by rw [fr_u d, fr_u (n33 q a)]⟩) (fun z => absurd z (Nat.succ_ne_zero k)) (fun q a z => by rw [fr_u (fun y => z (by rw [y]; exact fb)), fr_u (n33 q a)])
    · rw [o91] at q1 ty ⊢
      have ya : asd L (lv - 1) (jn J f 1) := aE.mp q2
      exact fin _ ty am_u2_s (by rw [u2_ne (by decide), c2 q1]; exact e8) (fun j a d g => u2_ne d) (fun q a d => fr_u d) (fun _ q a => fr_u (n33 q a)) (fun z => absurd ya z) (fun z => absurd z (Nat.succ_ne_zero k)) (fun q a _ => fr_u (n33 q a))
    · rw [o91] at q1 ty ⊢
      rw [o8] at ty ⊢
      have na : ¬ asd L (lv - 1) (jn J f 1) := fun z => q2 (aE.mpr z)
      exact fin _ ty (by rw [fr_u (fun z => n33 b b74 z.symm), u2_ne (by decide), am_u2_s]) (by rw [fr_u (fun z => n33 b b74 z.symm), am_u2_s, c1 q1]) (fun j a d g => by rw [fr_u (fun z => n33 b b74 z.symm), u2_ne a, u2_ne d]) (fun q a d => by rw [fr_u (fun z => by omega), fr_u d, fr_u d]) (fun z => absurd z na) (fun _ _ => ⟨b, v1, am_u2_s, fun j hj => by rw [u2_ne hj, fr_u (n33 b b74), fr_u (n33 b b74)], fun q a d => by rw [fr_u d, fr_u (n33 q a), fr_u (n33 q a)]⟩) (fun z => absurd z (Nat.succ_ne_zero k)) (fun q a z => by rw [fr_u (fun y => z (by rw [y]; exact fb)), fr_u (n33 q a), fr_u (n33 q a)])
    · rw [o91] at q1 ty ⊢
      rw [o8] at ty ⊢
      have ya : asd L (lv - 1) (jn J f 1) := aE.mp q2
      exact fin _ ty (by rw [u2_ne (by decide), am_u2_s]) (by rw [am_u2_s, c1 q1]) (fun j a d g => by rw [u2_ne a, u2_ne d]) (fun q a d => by rw [fr_u d, fr_u d]) (fun _ q a => by rw [fr_u (n33 q a), fr_u (n33 q a)]) (fun z => absurd ya z) (fun z => absurd z (Nat.succ_ne_zero k)) (fun q a _ => by rw [fr_u (n33 q a), fr_u (n33 q a)])
theorem nz_1 {x : Int32} (h : x = nI 0 ∨ x = nI 1) (hz : ¬ x = 0) : x = nI 1 := by
  rcases h with q | q
  · exact absurd (q.trans nI_0) hz
  · exact q
theorem go_of {h : am_H} {J L J' L' : Nat → Nat → Int32} {lab : Nat → Nat} {op tp lv c nn cc N op' tp' lv' c' : Nat} (hM : Mst h J L lab op tp lv c) (hO : Oth h J L nn cc) (hN : c + 70 * (300 - jn L 36 41) ≤ N) (hs : rstp L L') (hM' : Mst h J' L' lab (op' + 1) tp' lv' c') (hc : c' < c) (cL : chL L L') (e41 : jn L' 36 41 = jn L 36 41) (of : onf h J h J' lab 0) (hJ : ∀ q, q < 74 → ¬ q = 33 → J' q = J q) : oGo L N nn cc h J' := ⟨L', lab, op' + 1, tp', lv', c', nn, Nat.le_succ nn, hs, hM', Oth_cg hO hM.1.2.2.2 of hO.2.2.2.1 hJ cL, by rw [e41]; exact Nat.lt_of_lt_of_le (Nat.add_lt_add_right hc _) hN, fun z => absurd z (Nat.succ_ne_zero op')⟩
/-- a turn of an open frame, in the code -/
theorem w_adv {d : am_D} {h : am_H} {J L : Nat → Nat → Int32} {lab : Nat → Nat} {n tp lv c f w e u t0 lv0 c0 nn cc N : Nat} (hM : Mst h J L lab (n + 1) tp lv c) (hO : Oth h J L nn cc) (hT : Top h J L lab n tp lv c f w e u t0 lv0 c0) (hN : c + 70 * (300 - jn L 36 41) ≤ N) (hd : 5 ≤ d.1) (hw : 150 ≤ d.2) : am_wp d 149 0 [some (.ref 33), some (.ref f)] [] (am_si h J) (Qo L N nn cc) := by
  have hB := hM.1.1
  have m2 := hM.1.2.1
  have f74 := hT.1.2.2.1
  have hf := hT.1.2.1
  have hp1 := hT.2.1.1
  have hw9 := hT.2.1.2.2.1
  have h77 := hT.2.1.2.2.2.1
  have a4 := hT.1.2.2.2.1
  have n192 := hT.1.2.2.2.2
  have nw : ¬ w = f := fun z => by have a := hT.2.1.2.2.2.2; have d := hM.2.1.2.1; rw [z, a4] at a; omega
  have ne : ¬ e = f := fun z => by have hq := hT.2.2.1.2.2.2; rw [z, a4] at hq; omega
  have nu : ¬ u = f := fun z => by have hq := hT.2.2.2.1.2.2.2.2.1; rw [z, a4] at hq; omega
  have e74 := hT.2.2.1.2.2.1
  have u74 := hT.2.2.2.1.2.2.2.1
  have y2 := hT.2.2.2.2.2.2.2.2.1
  have s := hT.2.2.2.2.1
  have hE := hT.2.2.2.1.2.2.2.2.2.2
  have hop := hO.2.2.1
  have ff : fcl lab 0 f := ⟨by omega, by omega⟩
  have l33 : ∀ q, q < 74 → ¬ q = f := fun q hq z => by omega
  have n33 : ∀ q, 74 ≤ q → ¬ q = 33 := fun q hq z => by omega
  refine l_M_adv hB m2 f w e hf hp1 hw9 f74 h77 nw hT.2.2.1.1 hT.2.2.1.2.1 e74 ne hE.1 y2.1.2.1 y2.1.2.2.1 y2.1.2.2.2.1 y2.1.2.2.2.2 hd (by omega) (fun z1 z2 z3 z4 _ => ?_) (fun z1 z2 z3 z4 ty => ?_) (fun z1 z2 z3 _ => ?_) (fun z1 z2 ty => ?_) (fun z1 ty => ?_)
  · -- it closes
    have n9 : ¬ J f 9 = nI 1 := by rw [z4]; decide
    have hq : (jn J f 1 = s_pr L (lv - 1) ∧ jn L 65 t0 = 9 ∧ jn L 64 t0 = lv - 1 ∧ fmC J L f (lv - 1) t0 tp) ∨ fot J L f (lv - 1) t0 tp := by
      rcases y2.2 with ⟨p1, p2, p3, q | q | q⟩ | q
      · exact absurd q.2.1 n9
      · exact absurd q.2.1 n9
      · exact Or.inl ⟨p1, p2, p3, q⟩
      · exact Or.inr q
    have z5 : J f 5 = nI 1 := by
      rcases hq with ⟨_, _, _, q⟩ | q
      · exact q.1
      · exact nz_1 q.2.1 z2
    refine j_call (ml := 3) k149_134 rfl (show 0 < d.1 by omega) (show 19 + 3 ≤ d.2 by omega) ⟨Nat.le_of_ble_eq_true rfl, Nat.le_of_ble_eq_true rfl, am_obB hB rfl, Nat.le_of_ble_eq_true rfl⟩ rfl (rest := []) rfl (w_close hM hO hT hN z1 z3 z5 hq (show 1 ≤ d.1 - 1 by omega) (show 21 ≤ d.2 - (19 + 3) by omega)) (fun r h1 hq => ?_)
    obtain ⟨rfl, h', J', rfl, q⟩ := hq
    show am_wp _ _ _ _ [] _ _
    exact r_vret k149_137 rfl ⟨rfl, h', J', rfl, q⟩
  · -- the afters come
    have n9 : ¬ J f 9 = nI 0 := fun q => z4 (q.trans nI_0)
    have n5 : ¬ J f 5 = nI 0 := fun q => z2 (q.trans nI_0)
    have hq : jn J f 1 = s_pr L (lv - 1) ∧ jn L 65 t0 = 9 ∧ jn L 64 t0 = lv - 1 ∧ fmB J L f (lv - 1) t0 tp := by
      rcases y2.2 with ⟨p1, p2, p3, q | q | q⟩ | q
      · exact absurd q.1 n5
      · exact ⟨p1, p2, p3, q⟩
      · exact absurd q.2.1 n9
      · exact absurd q.2.2.1 n9
    obtain ⟨L', tp', c', hs, M', hc, cL, e41⟩ := t_aft hM hT hop z3 hq.1 hq.2.1 hq.2.2.1 hq.2.2.2 ty
    exact ⟨rfl, h, _, rfl, Or.inl (go_of hM hO hN hs M' hc cL e41 (onf_mono (onf_f a4 n192 (fun q a b => by rw [fr_u b, fr_u b, fr_u b])) (Nat.zero_le n)) (fun q a b => by rw [fr_u (l33 q a), fr_u (l33 q a), fr_u (l33 q a)]))⟩
  · -- a step
    have hr : run1 J L f (lv - 1) t0 tp := by
      rcases y2.2 with ⟨p1, p2, p3, q | q | q⟩ | q
      · exact absurd (q.1.trans nI_0) z2
      · exact Or.inl ⟨p1, p2, p3, q⟩
      · exact absurd q.2.2.2.2.2.2.2.1 z3
      · exact Or.inr ⟨q, nz_1 q.2.1 z2⟩
    refine j_call (ml := 4) k149_83 rfl (show 0 < d.1 by omega) (show 19 + 4 ≤ d.2 by omega) ⟨Nat.le_of_ble_eq_true rfl, Nat.le_of_ble_eq_true rfl, am_obB hB rfl, Nat.le_of_ble_eq_true rfl⟩ rfl (rest := []) rfl (w_step hM hO hT hr (Nat.not_le.mp z3) hN (show 4 ≤ d.1 - 1 by omega) (show 120 ≤ d.2 - (19 + 4) by omega)) (fun r h1 hq => ?_)
    obtain ⟨rfl, h', J', rfl, q⟩ := hq
    show am_wp _ _ _ _ [] _ _
    refine r_goto k149_86 ?_
    exact r_vret k149_137 rfl ⟨rfl, h', J', rfl, q⟩
  · -- a body begins
    have n5 : ¬ J f 5 = nI 1 := by rw [z2]; decide
    have of := onf_mono (onf_f (h := h) (J := J) (J' := am_u2 (am_u2 J f 5 (nI 1)) 33 16 ((J 33 16) + (nI 1))) a4 n192 (fun q a b => by rw [fr_u (n33 q a), fr_u b])) (Nat.zero_le n)
    have oj : ∀ q, q < 74 → ¬ q = 33 → am_u2 (am_u2 J f 5 (nI 1)) 33 16 ((J 33 16) + (nI 1)) q = J q := fun q a b => by rw [fr_u b, fr_u (l33 q a)]
    rcases y2.2 with ⟨p1, p2, p3, q | q | q⟩ | q
    · obtain ⟨L', tp', c', hs, M', hc, cL, e41⟩ := t_begM hM hT hop z1 p1 p2 p3 q ty
      exact ⟨rfl, h, _, rfl, Or.inl (go_of hM hO hN hs M' hc cL e41 of oj)⟩
    · exact absurd q.1 n5
    · exact absurd q.1 n5
    · obtain ⟨c', M', hc⟩ := t_begO hM hT z2 q ty
      exact ⟨rfl, h, _, rfl, Or.inl (go_of hM hO hN (Or.inl rfl) M' hc chL_refl rfl of oj)⟩
  · -- a before or an after is opened
    have hq : jn J f 1 = s_pr L (lv - 1) ∧ jn L 65 t0 = 9 ∧ jn L 64 t0 = lv - 1 ∧ (fmA J L f (lv - 1) t0 tp ∨ fmC J L f (lv - 1) t0 tp) := by
      rcases y2.2 with ⟨p1, p2, p3, q | q | q⟩ | q
      · exact ⟨p1, p2, p3, Or.inl q⟩
      · exact absurd (by rw [q.2.2.2.1, q.2.2.1]; exact Nat.le_refl _) z1
      · exact ⟨p1, p2, p3, Or.inr q⟩
      · exact absurd (by rw [q.2.2.2.2.1]; exact Nat.zero_le _) z1
    have s16 := s.2.2.2.2.1
    have sl := s_le (L := L) (l := lv - 1)
    have psz : jn J f 7 < s_sz L (lv - 1) ∧ asd L (lv - 1) (jn J f 7) := by
      rcases hq.2.2.2 with q | q
      · have b8 := q.2.2.2.2.2.2.2.1
        rw [b8] at z1
        exact ⟨Nat.lt_of_lt_of_le (Nat.not_le.mp z1) (Nat.le_trans sl.2.1 sl.2.2), Or.inl ⟨q.2.2.2.2.2.1, Nat.not_le.mp z1⟩⟩
      · have b8 := q.2.2.2.2.1
        rw [b8] at z1
        exact ⟨Nat.not_le.mp z1, Or.inr q.2.2.1⟩
    have l12 : lv - 1 < 12 := Nat.lt_of_lt_of_le (Nat.sub_lt hT.2.2.2.2.2.2.2.1 (by decide)) hM.2.1.2.1
    have dn := hT.2.2.2.2.2.2.2.2.2.2.1
    have n1 : n + 1 < 192 := nx_9 s16 s.2.2.2.2.2 psz.1 l12 hT.2.2.2.2.2.2.1.2.2.2.2.2 dn (by rw [dpt_as psz.2, hq.1, dpt_pr s.2.2.2.2.2])
    have p16 : jn J f 7 < 16 := Nat.lt_of_lt_of_le psz.1 s16
    have Jo : ∀ q, ¬ q = f → am_u2 J f 7 (nI ((jn J f 7) + 1)) q = J q := fun q hq => fr_u hq
    have W1 : am_W h (am_u2 J f 7 (nI ((jn J f 7) + 1))) lab := am_W_lo hM.1.2.2.2 (onf_mono (onf_f a4 n192 (fun q _ b => Jo q b)) (Nat.zero_le n)) (fun _ => rfl) rfl rfl
    rw [s1]
    refine j_call (ml := 6) k149_32 rfl (show 0 < d.1 by omega) (show 19 + 6 ≤ d.2 by omega) ⟨Nat.le_of_ble_eq_true rfl, Nat.le_of_ble_eq_true rfl, am_obB hB rfl, Nat.le_of_ble_eq_true rfl⟩ rfl (rest := []) rfl (Qc := Qo L N nn cc) (o_frame hB ty W1 hO.2.2.2.1 (by rw [jn_cg (Jo 33 (l33 33 (by decide)))]; exact hM.2.1.2.2.1) n1 hw9 h77 (lab_w hT.2.1.2.2.2.2 hM.2.1.2.1) hT.2.2.1.1 hT.2.2.1.2.1 e74 hT.2.2.1.2.2.2 hT.2.2.2.1.1 hT.2.2.2.1.2.1 hT.2.2.2.1.2.2.1 u74 hT.2.2.2.1.2.2.2.2.1 (ef_cg hE (Jo e ne) (Jo u nu)) p16 (show 2 ≤ d.1 - 1 by omega) (show 60 ≤ d.2 - (19 + 6) by omega) (fun h' J' lab' f2 B' T' W' R' o => ⟨rfl, h', J', rfl, Or.inl ?_⟩)) (fun r h1 hq => ?_)
    · obtain ⟨L', c', hs, M', hc, cL, e41⟩ := t_asd hM hT hop z1 hq.1 hq.2.1 hq.2.2.1 hq.2.2.2 B' T' W' o
      have o1 := o.1
      refine ⟨L', lab', n + 2, tp + 1, lv, c', nn, Nat.le_succ nn, hs, M', Oth_cg hO hM.1.2.2.2 ⟨fun q a b d => ?_, fun i hi => absurd hi (Nat.not_lt_zero i), o1.2.2.1, o1.2.2.2⟩ R' (fun q a b => by rw [o.2.2.2.1.1 q a b, Jo q (l33 q a)]) cL, by rw [e41]; exact Nat.lt_of_lt_of_le (Nat.add_lt_add_right hc _) hN, fun z => absurd z (Nat.succ_ne_zero _)⟩
      have nf : ¬ q = f := fun z => d (by rw [z]; exact ff)
      have g := o1.1 q a b (fun z => d ⟨by have := z.1; omega, z.2⟩)
      exact ⟨by rw [g.1, Jo q nf], g.2⟩
    · obtain ⟨rfl, h', J', rfl, q⟩ := hq
      show am_wp _ _ _ _ [] _ _
      refine r_goto k149_35 ?_
      exact r_vret k149_137 rfl ⟨rfl, h', J', rfl, q⟩
