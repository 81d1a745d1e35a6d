/-! Turns of the machine: a body begins; a body is behind and the afters come. -/
def RW (L : Nat → Nat → Int32) : Prop := 0 < jn L 36 38 ∧ 0 < jn L 36 39 ∧ jn L 36 39 < 320 ∧ jn L 67 (jn L 36 39 - 1) < 19 ∧ (jn L 65 (jn L 36 39 - 1) = 3 → jn L 66 (jn L 36 39 - 1) < 15) ∧ ∀ j, jn L 55 j = 7 → L 56 j = nI (jx (L 56 j)) ∧ jx (L 56 j) < 5
theorem RW_ty {L : Nat → Nat → Int32} (h : am_H) (hB : am_B h) (hL : am_ty2 L) (r : RW L) : am_ty2 (R_work L).2 := by
  obtain ⟨n, r', h', _, _, _, g⟩ := s_R_work (d := (11, 434)) hB hL r.1 r.2.1 r.2.2.1 r.2.2.2.1 r.2.2.2.2.1 r.2.2.2.2.2 (by decide) (by decide)
  exact g
/-- the reference does nothing, or one step that goes on -/
def rstp (L L' : Nat → Nat → Int32) : Prop := L' = L ∨ (RW L ∧ R_work L = (nI 1, L'))
/-- changes in the reference that show nowhere but in the call -/
def chL (L L' : Nat → Nat → Int32) : Prop := (∀ q, ¬ (64 ≤ q ∧ q ≤ 71) → ¬ q = 36 → ¬ q = 73 → L' q = L q) ∧ L' 36 37 = L 36 37 ∧ (∀ j, ¬ j = 4 → ¬ j = 9 → L' 73 j = L 73 j)
def opv (L : Nat → Nat → Int32) : Prop := ∀ j, (jn L 55 j = 2 ∨ jn L 55 j = 3 → L 56 j = nI (jx (L 56 j)) ∧ jx (L 56 j) < 6) ∧ (jn L 55 j = 7 → L 56 j = nI (jx (L 56 j)) ∧ jx (L 56 j) < 5)
theorem chL_ke {L L' : Nat → Nat → Int32} (h : chL L L') : keL L L' := fun q a b => h.1 q (by omega) (by omega) (by omega)
theorem chL_refl {L : Nat → Nat → Int32} : chL L L := ⟨fun _ _ _ _ => rfl, rfl, fun _ _ _ => rfl⟩
theorem Top_RW {h : am_H} {J L : Nat → Nat → Int32} {lab : Nat → Nat} {n tp lv c f w e u t0 lv0 c0 : Nat} (hM : Mst h J L lab (n + 1) tp lv c) (hT : Top h J L lab n tp lv c f w e u t0 lv0 c0) (ho : opv L) : RW L := by
  obtain ⟨⟨m1, m2, m3, m4⟩, ⟨m5, m6, m7, m8, m9⟩, m10, m11, m12, m13, m14⟩ := hM
  obtain ⟨⟨a1, a2, a3, a4, a5⟩, _, _, _, s, _, x, y1, y2, y3, y4, y5, y6, y7, y8⟩ := hT
  have m9 := m9 (by omega)
  have tt := fR_t y2
  refine ⟨by omega, by omega, by omega, ?_, ?_, fun j hj => (ho j).2 hj⟩
  · rw [m8]
    rcases y2.2 with ⟨p1, p2, p3, q | q | q⟩ | q
    · obtain ⟨_, _, _, _, _, q6, q7, _, q9, q10⟩ := q
      rw [show tp - 1 = t0 by omega, q9]
      unfold s_bf s_pr s_sz at *
      omega
    · obtain ⟨_, _, _, _, _, q6, q7⟩ := q
      rw [show tp - 1 = t0 + 1 by omega, q7.2.2.2.1]
      have := y2.1.2.2.1.2
      omega
    · obtain ⟨_, _, q3, q4, _, q6, _, _, q9⟩ := q
      rw [show tp - 1 = t0 by omega, q6]
      unfold s_af s_sz at *
      omega
    · rw [show tp - 1 = t0 by have := q.2.2.2.2.2.1; omega, q.2.2.2.2.2.2.2.2.2.1]
      have := y2.1.2.2.1.2
      omega
  · rw [m8]
    intro h3
    rcases y2.2 with ⟨p1, p2, p3, q | q | q⟩ | q
    · have := q.2.2.2.2.2.2.2.2.2
      rw [show tp - 1 = t0 by omega] at h3
      omega
    · have q7 := q.2.2.2.2.2.2
      have := q.2.2.2.2.2.1
      rw [show tp - 1 = t0 + 1 by omega, q7.2.1] at h3
      omega
    · have := q.2.2.2.2.2.2.2.2
      rw [show tp - 1 = t0 by omega] at h3
      omega
    · have := q.2.2.2.2.2.1
      have r := q.2.2.2.2.2.2
      rw [show tp - 1 = t0 by omega, r.2.1] at h3
      rw [show tp - 1 = t0 by omega, r.2.2.1]
      unfold kdp at h3
      unfold plp
      by_cases z : jn J f 1 < s_bf L (lv - 1)
      · rw [if_pos z]
        unfold s_bf s_sz at *
        omega
      · rw [if_neg z] at h3
        split at h3
        · omega
        · split at h3 <;> omega
theorem fty_w {J J' L L' : Nat → Nat → Int32} {f l : Nat} (h : fty J L f l) (hs : s_sz L' l = s_sz L l) (e1 : J' f 1 = J f 1) (e2 : J' f 2 = J f 2) (e4 : J' f 4 = nI (jn J' f 4) ∧ jn J' f 4 < 9) (e7 : J' f 7 = nI (jn J' f 7) ∧ jn J' f 7 ≤ 16) (e8 : J' f 8 = nI (jn J' f 8) ∧ jn J' f 8 ≤ 16) : fty J' L' f l := by
  refine ⟨?_, ?_, e4, e7, e8⟩
  · have g := h.1
    unfold jn at g ⊢
    rw [e1, hs]; exact g
  · have g := h.2.1
    unfold jn at g ⊢
    rw [e2]; exact g
theorem runs_w {J J' L L' : Nat → Nat → Int32} {f i l k p : Nat} (h : runs J L f i l k p) (e2 : J' f 2 = J f 2) (e3 : J' f 3 = J f 3) (e4 : J' f 4 = J f 4) (e6 : J' f 6 = J f 6) (hq : ∀ q, 64 ≤ q → q ≤ 71 → L' q i = L q i) (hk : keL L L') : runs J' L' f i l k p := by
  unfold runs fA jn at h ⊢
  rw [e2, e3, e4, e6, hq 64 (by decide) (by decide), hq 65 (by decide) (by decide), hq 66 (by decide) (by decide), hq 67 (by decide) (by decide), hq 68 (by decide) (by decide), hq 69 (by decide) (by decide), hq 70 (by decide) (by decide), hq 71 (by decide) (by decide), hk 61 (by decide) (by decide), hk 62 (by decide) (by decide), hk 63 (by decide) (by decide), hk 49 (by decide) (by decide)]
  exact h
theorem nI_01 : ¬ (nI 0 = nI 1) := by decide
/-- a body begins that is no middle's -/
theorem t_begO {h : am_H} {J L : Nat → Nat → Int32} {lab : Nat → Nat} {n tp lv c f w e u t0 lv0 c0 : Nat} (hM : Mst h J L lab (n + 1) tp lv c) (hT : Top h J L lab n tp lv c f w e u t0 lv0 c0) (z2 : J f 5 = 0) (hq : fot J L f (lv - 1) t0 tp) (ty : am_ty2 (am_u2 (am_u2 J f 5 (nI 1)) 33 16 ((J 33 16) + (nI 1)))) : ∃ c', Mst h (am_u2 (am_u2 J f 5 (nI 1)) 33 16 ((J 33 16) + (nI 1))) L lab (n + 1) tp lv c' ∧ c' < c := by
  have hf74 := hT.1.2.2.1
  have hM2 := hM
  obtain ⟨⟨m1, m2, m3, m4⟩, ⟨m5, m6, m7, m8, m9⟩, m10, m11, m12, ⟨m13, m14, m15, m16⟩, m17⟩ := hM
  have a1 := hT.1.1
  have y2 := hT.2.2.2.2.2.2.2.2.1
  have y7 := hT.2.2.2.2.2.2.2.2.2.2.2.2.2.1
  have fj : ∀ j, ¬ j = 5 → am_u2 (am_u2 J f 5 (nI 1)) 33 16 ((J 33 16) + (nI 1)) f j = J f j := fun j hj => by rw [fr_u (by omega), u2_ne hj]
  have f5 : am_u2 (am_u2 J f 5 (nI 1)) 33 16 ((J 33 16) + (nI 1)) f 5 = nI 1 := by rw [fr_u (by omega), am_u2_s]
  have jj : ∀ j, ¬ j = 5 → jn (am_u2 (am_u2 J f 5 (nI 1)) 33 16 ((J 33 16) + (nI 1))) f j = jn J f j := fun j hj => by unfold jn; rw [fj j hj]
  obtain ⟨q1, q2, q3, q4, q5, q6, q7⟩ := hq
  have p4 := m12.2 f (by omega) a1
  have p5 := p4.2 q1 (z2.trans nI_0.symm)
  have e16 : am_u2 (am_u2 J f 5 (nI 1)) 33 16 ((J 33 16) + (nI 1)) 33 16 = J 33 16 + nI 1 := am_u2_s
  have o33 : ∀ j, ¬ j = 16 → am_u2 (am_u2 J f 5 (nI 1)) 33 16 ((J 33 16) + (nI 1)) 33 j = J 33 j := fun j hj => by rw [u2_ne hj, fr_u (by omega)]
  refine ⟨_, Mst_same hM2 hT ty m3 (fun q hq hn => by rw [fr_u (by omega), fr_u hn]) ⟨fun q _ _ => by rw [fr_u (by omega), fr_u (by omega)], by rw [fr_u (by omega), fr_u (by omega)]⟩ (fun _ _ _ => rfl) (fun _ _ _ _ _ => rfl) (o33 8 (by decide)) (o33 9 (by decide)) rfl m8 (by rw [o33 11 (by decide)]; exact m13) (by rw [o33 13 (by decide)]; exact m14) (by unfold jn at m15 ⊢; rw [o33 10 (by decide)]; exact m15) (by rw [o33 17 (by decide)]; exact m16) (fj 1 (by decide)) ⟨fty_w y2.1 rfl (fj 1 (by decide)) (fj 2 (by decide)) (by rw [jj 4 (by decide), fj 4 (by decide)]; exact y2.1.2.2.1) (by rw [jj 7 (by decide), fj 7 (by decide)]; exact y2.1.2.2.2.1) (by rw [jj 8 (by decide), fj 8 (by decide)]; exact y2.1.2.2.2.2), Or.inr ⟨by rw [jj 1 (by decide)]; exact q1, Or.inr f5, by rw [fj 9 (by decide)]; exact q3, by rw [jj 7 (by decide)]; exact q4, by rw [jj 8 (by decide)]; exact q5, q6, by rw [jj 1 (by decide)]; exact runs_w q7 (fj 2 (by decide)) (fj 3 (by decide)) (fj 4 (by decide)) (fj 6 (by decide)) (fun _ _ _ => rfl) (fun _ _ _ => rfl)⟩⟩ ⟨fun _ => by rw [e16]; exact p5, fun _ z => absurd (f5.symm.trans z) (by decide)⟩, ?_⟩
  rw [y7]
  unfold ct
  rw [jj 8 (by decide), jj 7 (by decide), fj 9 (by decide), f5, if_pos rfl, if_neg (show ¬ J f 5 = nI 1 by rw [z2]; decide)]
  omega
