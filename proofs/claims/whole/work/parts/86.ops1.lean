/-! Steps of a body: what every operation does. -/
def run1 (J L : Nat → Nat → Int32) (f l t0 t : Nat) : Prop := (jn J f 1 = s_pr L l ∧ jn L 65 t0 = 9 ∧ jn L 64 t0 = l ∧ fmB J L f l t0 t) ∨ (fot J L f l t0 t ∧ J f 5 = nI 1)
theorem run_ix {J L : Nat → Nat → Int32} {f l t0 t : Nat} (h : run1 J L f l t0 t) : ∃ kd pl, runs J L f (t - 1) l kd pl ∧ ¬ kd = 9 ∧ ((kd = 0 ∧ pl = 0 ∧ jn J f 1 = s_pr L l) ∨ (kd = kdp L l (jn J f 1) ∧ pl = plp L l (jn J f 1) ∧ ¬ jn J f 1 = s_pr L l)) ∧ J f 5 = nI 1 ∧ t0 ≤ t - 1 ∧ 0 < t := by
  rcases h with ⟨p1, p2, p3, q1, q2, q3, q4, q5, q6, q7⟩ | ⟨⟨q1, q2, q3, q4, q5, q6, q7⟩, z⟩
  · subst q6
    exact ⟨0, 0, q7, by decide, Or.inl ⟨rfl, rfl, p1⟩, q1, Nat.le_succ t0, Nat.succ_pos _⟩
  · subst q6
    exact ⟨_, _, q7, kdp_9, Or.inr ⟨rfl, rfl, q1⟩, z, Nat.le_refl t0, Nat.succ_pos _⟩
/-- a running frame's step: its sum, its arguments, how many steps are behind -/
theorem fR_upd {J J' L L' : Nat → Nat → Int32} {f l t0 t : Nat} (hR : fR J L f l t0 t) (hr : run1 J L f l t0 t) (kL : keL L L') (fj : ∀ j, ¬ j = 3 → ¬ j = 4 → ¬ j = 6 → J' f j = J f j) (f4 : J' f 4 = nI (jn J' f 4) ∧ jn J' f 4 < 9) (lo : ∀ q, 64 ≤ q → q ≤ 71 → ∀ j, j < t - 1 → L' q j = L q j) (hn : ∀ kd pl, runs J L f (t - 1) l kd pl → runs J' L' f (t - 1) l kd pl) : fR J' L' f l t0 t := by
  obtain ⟨k1, k2, k3, k4, k5⟩ := keL_mk kL l
  have jj : ∀ j, ¬ j = 3 → ¬ j = 4 → ¬ j = 6 → jn J' f j = jn J f j := fun j a b d => by unfold jn; rw [fj j a b d]
  refine ⟨fty_w hR.1 k4 (fj 1 (by decide) (by decide) (by decide)) (fj 2 (by decide) (by decide) (by decide)) f4 (by rw [jj 7 (by decide) (by decide) (by decide), fj 7 (by decide) (by decide) (by decide)]; exact hR.1.2.2.2.1) (by rw [jj 8 (by decide) (by decide) (by decide), fj 8 (by decide) (by decide) (by decide)]; exact hR.1.2.2.2.2), ?_⟩
  rcases hr with ⟨p1, p2, p3, q1, q2, q3, q4, q5, q6, q7⟩ | ⟨⟨q1, q2, q3, q4, q5, q6, q7⟩, z⟩
  · subst q6
    left
    have lt : t0 < t0 + 2 - 1 := Nat.lt_succ_self t0
    have lj : ∀ q, 64 ≤ q → q ≤ 71 → jn L' q t0 = jn L q t0 := fun q a b => by unfold jn; rw [lo q a b t0 lt]
    exact ⟨by rw [jj 1 (by decide) (by decide) (by decide), k2]; exact p1, by rw [lj 65 (by decide) (by decide)]; exact p2, by rw [lj 64 (by decide) (by decide)]; exact p3, Or.inr (Or.inl ⟨by rw [fj 5 (by decide) (by decide) (by decide)]; exact q1, by rw [fj 9 (by decide) (by decide) (by decide)]; exact q2, by rw [jj 7 (by decide) (by decide) (by decide), k2]; exact q3, by rw [jj 8 (by decide) (by decide) (by decide), k2]; exact q4, by rw [lj 67 (by decide) (by decide), k5 1 (by decide)]; exact q5, rfl, hn 0 0 q7⟩)⟩
  · subst q6
    right
    refine ⟨by rw [jj 1 (by decide) (by decide) (by decide), k2]; exact q1, by rw [fj 5 (by decide) (by decide) (by decide)]; exact q2, by rw [fj 9 (by decide) (by decide) (by decide)]; exact q3, by rw [jj 7 (by decide) (by decide) (by decide)]; exact q4, by rw [jj 8 (by decide) (by decide) (by decide)]; exact q5, rfl, ?_⟩
    rw [jj 1 (by decide) (by decide) (by decide), show kdp L' l (jn J f 1) = kdp L l (jn J f 1) by unfold kdp; rw [k1, k2, k3], show plp L' l (jn J f 1) = plp L l (jn J f 1) by unfold plp; rw [k1, k2, k3, k4]]
    exact hn _ _ q7
/-- a step that opens nothing -/
theorem t_op {h : am_H} {J L J' L' : Nat → Nat → Int32} {lab : Nat → Nat} {n tp lv c f w e u t0 lv0 c0 : Nat} (hM : Mst h J L lab (n + 1) tp lv c) (hT : Top h J L lab n tp lv c f w e u t0 lv0 c0) (hr : run1 J L f (lv - 1) t0 tp) (ty : am_ty2 J') (tyL : am_ty2 L') (hJ : ∀ q, 74 ≤ q → ¬ q = f → J' q = J q) (kJ : keJ J J') (kL : keL L L') (fj : ∀ j, ¬ j = 3 → ¬ j = 4 → ¬ j = 6 → J' f j = J f j) (f4 : J' f 4 = nI (jn J f 4 + 1)) (hk : jn J f 4 < 8) (o33 : ∀ j, ¬ j = 10 → ¬ j = 17 → ¬ j = 14 → ¬ j = 15 → J' 33 j = J 33 j) (e10 : jn J' 33 10 = jn L' 36 41) (e17 : J' 33 17 = L' 73 9) (e38 : L' 36 38 = L 36 38) (e39 : L' 36 39 = L 36 39) (e4 : L' 73 4 = L 73 4) (lo : ∀ q, 64 ≤ q → q ≤ 71 → ∀ j, ¬ j = tp - 1 → L' q j = L q j) (hq : ∀ q, q = 64 ∨ q = 65 ∨ q = 66 ∨ q = 71 → L' q (tp - 1) = L q (tp - 1)) (h67 : L' 67 (tp - 1) = nI (jn J f 4 + 1)) (h68 : L' 68 (tp - 1) = J' f 3) (hA : fA J' L' f (tp - 1) (lv - 1)) : Mst h J' L' lab (n + 1) tp lv c := by
  obtain ⟨kd, pl, r, _, _, z5, tl, tp0⟩ := run_ix hr
  have y2 := hT.2.2.2.2.2.2.2.2.1
  have y7 := hT.2.2.2.2.2.2.2.2.2.2.2.2.2.1
  have k31 : jn J f 4 + 1 < 2 ^ 31 := Nat.lt_trans (Nat.succ_lt_succ hk) (by decide)
  have i4 : jn J' f 4 = jn J f 4 + 1 := by show (J' f 4).toNatClampNeg = _; rw [f4]; exact nI_clamp k31
  have lo2 : ∀ q, 64 ≤ q → q ≤ 71 → ∀ j, j < tp - 1 → L' q j = L q j := fun q a b j hj => lo q a b j (Nat.ne_of_lt hj)
  have hR : fR J' L' f (lv - 1) t0 tp := fR_upd y2 hr kL fj ⟨by rw [i4]; exact f4, by rw [i4]; exact Nat.succ_lt_succ hk⟩ lo2 (fun kd pl q => ⟨by unfold jn; rw [hq 64 (Or.inl rfl)]; exact q.1, by unfold jn; rw [hq 65 (Or.inr (Or.inl rfl))]; exact q.2.1, by unfold jn; rw [hq 66 (Or.inr (Or.inr (Or.inl rfl)))]; exact q.2.2.1, by rw [i4]; show (L' 67 (tp - 1)).toNatClampNeg = _; rw [h67]; exact nI_clamp k31, h68, by unfold jn; rw [hq 71 (Or.inr (Or.inr (Or.inr rfl))), fj 2 (by decide) (by decide) (by decide)]; exact q.2.2.2.2.2.1, hA⟩)
  have p4 := hM.2.2.2.2.1.2 f (Nat.succ_pos n) hT.1.1
  have f1 : jn J' f 1 = jn J f 1 := by unfold jn; rw [fj 1 (by decide) (by decide) (by decide)]
  have k5 := (keL_mk kL (lv - 1)).2.2.2.2
  have ec : c = c0 + ct J' L' f (lv - 1) := by
    rw [y7]
    unfold ct jn
    rw [fj 8 (by decide) (by decide) (by decide), fj 7 (by decide) (by decide) (by decide), fj 9 (by decide) (by decide) (by decide), fj 5 (by decide) (by decide) (by decide), k5 2 (by decide)]
  rw [ec]
  exact Mst_same hM hT ty tyL hJ kJ kL (fun q a b j hj => lo2 q a b j (Nat.lt_of_lt_of_le hj tl)) (o33 8 (by decide) (by decide) (by decide) (by decide)) (o33 9 (by decide) (by decide) (by decide) (by decide)) e38 (by unfold jn; rw [e39]; exact hM.2.1.2.2.2.1) (by rw [o33 11 (by decide) (by decide) (by decide) (by decide)]; exact hM.2.2.2.2.2.1.1) (by rw [o33 13 (by decide) (by decide) (by decide) (by decide)]; exact hM.2.2.2.2.2.1.2.1) e10 e17 (fj 1 (by decide) (by decide) (by decide)) hR ⟨fun _ => by rw [e4, o33 16 (by decide) (by decide) (by decide) (by decide)]; exact p4.1 (Or.inr z5), fun _ q => absurd (q.symm.trans (fj 5 (by decide) (by decide) (by decide))) (by rw [z5]; exact nI_01)⟩
/-- the counters of a step, on both sides -/
theorem R_s1_c {L : Nat → Nat → Int32} : (∀ q, ¬ q = 36 → ¬ q = 67 → ¬ q = 73 → R_s1 L q = L q) ∧ (∀ j, ¬ j = 41 → R_s1 L 36 j = L 36 j) ∧ R_s1 L 36 41 = nI (jn L 36 41 + 1) ∧ (∀ j, ¬ j = 9 → R_s1 L 73 j = L 73 j) ∧ R_s1 L 73 9 = L 73 9 + nI 1 ∧ (∀ j, ¬ j = jn L 36 39 - 1 → R_s1 L 67 j = L 67 j) ∧ R_s1 L 67 (jn L 36 39 - 1) = nI (jn L 67 (jn L 36 39 - 1) + 1) := by
  unfold R_s1
  refine ⟨fun q a b d => by rw [fr_u b, fr_u d, fr_u a], fun j hj => by rw [fr_u (by decide), fr_u (by decide), u2_ne hj], by rw [fr_u (by decide), fr_u (by decide), am_u2_s], fun j hj => by rw [fr_u (by decide), u2_ne hj, fr_u (by decide)], by rw [fr_u (by decide), am_u2_s], fun j hj => by rw [u2_ne hj, fr_u (by decide), fr_u (by decide)], am_u2_s⟩
