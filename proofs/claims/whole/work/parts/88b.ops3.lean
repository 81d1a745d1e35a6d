/-! A step of the machine: operations without the store. -/
theorem e_fin {h : am_H} {J L J' L' : Nat → Nat → Int32} {lab : Nat → Nat} {op tp lv c nn cc : Nat} (hM : Mst h J L lab op tp lv c) (hO : Oth h J L nn cc) (ty : am_ty2 J') (tyL : am_ty2 L') (of : onf h J h J' lab 0) (hJ : ∀ q, q < 74 → ¬ q = 33 → J' q = J q) (cL : chL L L') (e17 : J' 33 17 = L' 73 9) (e4 : L' 73 4 = J' 33 16) : Fin h J' L' lab nn cc := ⟨⟨hM.1.1, ty, tyL, am_W_lo hM.1.2.2.2 of (fun _ => rfl) rfl rfl⟩, Oth_cg hO hM.1.2.2.2 of hO.2.2.2.1 hJ cL, e17, e4⟩
theorem onf_33 {h : am_H} {J : Nat → Nat → Int32} {lab : Nat → Nat} {j : Nat} {x : Int32} : onf h J h (am_u2 J 33 j x) lab 0 := ⟨fun q a _ _ => ⟨fr_u (fun z => by omega), fun _ => rfl⟩, fun _ _ => rfl, fun _ => rfl, fun _ => rfl⟩
theorem onf_tr {h : am_H} {J J1 J2 : Nat → Nat → Int32} {lab : Nat → Nat} {n : Nat} (h1 : onf h J h J1 lab n) (h2 : onf h J1 h J2 lab n) : onf h J h J2 lab n := ⟨fun q a b d => ⟨(h2.1 q a b d).1.trans (h1.1 q a b d).1, fun _ => rfl⟩, fun _ _ => rfl, fun _ => rfl, fun _ => rfl⟩
theorem onf_j1 {h : am_H} {J : Nat → Nat → Int32} {lab : Nat → Nat} {n f : Nat} (hf : lab f = 200 + n) (hn : n < 192) (f74 : 74 ≤ f) : onf h J h (M_j1 J f) lab n := onf_f hf hn (fun q a b => (M_j1_c f74).1 q (fun z => by omega) b)
/-- the limit of steps -/
theorem t_deep {h : am_H} {J L : Nat → Nat → Int32} {lab : Nat → Nat} {n tp lv c f w e u t0 lv0 c0 nn cc : Nat} (hM : Mst h J L lab (n + 1) tp lv c) (hO : Oth h J L nn cc) (hT : Top h J L lab n tp lv c f w e u t0 lv0 c0) (hr : run1 J L f (lv - 1) t0 tp) (hk : jn J f 4 < jn J 28 (jn J f 2)) (h3 : jn J 33 10 = 300) (ty : am_ty2 (am_u2 J 33 11 (-11))) : oEr L nn cc h (am_u2 J 33 11 (-11)) := by
  have rw0 := Top_RW hM hT hO.2.2.1
  obtain ⟨kd, pl, r, k9, _, z5, tl, tp0⟩ := run_ix hr
  have x39 : jn L 36 39 = tp := hM.2.1.2.2.2.1
  have m17 := hM.2.2.2.2.2.2
  have eW : R_work L = (nI 0, am_u2 L 36 40 (-11)) := R_work_D (by rw [x39, r.2.1]; exact k9) (by rw [x39, r.2.2.2.1, r.2.2.2.2.2.1, jn_e m17.1]; exact hk) (by rw [← hM.2.2.2.2.2.1.2.2.1]; exact h3)
  have tyL : am_ty2 (am_u2 L 36 40 (-11)) := by have g := RW_ty h hM.1.1 hM.1.2.2.1 rw0; rw [eW] at g; exact g
  have p4 := (hM.2.2.2.2.1.2 f (Nat.succ_pos n) hT.1.1).1 (Or.inr z5)
  refine ⟨_, lab, nn, Nat.le_succ nn, rw0, eW, e_fin hM hO ty tyL onf_33 (fun q _ b => fr_u b) ⟨fun q _ b _ => fr_u b, u2_ne (by decide), fun j _ _ => by rw [fr_u (by decide)]⟩ (by rw [u2_ne (by decide), fr_u (by decide)]; exact hM.2.2.2.2.2.1.2.2.2) (by rw [fr_u (by decide), u2_ne (by decide)]; exact p4), by rw [am_u2_s, am_u2_s], by rw [am_u2_s]; decide⟩
/-- the operation that the reference does -/
theorem t_act {h : am_H} {J L : Nat → Nat → Int32} {lab : Nat → Nat} {n tp lv c f w e u t0 lv0 c0 : Nat} (hM : Mst h J L lab (n + 1) tp lv c) (hT : Top h J L lab n tp lv c f w e u t0 lv0 c0) (hr : run1 J L f (lv - 1) t0 tp) (hk : jn J f 4 < jn J 28 (jn J f 2)) (h3 : ¬ jn J 33 10 = 300) : R_work L = R_act (R_s1 L) (tp - 1) (jn J 29 (((jn J f 2) * 8) + (jn J f 4))) (J 30 (((jn J f 2) * 8) + (jn J f 4))) := by
  obtain ⟨kd, pl, r, k9, _, z5, tl, tp0⟩ := run_ix hr
  have x39 : jn L 36 39 = tp := hM.2.1.2.2.2.1
  have m17 := hM.2.2.2.2.2.2
  rw [R_work_S (by rw [x39, r.2.1]; exact k9) (by rw [x39, r.2.2.2.1, r.2.2.2.2.2.1, jn_e m17.1]; exact hk) (by rw [← hM.2.2.2.2.2.1.2.2.1]; exact h3), x39, r.2.2.2.1, r.2.2.2.2.2.1, jn_e m17.2.1, ← m17.2.2.1, Nat.mul_comm 8 (jn J f 2)]
/-- what hasnext says, on both sides -/
theorem t_next {h : am_H} {J L : Nat → Nat → Int32} {lab : Nat → Nat} {n tp lv c f w e u t0 lv0 c0 : Nat} (hM : Mst h J L lab (n + 1) tp lv c) (hT : Top h J L lab n tp lv c f w e u t0 lv0 c0) (hr : run1 J L f (lv - 1) t0 tp) : (E_next J e (jn J f 1) = -1 ∧ ((jn (R_s1 L) 65 (tp - 1) = 0 ∧ ¬ jn (R_s1 L) 66 (tp - 1) + 1 < jn (R_s1 L) 60 ((4 * (jn (R_s1 L) 36 38 - 1)) + 0)) ∨ (¬ jn (R_s1 L) 65 (tp - 1) = 0 ∧ ¬ jn (R_s1 L) 65 (tp - 1) = 3))) ∨ ∃ p, p < s_sz L (lv - 1) ∧ E_next J e (jn J f 1) = nI p ∧ ((jn (R_s1 L) 65 (tp - 1) = 0 ∧ jn (R_s1 L) 66 (tp - 1) + 1 < jn (R_s1 L) 60 ((4 * (jn (R_s1 L) 36 38 - 1)) + 0) ∧ p = jn J f 1 + 1 ∧ s_pr L (lv - 1) < p ∧ p < s_af L (lv - 1) ∧ jn (R_s1 L) 66 (tp - 1) + 1 = p - s_pr L (lv - 1)) ∨ (¬ jn (R_s1 L) 65 (tp - 1) = 0 ∧ jn (R_s1 L) 65 (tp - 1) = 3 ∧ jn J f 1 < s_bf L (lv - 1) ∧ jn (R_s1 L) 66 (tp - 1) = jn J f 1 ∧ ((jn J f 1 + 1 < s_bf L (lv - 1) ∧ p = jn J f 1 + 1) ∨ (jn J f 1 + 1 = s_bf L (lv - 1) ∧ p = s_pr L (lv - 1))))) := by
  obtain ⟨kd, pl, r, k9, wh, z5, tl, tp0⟩ := run_ix hr
  obtain ⟨l1, l2, l3, l4, l5, l6, l7⟩ := R_s1_c (L := L)
  have e65 : jn (R_s1 L) 65 (tp - 1) = kd := by rw [jn_cg (l1 65 (by decide) (by decide) (by decide))]; exact r.2.1
  have e66 : jn (R_s1 L) 66 (tp - 1) = pl := by rw [jn_cg (l1 66 (by decide) (by decide) (by decide))]; exact r.2.2.1
  have e60 : jn (R_s1 L) 60 ((4 * (jn (R_s1 L) 36 38 - 1)) + 0) = mk L (lv - 1) 0 := by
    rw [jn_cg (l1 60 (by decide) (by decide) (by decide)), show jn (R_s1 L) 36 38 = lv from (congrArg Int32.toNatClampNeg (l2 38 (by decide))).trans (hM.2.1.2.2.2.2 (Nat.succ_pos n))]
    rfl
  rw [e65, e66, e60]
  have s := hT.2.2.2.2.1
  have psz := hT.2.2.2.2.2.2.2.2.1.1.1.2
  unfold E_next
  rw [s.1, s.2.1, s.2.2.1]
  have s0 := s.2.2.2.2.2
  have m0 : s_af L (lv - 1) = s_pr L (lv - 1) + mk L (lv - 1) 0 := rfl
  have mz : s_sz L (lv - 1) = s_af L (lv - 1) + mk L (lv - 1) 2 := rfl
  have mp : s_pr L (lv - 1) = s_bf L (lv - 1) + mk L (lv - 1) 1 := rfl
  unfold kdp plp at wh
  generalize s_bf L (lv - 1) = bf at *
  generalize s_pr L (lv - 1) = pr at *
  generalize s_af L (lv - 1) = af at *
  generalize s_sz L (lv - 1) = sz at *
  generalize mk L (lv - 1) 0 = q0 at *
  generalize mk L (lv - 1) 1 = q1 at *
  generalize mk L (lv - 1) 2 = q2 at *
  generalize jn J f 1 = p at *
  clear hM hT hr r l1 l2 l3 l4 l5 l6 l7 e65 e66 e60 tl tp0 z5 s
  by_cases z : bf ≤ p
  · rw [am_ite_t z]
    by_cases z2 : p < pr
    · rw [am_ite_t z2]
      left
      refine ⟨rfl, Or.inr ?_⟩
      rcases wh with ⟨w1, w2, w3⟩ | ⟨w1, w2, w3⟩
      · omega
      · rw [if_neg (by omega), if_pos z2] at w1; omega
    · rw [am_ite_f z2]
      by_cases z3 : af ≤ p + 1
      · rw [am_ite_t z3]
        left
        refine ⟨rfl, ?_⟩
        rcases wh with ⟨w1, w2, w3⟩ | ⟨w1, w2, w3⟩
        · left; omega
        · rw [if_neg (by omega), if_neg z2] at w1 w2
          by_cases z4 : p < af
          · rw [if_pos z4] at w1 w2; left; omega
          · rw [if_neg z4] at w1; right; omega
      · rw [am_ite_f z3]
        right
        refine ⟨p + 1, by omega, rfl, Or.inl ?_⟩
        rcases wh with ⟨w1, w2, w3⟩ | ⟨w1, w2, w3⟩
        · omega
        · rw [if_neg (by omega), if_neg z2, if_pos (by omega)] at w1 w2; omega
  · rw [am_ite_f z]
    have z4 : p < bf := Nat.not_le.mp z
    rcases wh with ⟨w1, w2, w3⟩ | ⟨w1, w2, w3⟩
    · omega
    · rw [if_pos z4] at w1 w2
      right
      by_cases z3 : bf ≤ p + 1
      · rw [am_ite_t z3]; exact ⟨pr, by omega, rfl, Or.inr ⟨by omega, w1, z4, w2, Or.inr ⟨by omega, rfl⟩⟩⟩
      · rw [am_ite_f z3]; exact ⟨p + 1, by omega, rfl, Or.inr ⟨by omega, w1, z4, w2, Or.inl ⟨by omega, rfl⟩⟩⟩
