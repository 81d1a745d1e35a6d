/-! A generic begins: both sides. -/
theorem en4_o {lv g x y : Nat} {L : Nat → Nat → Int32} : (∀ q, ¬ q = 36 → ¬ q = 61 → ¬ q = 62 → ¬ q = 63 → en4 lv g x y L q = L q) ∧ (∀ j, ¬ j = 38 → en4 lv g x y L 36 j = L 36 j) ∧ en4 lv g x y L 36 38 = nI (lv + 1) ∧ (en4 lv g x y L 61 lv = nI x ∧ ∀ j, ¬ j = lv → en4 lv g x y L 61 j = L 61 j) ∧ (en4 lv g x y L 62 lv = nI y ∧ ∀ j, ¬ j = lv → en4 lv g x y L 62 j = L 62 j) ∧ (en4 lv g x y L 63 lv = nI g ∧ ∀ j, ¬ j = lv → en4 lv g x y L 63 j = L 63 j) := by
  unfold en4
  refine ⟨fun q a b c d => by rw [fr_u a, fr_u d, fr_u c, fr_u b], fun j a => by rw [u2_ne a, fr_u (by decide), fr_u (by decide), fr_u (by decide)], am_u2_s, ⟨by rw [fr_u (by decide), fr_u (by decide), fr_u (by decide), am_u2_s], fun j a => by rw [fr_u (by decide), fr_u (by decide), fr_u (by decide), u2_ne a]⟩, ⟨by rw [fr_u (by decide), fr_u (by decide), am_u2_s], fun j a => by rw [fr_u (by decide), fr_u (by decide), u2_ne a, fr_u (by decide)]⟩, ⟨by rw [fr_u (by decide), am_u2_s], fun j a => by rw [fr_u (by decide), u2_ne a, fr_u (by decide), fr_u (by decide)]⟩⟩
/-- the rows of the lower levels stay -/
def lwr (L L2 : Nat → Nat → Int32) (lv : Nat) : Prop := (∀ q, ¬ q = 59 → ¬ q = 60 → L2 q = L q) ∧ (∀ j, j < 64 * lv → L2 59 j = L 59 j) ∧ (∀ j, j < 4 * lv → L2 60 j = L 60 j)
theorem lwr_L {L L2 : Nat → Nat → Int32} {lv tp g x y key : Nat} {ow : Int32} (h : lwr L L2 lv) : loL L (en4 lv g x y (en3 ow key L2)) tp lv ∧ ∀ l, l < lv → loV L (en4 lv g x y (en3 ow key L2)) l := by
  obtain ⟨a1, a2, a3, a4, a5, a6⟩ := en4_o (lv := lv) (g := g) (x := x) (y := y) (L := en3 ow key L2)
  obtain ⟨b1, b2, b3⟩ := en3_o (ow := ow) (key := key) (L := L2)
  generalize en4 lv g x y (en3 ow key L2) = L4 at *
  generalize en3 ow key L2 = L3 at *
  have c : ∀ q, ¬ q = 36 → ¬ q = 61 → ¬ q = 62 → ¬ q = 63 → ¬ q = 58 → ¬ q = 73 → L4 q = L2 q := fun q x1 x2 x3 x4 x5 x6 => by rw [a1 q x1 x2 x3 x4, b1 q x5 x6]
  have d : ∀ q, ¬ q = 36 → ¬ q = 61 → ¬ q = 62 → ¬ q = 63 → ¬ q = 58 → ¬ q = 73 → ¬ q = 59 → ¬ q = 60 → L4 q = L q := fun q x1 x2 x3 x4 x5 x6 x7 x8 => by rw [c q x1 x2 x3 x4 x5 x6, h.1 q x7 x8]
  have e60 : ∀ j, j < 4 * lv → L4 60 j = L 60 j := fun j hj => by rw [c 60 (by decide) (by decide) (by decide) (by decide) (by decide) (by decide), h.2.2 j hj]
  have e59 : ∀ j, j < 64 * lv → L4 59 j = L 59 j := fun j hj => by rw [c 59 (by decide) (by decide) (by decide) (by decide) (by decide) (by decide), h.2.1 j hj]
  have f1 : ∀ j, ¬ j = lv → L4 61 j = L 61 j := fun j hj => by rw [a4.2 j hj, b1 61 (by decide) (by decide), h.1 61 (by decide) (by decide)]
  have f2 : ∀ j, ¬ j = lv → L4 62 j = L 62 j := fun j hj => by rw [a5.2 j hj, b1 62 (by decide) (by decide), h.1 62 (by decide) (by decide)]
  have f3 : ∀ j, ¬ j = lv → L4 63 j = L 63 j := fun j hj => by rw [a6.2 j hj, b1 63 (by decide) (by decide), h.1 63 (by decide) (by decide)]
  refine ⟨⟨fun q x1 x2 j _ => by rw [d q (by omega) (by omega) (by omega) (by omega) (by omega) (by omega) (by omega) (by omega)], fun l hl => ⟨fun k hk => e60 _ (by omega), f1 l (by omega), f2 l (by omega), f3 l (by omega), e59 _ (by omega)⟩, d 49 (by decide) (by decide) (by decide) (by decide) (by decide) (by decide) (by decide) (by decide), d 54 (by decide) (by decide) (by decide) (by decide) (by decide) (by decide) (by decide) (by decide)⟩, fun l hl => ⟨fun k hk => e60 _ (by omega), fun j hj => e59 _ (by omega), f1 l (by omega), f2 l (by omega), f3 l (by omega), d 49 (by decide) (by decide) (by decide) (by decide) (by decide) (by decide) (by decide) (by decide)⟩⟩
/-- behind effectiveFor -/
theorem b_eff {h h1 h2 : am_H} {J J1 J2 L L2 : Nat → Nat → Int32} {lab lab1 lab2 : Nat → Nat} {op tp lv c cc w sp g x e u key : Nat} {yi ow : Int32} (hM : Mst h J L lab op tp lv c) (hlv : lv < 12) (hW1 : am_W h1 J1 lab1) (x1 : xt h J h1 J1) (l1 : ∀ q, q < am_n h → lab1 q = lab q) (p1 : ∀ q j, q < am_n h → ¬ (q = 34 ∧ j = lv) → am_P h1 q j = am_P h q j) (h34 : am_P h1 34 lv = some w) (hsp : am_P h1 w 0 = some sp) (E : Efo h1 J1 L2 lab1 lv sp g x yi ow key cc h2 J2 lab2 e u) : ((∀ l, l < lv → lvR h2 J2 L l) ∧ stk h2 J2 L op tp lv c) ∧ (am_P h2 34 lv = some w ∧ am_ob h2 w 8 ∧ 74 ≤ w ∧ lab2 w = 100 + lv) ∧ (∀ i b, i < op → am_P h 35 i = some b → am_P h2 35 i = some b ∧ J2 b = J b) ∧ (am_P h2 w 0 = some e ∨ ∃ k, k < 720 ∧ am_P h2 23 k = some e ∧ J2 e 5 = J2 24 (k / 144)) := by
  have h74 := hM.1.1.1
  have hn := x1.1
  have sop := stk_op hM.2.2.1 hM.2.2.2.1
  obtain ⟨⟨q1, q2, q3, q4⟩, ⟨q5, q6, q7, q8, q9⟩, q10, ⟨q11, q12, q13, q14⟩, q15, q16, q17⟩ := E
  have J74 : ∀ q, q < 74 → J1 q = J q := fun q hq => x1.2.2 q (by omega)
  have T1 := Pk_tr hM.1.2.2.2 (by omega) (by omega) hM.2.2.1 hM.2.2.2.1 (h' := h1) (J' := J1) (loL_refl) (fun _ _ => loV_refl) (by rw [J74 10 (by decide)]) (J74 24 (by decide)) (J74 28 (by decide)) (fun k e q => by rw [p1 23 k (by omega) (by omega)]; exact q) (fun l hl => p1 34 l (by omega) (by omega)) (fun i _ => p1 35 i (by omega) (by omega)) (fun q a b _ => ⟨x1.2.2 q b, fun j => p1 q j b (by omega)⟩)
  have K74 : ∀ q, q < 74 → ¬ q = 22 → ¬ q = 25 → ¬ q = 26 → J2 q = J1 q := q11
  have hc : ∀ q, 74 ≤ q → q < am_n h1 → act h1 J1 lab1 lv op q → J2 q = J1 q ∧ ∀ j, am_P h2 q j = am_P h1 q j := fun q a b ha => by
    refine ⟨?_, fun j => q6 q j b (by omega)⟩
    by_cases z : q = e ∨ q = u
    · exact act_ne q10 (q9 q b).1 ha (by omega) (by omega) z
    · exact q5 q a b (fun y => z (Or.inl y)) (fun y => z (Or.inr y))
  have T2 := Pk_tr hW1 (by omega) (by omega) T1.1 T1.2 (h' := h2) (J' := J2) (loL_refl) (fun _ _ => loV_refl) (by rw [K74 10 (by decide) (by decide) (by decide) (by decide)]) (K74 24 (by decide) (by decide) (by decide) (by decide)) (K74 28 (by decide) (by decide) (by decide) (by decide)) q7 (fun l _ => q6 34 l (by omega) (by decide)) (fun i _ => q6 35 i (by omega) (by decide)) hc
  obtain ⟨a, b, c, sp', d1, d2⟩ := hW1.2.1 lv hlv w h34
  have p34 : am_P h2 34 lv = some w := by rw [q6 34 lv (by omega) (by decide)]; exact h34
  have gw := q3.2.1 lv hlv w p34
  refine ⟨T2, ⟨p34, gw.2.2.1, gw.2.1, gw.1⟩, fun i bb hi hb => ?_, ?_⟩
  · have gb := hM.1.2.2.2.2.2 i (by omega) bb hb
    have ll := l1 bb gb.2.2.2.1
    have hb1 : bb < am_n h1 := Nat.lt_of_lt_of_le gb.2.2.2.1 hn
    have r := hc bb gb.2.1 hb1 (Or.inr (Or.inl (by omega)))
    exact ⟨by rw [q6 35 i (by omega) (by decide), p1 35 i (by omega) (by omega)]; exact hb, by rw [r.1, x1.2.2 bb gb.2.2.2.1]⟩
  · rcases q16 with z | z
    · left
      rw [q6 w 0 c.2.1 (by omega), hsp, z]
    · exact Or.inr z
