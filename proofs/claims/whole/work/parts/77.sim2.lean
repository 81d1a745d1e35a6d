/-! The machine's state beside the reference's; the frame on top. -/
def pdc (h : am_H) (J L : Nat → Nat → Int32) (op lv : Nat) : Prop := (op = 0 → L 73 4 = J 33 16) ∧ ∀ f, 0 < op → am_P h 35 (op - 1) = some f → ((jn J f 1 = s_pr L (lv - 1) ∨ J f 5 = nI 1) → L 73 4 = J 33 16) ∧ (¬ jn J f 1 = s_pr L (lv - 1) → J f 5 = nI 0 → L 73 4 = J 33 16 + nI 1)
def Mst (h : am_H) (J L : Nat → Nat → Int32) (lab : Nat → Nat) (op tp lv c : Nat) : Prop := (am_B h ∧ am_ty2 J ∧ am_ty2 L ∧ am_W h J lab) ∧ (jn J 33 8 = lv ∧ lv ≤ 12 ∧ jn J 33 9 = op ∧ jn L 36 39 = tp ∧ (0 < op → jn L 36 38 = lv)) ∧ (∀ l, l < lv → lvR h J L l) ∧ stk h J L op tp lv c ∧ pdc h J L op lv ∧ (J 33 11 = nI 0 ∧ J 33 13 = -1 ∧ jn J 33 10 = jn L 36 41 ∧ J 33 17 = L 73 9) ∧ (J 28 = L 57 ∧ J 29 = L 55 ∧ J 30 = L 56 ∧ J 16 = L 49 ∧ J 21 = L 54)
def Top (h : am_H) (J L : Nat → Nat → Int32) (lab : Nat → Nat) (n tp lv c f w e u t0 lv0 c0 : Nat) : Prop := (am_P h 35 n = some f ∧ am_ob h f 10 ∧ 74 ≤ f ∧ lab f = 200 + n ∧ n < 192) ∧ (am_P h f 0 = some w ∧ am_P h 34 (lv - 1) = some w ∧ am_ob h w 8 ∧ 74 ≤ w ∧ lab w = 100 + (lv - 1)) ∧ (am_P h w 1 = some e ∧ am_ob h e 9 ∧ 74 ≤ e ∧ 1000 ≤ lab e) ∧ (am_P h e 0 = some u ∧ am_ay h u 1 ∧ (am_sh h u).2.2 = 16 ∧ 74 ≤ u ∧ 1000 ≤ lab u ∧ ¬ e = u ∧ ef_ok J e u) ∧ (jn J e 2 = s_bf L (lv - 1) ∧ jn J e 3 = s_pr L (lv - 1) ∧ jn J e 4 = s_af L (lv - 1) ∧ jn J e 1 = s_sz L (lv - 1) ∧ s_sz L (lv - 1) ≤ 16 ∧ 0 < mk L (lv - 1) 0) ∧ (∀ p, p < s_sz L (lv - 1) → jn J u p = jn L 59 ((16 * ((4 * (lv - 1)) + kdp L (lv - 1) p)) + plp L (lv - 1) p)) ∧ (J w 2 = nI (jn L 49 (jn L 63 (lv - 1))) ∧ J w 3 = L 61 (lv - 1) ∧ jn L 61 (lv - 1) < jn J 10 5 ∧ (jn L 49 (jn L 63 (lv - 1)) = 2 → J w 4 = L 62 (lv - 1) ∧ jn L 62 (lv - 1) < jn J 10 5) ∧ J w 5 = nI (jn J w 5) ∧ jn J w 5 ≤ 16 * (lv - 1)) ∧ (0 < lv ∧ fR J L f (lv - 1) t0 tp ∧ adj h J L f n t0 (lv - 1) lv0 ∧ n = jn J w 5 + dpt L (lv - 1) (jn J f 1) ∧ (t0 ≤ n + (lv - 1) + 1 ∧ (jn J f 1 < s_bf L (lv - 1) ∨ jn J f 1 = s_pr L (lv - 1) → t0 ≤ n + (lv - 1))) ∧ ((lv0 = lv ∧ jn J w 5 < n) ∨ (lv0 + 1 = lv ∧ jn J w 5 = n)) ∧ c = c0 + ct J L f (lv - 1) ∧ stk h J L n t0 lv0 c0)
theorem dpt_le {L : Nat → Nat → Int32} {l p : Nat} (hs : s_sz L l ≤ 16) (h0 : 0 < mk L l 0) (hp : p < s_sz L l) : dpt L l p ≤ 15 := by
  unfold dpt
  unfold s_bf s_pr s_af s_sz at *
  split
  · omega
  · split
    · omega
    · split
      · omega
      · omega
theorem Mst_top {h : am_H} {J L : Nat → Nat → Int32} {lab : Nat → Nat} {n tp lv c : Nat} (hM : Mst h J L lab (n + 1) tp lv c) : ∃ f w e u t0 lv0 c0, Top h J L lab n tp lv c f w e u t0 lv0 c0 := by
  obtain ⟨⟨m1, m2, m3, m4⟩, ⟨m5, m6, m7, m8, m9⟩, m10, m11, m12, m13, m14⟩ := hM
  obtain ⟨f, w, t0, lv0, c0, p1, p2, p3, p4, p5, p6, p7, p8, p9, p10, p11⟩ := m11
  obtain ⟨w', e, u, q1, q2, q3, q4, q5, q6, q7⟩ := m10 (lv - 1) (by omega)
  rw [p4] at q1
  have ew : w = w' := Option.some.inj q1
  subst ew
  obtain ⟨k, k1, k2, k3, k4, k5, k6, k7⟩ := lv_obj (L := L) m4 (by omega) p4 q3 q4
  have d := dpt_le q5.2.2.2.2.1 q5.2.2.2.2.2 p5.1.1.2
  have hn : n < 192 := by have := q7.2.2.2.2.2; omega
  have gf := m4.2.2 n hn f p1
  have gw := m4.2.1 (lv - 1) (by omega) w p4
  refine ⟨f, w, e, u, t0, lv0, c0, ⟨p1, gf.2.2, gf.2.1, gf.1, hn⟩, ⟨p2, p4, gw.2.2.1, gw.2.1, gw.1⟩, ⟨q2, k2.2.2.1, k2.2.1, by rw [k2.1]; exact k1⟩, ⟨q3, k5, k6, k4, by omega, fun z => ?_, k7⟩, q5, q6, q7, p3, p5, p6, p7, p8, p9, p10, p11⟩
  have a := k2.1
  rw [z] at a
  omega
/-- what a step leaves alone in the class's store -/
def keJ (J J' : Nat → Nat → Int32) : Prop := (∀ q, 16 ≤ q → q ≤ 30 → J' q = J q) ∧ J' 10 5 = J 10 5
/-- what a step leaves alone in the reference's store -/
def keL (L L' : Nat → Nat → Int32) : Prop := ∀ q, 49 ≤ q → q ≤ 63 → L' q = L q
theorem loL_refl {L : Nat → Nat → Int32} {t lv : Nat} : loL L L t lv := ⟨fun _ _ _ _ _ => rfl, fun _ _ => ⟨fun _ _ => rfl, rfl, rfl, rfl, rfl⟩, rfl, rfl⟩
theorem loV_refl {L : Nat → Nat → Int32} {l : Nat} : loV L L l := ⟨fun _ _ => rfl, fun _ _ => rfl, rfl, rfl, rfl, rfl⟩
theorem keL_V {L L' : Nat → Nat → Int32} (h : keL L L') : ∀ l, loV L L' l := fun l => ⟨fun k _ => by rw [h 60 (by decide) (by decide)], fun j _ => by rw [h 59 (by decide) (by decide)], by rw [h 61 (by decide) (by decide)], by rw [h 62 (by decide) (by decide)], by rw [h 63 (by decide) (by decide)], h 49 (by decide) (by decide)⟩
theorem keL_L {L L' : Nat → Nat → Int32} (h : keL L L') {t lv : Nat} (hf : ∀ q, 64 ≤ q → q ≤ 71 → ∀ j, j < t → L' q j = L q j) : loL L L' t lv := ⟨hf, fun l _ => ⟨fun k _ => by rw [h 60 (by decide) (by decide)], by rw [h 61 (by decide) (by decide)], by rw [h 62 (by decide) (by decide)], by rw [h 63 (by decide) (by decide)], by rw [h 59 (by decide) (by decide)]⟩, h 49 (by decide) (by decide), h 54 (by decide) (by decide)⟩
theorem keL_mk {L L' : Nat → Nat → Int32} (h : keL L L') (l : Nat) : s_bf L' l = s_bf L l ∧ s_pr L' l = s_pr L l ∧ s_af L' l = s_af L l ∧ s_sz L' l = s_sz L l ∧ ∀ k, k < 4 → mk L' l k = mk L l k := loV_mk (keL_V h l)
theorem onf_f {h : am_H} {J J' : Nat → Nat → Int32} {lab : Nat → Nat} {n f : Nat} (hf : lab f = 200 + n) (hn : n < 192) (hJ : ∀ q, 74 ≤ q → ¬ q = f → J' q = J q) : onf h J h J' lab n := ⟨fun q a _ b => ⟨hJ q a (fun z => b (by rw [z]; exact ⟨by omega, by omega⟩)), fun _ => rfl⟩, fun _ _ => rfl, fun _ => rfl, fun _ => rfl⟩
/-- the frame on top changes, nothing is opened or closed -/
theorem Mst_same {h : am_H} {J L J' L' : Nat → Nat → Int32} {lab : Nat → Nat} {n tp lv c f w e u t0 lv0 c0 tp' : Nat} (hM : Mst h J L lab (n + 1) tp lv c) (hT : Top h J L lab n tp lv c f w e u t0 lv0 c0) (ty : am_ty2 J') (tyL : am_ty2 L') (hJ : ∀ q, 74 ≤ q → ¬ q = f → J' q = J q) (kJ : keJ J J') (kL : keL L L') (lo : ∀ q, 64 ≤ q → q ≤ 71 → ∀ j, j < t0 → L' q j = L q j) (e8 : J' 33 8 = J 33 8) (e9 : J' 33 9 = J 33 9) (e38 : L' 36 38 = L 36 38) (e39 : jn L' 36 39 = tp') (e11 : J' 33 11 = nI 0) (e13 : J' 33 13 = -1) (e10 : jn J' 33 10 = jn L' 36 41) (e17 : J' 33 17 = L' 73 9) (e1 : J' f 1 = J f 1) (hR : fR J' L' f (lv - 1) t0 tp') (hp : ((jn J' f 1 = s_pr L (lv - 1) ∨ J' f 5 = nI 1) → L' 73 4 = J' 33 16) ∧ (¬ jn J' f 1 = s_pr L (lv - 1) → J' f 5 = nI 0 → L' 73 4 = J' 33 16 + nI 1)) : Mst h J' L' lab (n + 1) tp' lv (c0 + ct J' L' f (lv - 1)) := by
  obtain ⟨⟨m1, m2, m3, m4⟩, ⟨m5, m6, m7, m8, m9⟩, m10, m11, m12, m13, m14⟩ := hM
  obtain ⟨⟨a1, a2, a3, a4, a5⟩, ⟨b1, b2, b3, b4, b5⟩, ⟨c1, c2, c3, c4⟩, ⟨d1, d2, d3, d4, d5, d6, d7⟩, s, r, x, y1, y2, y3, y4, y5, y6, y7, y8⟩ := hT
  have of := onf_f (h := h) (J := J) (J' := J') a4 a5 hJ
  have of0 := onf_mono of (Nat.zero_le n)
  obtain ⟨k1, k2, k3, k4, k5⟩ := keL_mk kL (lv - 1)
  have ew : J' w = J w := hJ w b4 (fun z => by rw [z] at b5; omega)
  have j1 : jn J' f 1 = jn J f 1 := by unfold jn; rw [e1]
  have hl0 : lv0 ≤ 12 := by omega
  refine ⟨⟨m1, ty, tyL, am_W_lo m4 of0 (fun _ => rfl) rfl rfl⟩, ⟨by unfold jn at m5 ⊢; rw [e8]; exact m5, m6, by unfold jn at m7 ⊢; rw [e9]; exact m7, e39, fun q => by have := m9 q; unfold jn at this ⊢; rw [e38]; exact this⟩, fun l hl => lvR_lo (m10 l hl) m4 (by omega) (keL_V kL l) of0 kJ.2 (kJ.1 24 (by decide) (by decide)), ?_, ?_, ⟨e11, e13, e10, e17⟩, ?_⟩
  · refine ⟨f, w, t0, lv0, c0, a1, b1, y1, b2, hR, ?_, ?_, ?_, ?_, rfl, stk_lo y8 m4 (by omega) hl0 of (kJ.1 28 (by decide) (by decide)) (keL_L kL lo)⟩
    · have as : asd L' (lv - 1) (jn J' f 1) ↔ asd L (lv - 1) (jn J f 1) := by unfold asd; rw [j1, k1, k2, k3]
      have t1 : 0 < n → 0 < t0 := fun q => by
        rcases Nat.eq_zero_or_pos t0 with z | z
        · rw [z] at y8
          cases n with
          | zero => omega
          | succ n =>
            obtain ⟨f9, w9, t9, l9, c9, _, _, _, _, z5, _⟩ := y8
            have := fR_t z5
            omega
        · exact z
      refine ⟨fun q => ?_, fun q => ?_⟩
      · obtain ⟨q1, q2, q3, q4⟩ := y3.1 (as.mp q)
        have := t1 q1
        unfold jn at q3 q4 ⊢
        rw [lo 65 (by decide) (by decide) _ (by omega), lo 67 (by decide) (by decide) _ (by omega), k5 1 (by decide)]
        exact ⟨q1, q2, q3, q4⟩
      · rcases y3.2 (fun z => q (as.mpr z)) with z | ⟨b, z1, z2, z3⟩
        · exact Or.inl z
        · by_cases hn : n = 0
          · exact Or.inl hn
          · right
            have := t1 (by omega)
            have gb := m4.2.2 (n - 1) (by omega) b z1
            refine ⟨b, z1, by rw [hJ b gb.2.1 (fun z => by rw [z] at gb; omega)]; exact z2, ?_⟩
            unfold jn at z3 ⊢
            rw [lo 65 (by decide) (by decide) _ (by omega)]
            exact z3
    · rw [jn_cg ew, j1]; unfold dpt at y4 ⊢; rw [k1, k2, k3]; exact y4
    · rw [j1, k1, k2]; exact y5
    · rw [jn_cg ew]; exact y6
  · refine ⟨fun q => absurd q (by omega), fun f' _ hf' => ?_⟩
    rw [show n + 1 - 1 = n by omega, a1] at hf'
    have ef : f = f' := Option.some.inj hf'
    rw [← ef, k2]
    exact hp
  · rw [kJ.1 28 (by decide) (by decide), kJ.1 29 (by decide) (by decide), kJ.1 30 (by decide) (by decide), kJ.1 16 (by decide) (by decide), kJ.1 21 (by decide) (by decide), kL 57 (by decide) (by decide), kL 55 (by decide) (by decide), kL 56 (by decide) (by decide), kL 49 (by decide) (by decide), kL 54 (by decide) (by decide)]
    exact m14
