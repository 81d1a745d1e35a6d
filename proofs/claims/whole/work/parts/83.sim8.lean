/-! A frame is opened in the same level. -/
theorem stk_t0 {h : am_H} {J L : Nat → Nat → Int32} {n t lv c : Nat} (hs : stk h J L n t lv c) (hn : 0 < n) : 0 < t := by
  cases n with
  | zero => omega
  | succ n =>
    obtain ⟨f9, w9, t9, l9, c9, _, _, _, _, z5, _⟩ := hs
    have := fR_t z5
    omega
def tbd (L : Nat → Nat → Int32) (l p t0 n : Nat) : Prop := t0 ≤ n + l + 1 ∧ (p < s_bf L l ∨ p = s_pr L l → t0 ≤ n + l)
def lvd (lv0 lv x n : Nat) : Prop := (lv0 = lv ∧ x < n) ∨ (lv0 + 1 = lv ∧ x = n)
theorem lvd_le {lv0 lv x n : Nat} (h : lvd lv0 lv x n) : lv0 ≤ lv := by unfold lvd at h; omega
theorem nf_lo {lab : Nat → Nat} {n q : Nat} (h : lab q < 200) : ¬ fcl lab n q := fun z => by unfold fcl at z; omega
theorem nf_hi {lab : Nat → Nat} {n q : Nat} (h : 392 ≤ lab q) : ¬ fcl lab n q := fun z => by unfold fcl at z; omega
theorem nf_n {lab : Nat → Nat} {n i q : Nat} (h : lab q = 200 + i) (hi : i < n) : ¬ fcl lab n q := fun z => by unfold fcl at z; omega
theorem lab_w {x lv : Nat} (h : x = 100 + (lv - 1)) (h2 : lv ≤ 12) : x < 200 := by omega
theorem Mst_push {h h' : am_H} {J J0 J' L L' : Nat → Nat → Int32} {lab lab' : Nat → Nat} {n tp lv c f w e u t0 lv0 c0 f2 p2 : Nat} (hM : Mst h J L lab (n + 1) tp lv c) (hT : Top h J L lab n tp lv c f w e u t0 lv0 c0) (hB' : am_B h') (ty : am_ty2 J') (hW' : am_W h' J' lab') (tyL : am_ty2 L') (hJ0 : ∀ q, 74 ≤ q → ¬ q = f → J0 q = J q) (kJ0 : keJ J J0) (e1 : J0 f 1 = J f 1) (o : opn h J0 h' J' lab lab' (n + 1) f2 w e u p2) (kL : keL L L') (lo : ∀ q, 64 ≤ q → q ≤ 71 → ∀ j, j < t0 → L' q j = L q j) (e8 : J0 33 8 = J 33 8) (e38 : L' 36 38 = L 36 38) (e39 : jn L' 36 39 = tp + 1) (e11 : J0 33 11 = nI 0) (e13 : J0 33 13 = -1) (e10 : jn J0 33 10 = jn L' 36 41) (e17 : J0 33 17 = L' 73 9) (hR : fR J' L' f (lv - 1) t0 tp) (hR2 : fR J' L' f2 (lv - 1) tp (tp + 1)) (hA2 : adj h' J' L' f2 (n + 1) tp (lv - 1) lv) (hd2 : n + 1 = jn J w 5 + dpt L (lv - 1) p2) (ht2 : tbd L (lv - 1) p2 tp (n + 1)) (hp16 : p2 < 16) (hp : (p2 = s_pr L (lv - 1) → L' 73 4 = J0 33 16) ∧ (¬ p2 = s_pr L (lv - 1) → L' 73 4 = J0 33 16 + nI 1)) : Mst h' J' L' lab' (n + 2) (tp + 1) lv (c0 + ct J' L' f (lv - 1) + ct J' L' f2 (lv - 1)) := by
  obtain ⟨⟨m1, m2, m3, m4⟩, ⟨m5, m6, m7, m8, m9⟩, m10, m11, m12, m13, m14⟩ := hM
  obtain ⟨⟨a1, a2, a3, a4, a5⟩, ⟨b1, b2, b3, b4, b5⟩, ⟨c1, c2, c3, c4⟩, ⟨d1, d2, d3, d4, d5, d6, d7⟩, s, r, x, y1, y2, y3, y4, y5, y6, y7, y8⟩ := hT
  have y5 : tbd L (lv - 1) (jn J f 1) t0 n := y5
  have y6 : lvd lv0 lv (jn J w 5) n := y6
  have lv0l := lvd_le y6
  obtain ⟨o1, ⟨o2, o3, o4, o5⟩, ⟨o6, o7⟩, ⟨o8, o9, o10⟩, o11, o12, o13, o14⟩ := o
  have fn := a2.2.1
  have ff2 : ¬ f = f2 := fun z => by have g := (o7 f fn).1; rw [z, o4, ← z, a4] at g; omega
  have gf := o11 f a3 fn ff2
  -- everything but the frames from n on
  have of : onf h J h' J' lab n := ⟨fun q a b z => by
      have nf : ¬ q = f := fun z2 => z (by rw [z2]; exact ⟨by omega, by omega⟩)
      have g := o1.1 q a b (fun z2 => z ⟨by have := z2.1; omega, z2.2⟩)
      exact ⟨g.1.trans (hJ0 q a nf), g.2⟩, fun i hi => o1.2.1 i (by omega), o1.2.2.1, o1.2.2.2⟩
  have of0 := onf_mono of (Nat.zero_le n)
  have kJ : ∀ q, 16 ≤ q → q ≤ 30 → J' q = J q := fun q a b => (o8 q (by omega) (by omega)).trans (kJ0.1 q a b)
  have k10 : J' 10 5 = J 10 5 := by rw [o8 10 (by decide) (by decide)]; exact kJ0.2
  obtain ⟨k1, k2, k3, k4, k5⟩ := keL_mk kL (lv - 1)
  have gw := of.1 w b4 b3.2.1 (nf_lo (lab_w b5 m6))
  have ew := gw.1
  have j1 : jn J' f 1 = jn J f 1 := by unfold jn; rw [gf.1, e1]
  have j2 : jn J' f2 1 = p2 := by unfold jn; rw [o12.1]; exact nI_clamp (by omega)
  have tt := fR_t y2
  refine ⟨⟨hB', ty, tyL, hW'⟩, ⟨by unfold jn at m5 ⊢; rw [o10 8 (by decide), e8]; exact m5, m6, by unfold jn; rw [o9]; exact nI_clamp (by omega), e39, fun _ => by have := m9 (by omega); unfold jn at this ⊢; rw [e38]; exact this⟩, fun l hl => lvR_lo (m10 l hl) m4 (by omega) (keL_V kL l) of0 k10 (kJ 24 (by decide) (by decide)), ?_, ?_, ⟨by rw [o10 11 (by decide)]; exact e11, by rw [o10 13 (by decide)]; exact e13, by unfold jn at e10 ⊢; rw [o10 10 (by decide)]; exact e10, by rw [o10 17 (by decide)]; exact e17⟩, ?_⟩
  · refine ⟨f2, w, tp, lv, c0 + ct J' L' f (lv - 1), o2, o3, y1, by rw [o1.2.2.1]; exact b2, hR2, hA2, ?_, ?_, ?_, rfl, ?_⟩
    · rw [jn_cg ew, j2]; unfold dpt at hd2 ⊢; rw [k1, k2, k3]; exact hd2
    · rw [j2, k1, k2]; exact ht2
    · rw [jn_cg ew]; left; exact ⟨rfl, by omega⟩
    · refine ⟨f, w, t0, lv0, c0, by rw [o1.2.1 n (by omega)]; exact a1, by rw [gf.2]; exact b1, y1, by rw [o1.2.2.1]; exact b2, hR, ?_, ?_, ?_, ?_, rfl, stk_lo y8 m4 (by omega) (by omega) of (kJ 28 (by decide) (by decide)) (keL_L kL lo)⟩
      · have as : asd L' (lv - 1) (jn J' f 1) ↔ asd L (lv - 1) (jn J f 1) := by unfold asd; rw [j1, k1, k2, k3]
        refine ⟨fun q => ?_, fun q => ?_⟩
        · obtain ⟨q1, q2, q3, q4⟩ := y3.1 (as.mp q)
          have := stk_t0 y8 q1
          unfold jn at q3 q4 ⊢
          rw [lo 65 (by decide) (by decide) _ (by omega), lo 67 (by decide) (by decide) _ (by omega), k5 1 (by decide)]
          exact ⟨q1, q2, q3, q4⟩
        · rcases y3.2 (fun z => q (as.mpr z)) with z | ⟨b, z1, z2, z3⟩
          · exact Or.inl z
          · by_cases hn : n = 0
            · exact Or.inl hn
            · right
              have := stk_t0 y8 (by omega)
              have gb := m4.2.2 (n - 1) (by omega) b z1
              have g := of.1 b gb.2.1 gb.2.2.2.1 (nf_n gb.1 (by omega))
              refine ⟨b, by rw [o1.2.1 (n - 1) (by omega)]; exact z1, by rw [g.1]; exact z2, ?_⟩
              unfold jn at z3 ⊢
              rw [lo 65 (by decide) (by decide) _ (by omega)]
              exact z3
      · rw [jn_cg ew, j1]; unfold dpt at y4 ⊢; rw [k1, k2, k3]; exact y4
      · rw [j1, k1, k2]; exact y5
      · rw [jn_cg ew]; exact y6
  · refine ⟨fun q => absurd q (by omega), fun f' _ hf' => ?_⟩
    rw [show n + 2 - 1 = n + 1 by omega, o2] at hf'
    have ef : f2 = f' := Option.some.inj hf'
    rw [← ef, k2, j2, o10 16 (by decide), o12.2.2.2.2.1]
    refine ⟨fun q => ?_, fun q _ => hp.2 q⟩
    rcases q with q | q
    · exact hp.1 q
    · exact absurd q nI_01
  · rw [kJ 28 (by decide) (by decide), kJ 29 (by decide) (by decide), kJ 30 (by decide) (by decide), kJ 16 (by decide) (by decide), kJ 21 (by decide) (by decide), kL 57 (by decide) (by decide), kL 55 (by decide) (by decide), kL 56 (by decide) (by decide), kL 49 (by decide) (by decide), kL 54 (by decide) (by decide)]
    exact m14
