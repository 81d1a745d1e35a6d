/-! Turns: a frame closes. -/
theorem fR_64 {J L : Nat → Nat → Int32} {f l t0 t : Nat} (h : fR J L f l t0 t) : jn L 64 (t - 1) = l := by
  rcases h.2 with ⟨p1, p2, p3, q | q | q⟩ | q
  · have := q.2.2.2.2.2.2.2.2.2.1
    rw [show t - 1 = t0 by omega]; exact p3
  · have := q.2.2.2.2.2.1
    rw [show t - 1 = t0 + 1 by omega]; exact q.2.2.2.2.2.2.1
  · have := q.2.2.2.2.2.2.2.2
    rw [show t - 1 = t0 by omega]; exact p3
  · have := q.2.2.2.2.2.1
    rw [show t - 1 = t0 by omega]; exact q.2.2.2.2.2.2.1
/-- where the reference's top is no middle, the frame runs, and its sum is there -/
theorem fR_run {J L : Nat → Nat → Int32} {f l t0 t : Nat} (h : fR J L f l t0 t) (h9 : ¬ jn L 65 (t - 1) = 9) : (jn J f 1 = s_pr L l ∧ jn L 65 t0 = 9 ∧ jn L 64 t0 = l ∧ fmB J L f l t0 t) ∨ fot J L f l t0 t := by
  rcases h.2 with ⟨p1, p2, p3, q | q | q⟩ | q
  · have := q.2.2.2.2.2.2.2.2.2.1
    rw [show t - 1 = t0 by omega] at h9; exact absurd p2 h9
  · exact Or.inl ⟨p1, p2, p3, q⟩
  · have := q.2.2.2.2.2.2.2.2
    rw [show t - 1 = t0 by omega] at h9; exact absurd p2 h9
  · exact Or.inr q
theorem fR_mid {J L : Nat → Nat → Int32} {f l t0 t : Nat} (h : fR J L f l t0 t) (h9 : jn L 65 (t - 1) = 9) : jn J f 1 = s_pr L l := by
  rcases h.2 with ⟨p1, p2, p3, q⟩ | q
  · exact p1
  · have e := q.2.2.2.2.2.1
    rw [show t - 1 = t0 by omega, q.2.2.2.2.2.2.2.1] at h9
    unfold kdp at h9
    split at h9
    · omega
    · split at h9
      · omega
      · split at h9 <;> omega
theorem runs_s {J J' L L' : Nat → Nat → Int32} {f i l k p : Nat} (h : runs J L f i l k p) (e2 : J' f 2 = J f 2) (e4 : J' f 4 = J f 4) (e6 : J' f 6 = J f 6) (hq : ∀ q, 64 ≤ q → q ≤ 71 → ¬ q = 68 → L' q i = L q i) (h3 : L' 68 i = J' f 3) (hk : keL L L') : runs J' L' f i l k p := by
  unfold runs fA jn at h ⊢
  rw [e2, e4, e6, hq 64 (by decide) (by decide) (by decide), hq 65 (by decide) (by decide) (by decide), hq 66 (by decide) (by decide) (by decide), hq 67 (by decide) (by decide) (by decide), h3, hq 69 (by decide) (by decide) (by decide), hq 70 (by decide) (by decide) (by decide), hq 71 (by decide) (by decide) (by decide), hk 61 (by decide) (by decide), hk 62 (by decide) (by decide), hk 63 (by decide) (by decide), hk 49 (by decide) (by decide)]
  exact ⟨h.1, h.2.1, h.2.2.1, h.2.2.2.1, rfl, h.2.2.2.2.2⟩
/-- the sum of the top frame of a stack changes on both sides -/
theorem stk_sum {h : am_H} {J J' L L' : Nat → Nat → Int32} {lab : Nat → Nat} {n t lv c b : Nat} (hs : stk h J L (n + 1) t lv c) (hW : am_W h J lab) (hn : n < 192) (hlv : lv ≤ 12) (hb : am_P h 35 n = some b) (h9 : ¬ jn L 65 (t - 1) = 9) (ob : ∀ q, 74 ≤ q → ¬ q = b → J' q = J q) (bj : ∀ j, ¬ j = 3 → J' b j = J b j) (h28 : J' 28 = J 28) (kL : keL L L') (lo : ∀ q, 64 ≤ q → q ≤ 71 → ∀ j, j < t → (q = 68 → ¬ j = t - 1) → L' q j = L q j) (e3 : L' 68 (t - 1) = J' b 3) : stk h J' L' (n + 1) t lv c := by
  obtain ⟨f, w, t0, lv0, c0, p1, p2, p3, p4, p5, p6, p7, p8, p9, p10, p11⟩ := hs
  rw [hb] at p1
  have ef : b = f := Option.some.inj p1
  subst ef
  have gf := hW.2.2 n hn b hb
  have gw := hW.2.1 (lv - 1) (by omega) w p4
  have of := onf_f (h := h) (J := J) (J' := J') gf.1 hn ob
  obtain ⟨k1, k2, k3, k4, k5⟩ := keL_mk kL (lv - 1)
  have ew : J' w = J w := ob w gw.2.1 (fun z => by rw [z] at gw; omega)
  have jj : ∀ j, ¬ j = 3 → jn J' b j = jn J b j := fun j hj => by unfold jn; rw [bj j hj]
  have tt := fR_t p5
  have lo0 : ∀ q, 64 ≤ q → q ≤ 71 → ∀ j, j < t0 → L' q j = L q j := fun q a b j hj => lo q a b j (by omega) (fun _ => by omega)
  have lj : ∀ q, 64 ≤ q → q ≤ 71 → ¬ q = 68 → ∀ j, j < t → jn L' q j = jn L q j := fun q a b d j hj => by unfold jn; rw [lo q a b j hj (fun z => absurd z d)]
  refine ⟨b, w, t0, lv0, c0, hb, p2, p3, p4, ⟨fty_w p5.1 k4 (bj 1 (by decide)) (bj 2 (by decide)) (by rw [jj 4 (by decide), bj 4 (by decide)]; exact p5.1.2.2.1) (by rw [jj 7 (by decide), bj 7 (by decide)]; exact p5.1.2.2.2.1) (by rw [jj 8 (by decide), bj 8 (by decide)]; exact p5.1.2.2.2.2), ?_⟩, ?_, ?_, ?_, ?_, ?_, stk_lo p11 hW (by omega) (by omega) of h28 (keL_L kL lo0)⟩
  · rcases fR_run p5 h9 with ⟨q1, q2, q3, q4⟩ | ⟨q1, q2, q3, q4, q5, q6, q7⟩
    · left
      obtain ⟨r1, r2, r3, r4, r5, r6, r7⟩ := q4
      refine ⟨by rw [jj 1 (by decide), k2]; exact q1, by rw [lj 65 (by decide) (by decide) (by decide) t0 (by omega)]; exact q2, by rw [lj 64 (by decide) (by decide) (by decide) t0 (by omega)]; exact q3, Or.inr (Or.inl ⟨by rw [bj 5 (by decide)]; exact r1, by rw [bj 9 (by decide)]; exact r2, by rw [jj 7 (by decide), k2]; exact r3, by rw [jj 8 (by decide), k2]; exact r4, by rw [lj 67 (by decide) (by decide) (by decide) t0 (by omega), k5 1 (by decide)]; exact r5, r6, ?_⟩)⟩
      exact runs_s r7 (bj 2 (by decide)) (bj 4 (by decide)) (bj 6 (by decide)) (fun q a b' d => lo q a b' (t0 + 1) (by omega) (fun z => absurd z d)) (by rw [← e3, show t - 1 = t0 + 1 by omega]) kL
    · right
      refine ⟨by rw [jj 1 (by decide), k2]; exact q1, by rw [bj 5 (by decide)]; exact q2, by rw [bj 9 (by decide)]; exact q3, by rw [jj 7 (by decide)]; exact q4, by rw [jj 8 (by decide)]; exact q5, q6, ?_⟩
      rw [jj 1 (by decide), show kdp L' (lv - 1) (jn J b 1) = kdp L (lv - 1) (jn J b 1) by unfold kdp; rw [k1, k2, k3], show plp L' (lv - 1) (jn J b 1) = plp L (lv - 1) (jn J b 1) by unfold plp; rw [k1, k2, k3, k4]]
      exact runs_s q7 (bj 2 (by decide)) (bj 4 (by decide)) (bj 6 (by decide)) (fun q a b' d => lo q a b' t0 (by omega) (fun z => absurd z d)) (by rw [← e3, show t - 1 = t0 by omega]) kL
  · have as : asd L' (lv - 1) (jn J' b 1) ↔ asd L (lv - 1) (jn J b 1) := by unfold asd; rw [jj 1 (by decide), k1, k2, k3]
    refine ⟨fun q => ?_, fun q => ?_⟩
    · obtain ⟨q1, q2, q3, q4⟩ := p6.1 (as.mp q)
      rw [lj 65 (by decide) (by decide) (by decide) _ (by omega), lj 67 (by decide) (by decide) (by decide) _ (by omega), k5 1 (by decide)]
      exact ⟨q1, q2, q3, q4⟩
    · rcases p6.2 (fun z => q (as.mpr z)) with z | ⟨x, z1, z2, z3⟩
      · exact Or.inl z
      · by_cases hz : n = 0
        · exact Or.inl hz
        · right
          have gb := hW.2.2 (n - 1) (by omega) x z1
          refine ⟨x, z1, by rw [ob x gb.2.1 (fun z => by rw [z] at gb; omega)]; exact z2, ?_⟩
          rw [lj 65 (by decide) (by decide) (by decide) _ (by omega)]
          exact z3
  · rw [jn_cg ew, jj 1 (by decide)]; unfold dpt at p7 ⊢; rw [k1, k2, k3]; exact p7
  · rw [jj 1 (by decide), k1, k2]; exact p8
  · rw [jn_cg ew]; exact p9
  · unfold ct at p10 ⊢; rw [jj 8 (by decide), jj 7 (by decide), bj 9 (by decide), bj 5 (by decide), k5 2 (by decide)]; exact p10
