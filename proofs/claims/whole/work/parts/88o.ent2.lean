/-! What enter leaves in the reference: all methods. -/
theorem R_e2_s {g x y m k : Nat} {J : Nat → Nat → Int32} {ow : Int32} (h : apl J g x y k) : (ins_ J g k → R_e2 g x y (m + 1) k J ow = R_e2 g x y m (k + 1) (R_ins J k x y) (ow ||| nI 1)) ∧ (¬ ins_ J g k → R_e2 g x y (m + 1) k J ow = R_e2 g x y m (k + 1) (R_ins J k x y) (ow ||| nI 0)) := by
  obtain ⟨h1, h2, h3⟩ := h
  unfold ins_
  rw [R_e2, am_ite_t h1, am_ite_t h2]
  by_cases p2 : jn J 49 g = 2
  · rw [am_ite_t p2, am_ite_t (h3 p2)]
    by_cases z : 15 < jn J 52 k
    · rw [am_ite_t z]; exact ⟨fun _ => rfl, fun q => absurd (Or.inl z) q⟩
    · rw [am_ite_f z]
      by_cases z2 : jn J 53 k ≤ 15
      · rw [am_ite_t z2]; exact ⟨fun q => by omega, fun _ => rfl⟩
      · rw [am_ite_f z2]; exact ⟨fun _ => rfl, fun q => absurd (Or.inr ⟨p2, by omega⟩) q⟩
  · rw [am_ite_f p2]
    by_cases z : 15 < jn J 52 k
    · rw [am_ite_t z]; exact ⟨fun _ => rfl, fun q => absurd (Or.inl z) q⟩
    · rw [am_ite_f z]; exact ⟨fun q => by omega, fun _ => rfl⟩
theorem R_e2_n {g x y m k : Nat} {J : Nat → Nat → Int32} {ow : Int32} (h : ¬ apl J g x y k) : R_e2 g x y (m + 1) k J ow = R_e2 g x y m (k + 1) J ow := by
  rw [R_e2]
  by_cases h1 : J 50 k = nI g
  · rw [am_ite_t h1]
    by_cases h2 : R_suits J (jn J 52 k) x
    · rw [am_ite_t h2]
      by_cases p2 : jn J 49 g = 2
      · rw [am_ite_t p2]
        by_cases h3 : R_suits J (jn J 53 k) y
        · exact absurd ⟨h1, h2, fun _ => h3⟩ h
        · rw [am_ite_f h3]
      · exact absurd ⟨h1, h2, fun q => absurd q p2⟩ h
    · rw [am_ite_f h2]
  · rw [am_ite_f h1]
theorem R_ins_ty {J : Nat → Nat → Int32} {w x y : Nat} (h : am_H) (hB : am_B h) (hT : am_ty2 J) (hw : w < 16) (hx : x < 12) (hy : y < 12) (hm : jn J 60 ((4 * (jn J 36 38)) + (jn J 51 w)) < 16) (ho : ¬ J 50 w = -1) : am_ty2 (R_ins J w x y) := by
  obtain ⟨n, r', h', _, _, _, g⟩ := s_R_ins (d := (11, 434)) hB hT w x y hw hx hy hm ho (by decide) (by decide)
  exact g
theorem or_1 {ow : Int32} (h : ow = nI 0 ∨ ow = nI 1) : ow ||| nI 1 = nI 1 ∧ ow ||| nI 0 = ow := by
  rcases h with rfl | rfl <;> decide
theorem R_e2_c {g x y lv : Nat} {rk : Nat → Int32} (h : am_H) (hB : am_B h) (hg : g < 5) (hx : x < 12) (hy : y < 12) : ∀ m k J ow, k + m = 16 → am_ty2 J → jn J 36 38 = lv → rws J g x y lv k rk → (∀ kd, kd < 4 → mk J lv kd ≤ k) → (∀ w v, w < 16 → v < 16 → ¬ w = v → apl J g x y w → apl J g x y v → jn J 51 v = jn J 51 w → (R_bef J w v x y ↔ rk w < rk v) ∧ ¬ rk w = rk v) → (ow = nI 0 ∨ ow = nI 1) → (ow = nI 0 ↔ ∀ w, w < k → apl J g x y w → ¬ ins_ J g w) → rws (R_e2 g x y m k J ow).1 g x y lv 16 rk ∧ am_ty2 (R_e2 g x y m k J ow).1 ∧ (∀ q, ¬ q = 59 → ¬ q = 60 → (R_e2 g x y m k J ow).1 q = J q) ∧ (∀ j, j < 64 * lv → (R_e2 g x y m k J ow).1 59 j = J 59 j) ∧ (∀ j, j < 4 * lv → (R_e2 g x y m k J ow).1 60 j = J 60 j) ∧ ((R_e2 g x y m k J ow).2 = nI 0 ∨ (R_e2 g x y m k J ow).2 = nI 1) ∧ ((R_e2 g x y m k J ow).2 = nI 0 ↔ ∀ w, w < 16 → apl J g x y w → ¬ ins_ J g w) := by
  intro m
  induction m with
  | zero =>
    intro k J ow hk hT hl hr hm hb ho1 ho2
    rw [R_e2]
    have ek : k = 16 := by omega
    subst ek
    exact ⟨hr, hT, fun _ _ _ => rfl, fun _ _ => rfl, fun _ _ => rfl, ho1, ho2⟩
  | succ m ih =>
    intro k J ow hk hT hl hr hm hb ho1 ho2
    by_cases ap : apl J g x y k
    · have b51 := ty_n hT (q := 51) (B := 4) (by decide) (by decide) k
      have hn : jn J 60 (4 * lv + jn J 51 k) < 16 := Nat.lt_of_le_of_lt (hm _ b51.2) (by omega)
      obtain ⟨r1, r2, r3, r4, r5, r6⟩ := rws_in hT hr hl (by omega) ap hn (fun v a b c => hb k v (by omega) (by omega) (by omega) ap b c)
      have n50 : ¬ J 50 k = -1 := by rw [ap.1]; exact nI_n1 (by omega)
      have T2 := R_ins_ty h hB hT (w := k) (by omega) hx hy (by rw [hl]; exact hn) n50
      have l2 : jn (R_ins J k x y) 36 38 = lv := by rw [jn_cg (r3 36 (by decide) (by decide))]; exact hl
      have step : ∀ ow', (ow' = nI 0 ∨ ow' = nI 1) → (ow' = nI 0 ↔ ∀ w, w < k + 1 → apl J g x y w → ¬ ins_ J g w) → R_e2 g x y (m + 1) k J ow = R_e2 g x y m (k + 1) (R_ins J k x y) ow' → rws (R_e2 g x y (m + 1) k J ow).1 g x y lv 16 rk ∧ am_ty2 (R_e2 g x y (m + 1) k J ow).1 ∧ (∀ q, ¬ q = 59 → ¬ q = 60 → (R_e2 g x y (m + 1) k J ow).1 q = J q) ∧ (∀ j, j < 64 * lv → (R_e2 g x y (m + 1) k J ow).1 59 j = J 59 j) ∧ (∀ j, j < 4 * lv → (R_e2 g x y (m + 1) k J ow).1 60 j = J 60 j) ∧ ((R_e2 g x y (m + 1) k J ow).2 = nI 0 ∨ (R_e2 g x y (m + 1) k J ow).2 = nI 1) ∧ ((R_e2 g x y (m + 1) k J ow).2 = nI 0 ↔ ∀ w, w < 16 → apl J g x y w → ¬ ins_ J g w) := fun ow' a b c => by
        rw [c]
        obtain ⟨q1, q2, q3, q4, q5, q6, q7⟩ := ih (k + 1) (R_ins J k x y) ow' (by omega) T2 l2 r1 (fun kd hkd => Nat.le_trans (r6 kd hkd) (Nat.succ_le_succ (hm kd hkd))) (fun w v w1 v1 wv aw av kk => by rw [(apl_cg r2).1] at aw av; rw [jn_cg (r2 51 (by decide)), jn_cg (r2 51 (by decide))] at kk; rw [R_bef_cg r2]; exact hb w v w1 v1 wv aw av kk) a (b.trans ⟨fun q w w1 w2 => by rw [(apl_cg (g := g) (x := x) (y := y) r2).2]; exact q w w1 ((apl_cg r2).1.mp w2), fun q w w1 w2 => by have := q w w1 ((apl_cg r2).1.mpr w2); rw [(apl_cg (g := g) (x := x) (y := y) r2).2] at this; exact this⟩)
        refine ⟨q1, q2, fun q x1 x2 => (q3 q x1 x2).trans (r3 q x1 x2), fun j hj => (q4 j hj).trans (r4 j hj), fun j hj => (q5 j hj).trans (r5 j hj), q6, q7.trans ⟨fun q w w1 w2 => ?_, fun q w w1 w2 => ?_⟩⟩
        · have := q w w1 ((apl_cg r2).1.mpr w2); rw [(apl_cg (g := g) (x := x) (y := y) r2).2] at this; exact this
        · rw [(apl_cg (g := g) (x := x) (y := y) r2).2]; exact q w w1 ((apl_cg r2).1.mp w2)
      by_cases iz : ins_ J g k
      · refine step (nI 1) (Or.inr rfl) ⟨fun q => absurd q (by decide), fun q => absurd iz (q k (by omega) ap)⟩ ?_
        rw [(R_e2_s ap).1 iz, (or_1 ho1).1]
      · refine step ow ho1 (ho2.trans ⟨fun q w w1 w2 => ?_, fun q w w1 w2 => q w (by omega) w2⟩) ?_
        · by_cases e : w = k
          · rw [e]; exact iz
          · exact q w (by omega) w2
        · rw [(R_e2_s ap).2 iz, (or_1 ho1).2]
    · rw [R_e2_n ap]
      refine ih (k + 1) J ow (by omega) hT hl (fun kd hkd => enm_P (hr kd hkd) (fun w => ⟨fun q => ⟨by have a := q.1; have : ¬ w = k := fun e => ap (by rw [← e]; exact q.2.1); omega, q.2⟩, fun q => ⟨by have := q.1; omega, q.2⟩⟩)) (fun kd hkd => Nat.le_succ_of_le (hm kd hkd)) hb ho1 (ho2.trans ⟨fun q w w1 w2 => ?_, fun q w w1 w2 => q w (by omega) w2⟩)
      by_cases e : w = k
      · exact absurd (by rw [← e]; exact w2) ap
      · exact q w (by omega) w2
/-- the rows start empty -/
theorem R_e1_c {g x y lv : Nat} (hlv : lv < 13) : ∀ m k J, k + m = 4 → am_ty2 J → jn J 36 38 = lv → (∀ kd, kd < k → mk J lv kd = 0) → (∀ kd, kd < 4 → mk (R_e1 g x y m k J) lv kd = 0) ∧ am_ty2 (R_e1 g x y m k J) ∧ (∀ q, ¬ q = 60 → R_e1 g x y m k J q = J q) ∧ ∀ j, j < 4 * lv → R_e1 g x y m k J 60 j = J 60 j := by
  intro m
  induction m with
  | zero => intro k J hk hT hl h; rw [R_e1]; exact ⟨fun kd hd => h kd (by omega), hT, fun _ _ => rfl, fun _ _ => rfl⟩
  | succ m ih =>
    intro k J hk hT hl h
    rw [R_e1, hl]
    obtain ⟨a, b, c, d⟩ := ih (k + 1) (am_u2 J 60 (4 * lv + k) (nI 0)) (by omega) (ty_w hT (tw_n (B := 17) (by decide) (by decide) (by decide) (by decide))) (by rw [jn_cg (fr_u (by decide))]; exact hl) (fun kd hd => by
      by_cases e : kd = k
      · show (am_u2 J 60 (4 * lv + k) (nI 0) 60 (4 * lv + kd)).toNatClampNeg = 0
        rw [e, am_u2_s]; rfl
      · show (am_u2 J 60 (4 * lv + k) (nI 0) 60 (4 * lv + kd)).toNatClampNeg = 0
        rw [u2_ne (by omega)]; exact h kd (by omega))
    exact ⟨a, b, fun q hq => (c q hq).trans (fr_u hq), fun j hj => (d j hj).trans (u2_ne (by omega))⟩
/-- the rows that enter has made, and whether an instance is named -/
theorem R_rows {L : Nat → Nat → Int32} {g x y lv : Nat} {rk : Nat → Int32} (h : am_H) (hB : am_B h) (hT : am_ty2 L) (hg : g < 5) (hx : x < 12) (hy : y < 12) (hl : jn L 36 38 = lv) (hb : ∀ w v, w < 16 → v < 16 → ¬ w = v → apl L g x y w → apl L g x y v → jn L 51 v = jn L 51 w → (R_bef L w v x y ↔ rk w < rk v) ∧ ¬ rk w = rk v) : ∃ L2 ow, R_enter L g x y = R_e9 g x y ow L2 ∧ rws L2 g x y lv 16 rk ∧ am_ty2 L2 ∧ (∀ q, ¬ q = 59 → ¬ q = 60 → L2 q = L q) ∧ (∀ j, j < 64 * lv → L2 59 j = L 59 j) ∧ (∀ j, j < 4 * lv → L2 60 j = L 60 j) ∧ (ow = nI 0 ∨ ow = nI 1) ∧ (ow = nI 0 ↔ ∀ w, w < 16 → apl L g x y w → ¬ ins_ L g w) := by
  have b38 := (ty_f hT (q := 36) (j := 38) (B := 13) (by decide) (by decide)).2
  rw [hl] at b38
  obtain ⟨a, b, c, d⟩ := R_e1_c (g := g) (x := x) (y := y) b38 4 0 L (by omega) hT hl (fun kd hd => by omega)
  have l1 : jn (R_e1 g x y 4 0 L) 36 38 = lv := by rw [jn_cg (c 36 (by decide))]; exact hl
  have ap : apc L (R_e1 g x y 4 0 L) := fun q hq => c q (by omega)
  obtain ⟨q1, q2, q3, q4, q5, q6, q7⟩ := R_e2_c (lv := lv) (rk := rk) h hB hg hx hy 16 0 (R_e1 g x y 4 0 L) (nI 0) (by omega) b l1 (fun kd hkd => by rw [a kd hkd]; exact enm_0 (fun m q => by have := q.1; omega)) (fun kd hkd => by rw [a kd hkd]; exact Nat.le_refl _) (fun w v w1 v1 wv aw av kk => by rw [(apl_cg ap).1] at aw av; rw [jn_cg (ap 51 (by decide)), jn_cg (ap 51 (by decide))] at kk; rw [R_bef_cg ap]; exact hb w v w1 v1 wv aw av kk) (Or.inl rfl) ⟨fun _ w hw => by omega, fun _ => rfl⟩
  refine ⟨_, _, rfl, q1, q2, fun q a b => (q3 q a b).trans (c q b), fun j hj => by rw [q4 j hj, c 59 (by decide)], fun j hj => (q5 j hj).trans (d j hj), q6, q7.trans ⟨fun q w w1 w2 => ?_, fun q w w1 w2 => ?_⟩⟩
  · have := q w w1 ((apl_cg ap).1.mpr w2); rw [(apl_cg (g := g) (x := x) (y := y) ap).2] at this; exact this
  · rw [(apl_cg (g := g) (x := x) (y := y) ap).2]; exact q w w1 ((apl_cg ap).1.mp w2)
