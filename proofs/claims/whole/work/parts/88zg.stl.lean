/-! define in the class: the loops. -/
def bel (J : Nat → Nat → Int32) (c d : Nat) : Prop := d = c ∨ (¬ jn J 5 d = 0 ∧ ¬ C_place J d (nI c) < 0)
theorem there_n {J : Nat → Nat → Int32} {d : Nat} (hd : d < 12) : C_there J (nI d) ↔ ¬ jn J 5 d = 0 := by
  unfold C_there
  rw [am_ite_t (w_in_nI (show d ≤ 11 by omega) (by decide)), jx_nI (by omega)]
  by_cases z : jn J 5 d = 0
  · rw [am_ite_t z]; exact ⟨fun q => q.elim, fun q => absurd z q⟩
  · rw [am_ite_f z]; exact ⟨fun _ => z, fun _ => True.intro⟩
theorem below_c {J : Nat → Nat → Int32} {c d : Nat} (hc : c < 12) (hd : d < 12) : C_below J (nI d) c ↔ bel J c d := by
  unfold C_below bel
  by_cases z : d = c
  · rw [am_ite_t (by rw [z])]; exact ⟨fun _ => Or.inl z, fun _ => True.intro⟩
  · rw [am_ite_f (fun q => z ((nI_eq (by omega) (by omega)).mp q))]
    by_cases z2 : C_there J (nI d)
    · rw [am_ite_t z2, jx_nI (by omega)]
      rw [there_n hd] at z2
      by_cases z3 : C_place J d (nI c) < 0
      · rw [am_ite_t z3]; exact ⟨fun q => q.elim, fun q => q.elim z (fun w => w.2 z3)⟩
      · rw [am_ite_f z3]; exact ⟨fun _ => Or.inr ⟨z2, z3⟩, fun _ => True.intro⟩
    · rw [am_ite_f z2]
      rw [there_n hd] at z2
      exact ⟨fun q => q.elim, fun q => q.elim z (fun w => z2 w.1)⟩
theorem C_pl_cgd {J K : Nat → Nat → Int32} {d : Nat} {x : Int32} (h : ∀ i, i < 12 → K 4 (12 * d + i) = J 4 (12 * d + i)) : ∀ m k, k + m ≤ 12 → C_pl d x m k K = C_pl d x m k J := by
  intro m
  induction m with
  | zero => intro k _; rfl
  | succ m ih =>
    intro k hk
    rw [C_pl, C_pl, ih (k + 1) (by omega)]
    have e : jn K 4 (d * 12 + k) = jn J 4 (d * 12 + k) := by
      have g := h k (by omega)
      unfold jn
      rw [show d * 12 + k = 12 * d + k by omega, g]
    rw [e]
theorem bel_cg {J K : Nat → Nat → Int32} (hT : am_ty2 J) {c d : Nat} (h4 : ∀ i, i < 12 → K 4 (12 * d + i) = J 4 (12 * d + i)) (h5 : K 5 d = J 5 d) : bel K c d ↔ bel J c d := by
  have e5 : jn K 5 d = jn J 5 d := by unfold jn; rw [h5]
  have b5 := (ty_n hT (q := 5) (B := 13) (by decide) (by decide) d).2
  unfold bel C_place
  rw [e5, C_pl_cgd h4 (jn J 5 d) 0 (by omega)]
theorem ah_c {J : Nat → Nat → Int32} (hJ : am_ty2 J) {T : Nat → Int32} {c : Nat} (hc : c < 12) (hD : ∀ d, d < 12 → (∃ n r, Dr T d n r) ∨ Dn T d) : ∀ m k K, k + m = 12 → K 3 = T → K 4 = J 4 → K 5 = J 5 → ((C_ah c m k K).1 = nI 1 ∧ (∀ d, k ≤ d → d < 12 → bel J c d → ∃ n r, Dr T d n r)) ∨ ((C_ah c m k K).1 = nI 0 ∧ ∃ d, k ≤ d ∧ d < 12 ∧ bel J c d ∧ Dn T d) := by
  intro m
  induction m with
  | zero => intro k K hk _ _ _; rw [C_ah]; exact Or.inl ⟨rfl, fun d a b => by omega⟩
  | succ m ih =>
    intro k K hk h3 h4 h5
    rw [C_ah]
    have bq : C_below K (nI k) c ↔ bel J c k := (below_c hc (by omega)).trans (bel_cg hJ (fun i _ => by rw [h4]) (by rw [h5]))
    have fr : ∀ q, ¬ q = 8 → ¬ q = 9 → (C_draw K k).2 q = K q := fun q a b => fr_C_draw q ⟨a, b⟩
    by_cases z : C_below K (nI k) c
    · rw [am_ite_t z]
      have z' := bq.mp z
      rcases hD k (by omega) with ⟨n, r, D⟩ | D
      · have e := (D.2.2.2.1 K h3).1
        have n12 := D.1
        rw [e, jx_nI (by omega), am_ite_f (by omega)]
        rcases ih (k + 1) (C_draw K k).2 (by omega) (by rw [fr 3 (by decide) (by decide)]; exact h3) (by rw [fr 4 (by decide) (by decide)]; exact h4) (by rw [fr 5 (by decide) (by decide)]; exact h5) with ⟨a, b⟩ | ⟨a, d, b⟩
        · refine Or.inl ⟨a, fun d x y w => ?_⟩
          by_cases ed : d = k
          · rw [ed]; exact ⟨n, r, D⟩
          · exact b d (by omega) y w
        · exact Or.inr ⟨a, d, by omega, b.2⟩
      · have e := D.1 K h3
        rw [e, am_ite_t (by decide)]
        exact Or.inr ⟨rfl, k, Nat.le_refl k, by omega, z', D⟩
    · rw [am_ite_f z]
      rcases ih (k + 1) K (by omega) h3 h4 h5 with ⟨a, b⟩ | ⟨a, d, b⟩
      · refine Or.inl ⟨a, fun d x y w => ?_⟩
        by_cases ed : d = k
        · rw [ed] at w; exact absurd (bq.mpr w) z
        · exact b d (by omega) y w
      · exact Or.inr ⟨a, d, by omega, b.2⟩
/-- lengths and rows are made anew, for those below k -/
def Pst (bl : Nat → Prop) (n : Nat → Nat) (r : Nat → Nat → Nat) (k : Nat) (X X' Y Y' : Nat → Int32) : Prop := (∀ d, d < k → bl d → X' d = nI (n d) ∧ ∀ i, i < n d → Y' (12 * d + i) = nI (r d i)) ∧ (∀ j, ¬ (j < k ∧ bl j) → X' j = X j) ∧ ∀ j, ¬ (∃ d, d < k ∧ bl d ∧ ∃ i, i < n d ∧ j = 12 * d + i) → Y' j = Y j
theorem Pst_u {bl : Nat → Prop} {n : Nat → Nat} {r : Nat → Nat → Nat} {k : Nat} {X X1 X2 Y Y1 Y2 : Nat → Int32} (h1 : Pst bl n r k X X1 Y Y1) (h2 : Pst bl n r k X X2 Y Y2) : X1 = X2 ∧ Y1 = Y2 := by
  refine ⟨funext fun j => ?_, funext fun j => ?_⟩
  · by_cases z : j < k ∧ bl j
    · rw [(h1.1 j z.1 z.2).1, (h2.1 j z.1 z.2).1]
    · rw [h1.2.1 j z, h2.2.1 j z]
  · by_cases z : ∃ d, d < k ∧ bl d ∧ ∃ i, i < n d ∧ j = 12 * d + i
    · obtain ⟨d, a, b, i, e, f⟩ := z
      rw [f, (h1.1 d a b).2 i e, (h2.1 d a b).2 i e]
    · rw [h1.2.2 j z, h2.2.2 j z]
theorem Pst_0 {bl : Nat → Prop} {n : Nat → Nat} {r : Nat → Nat → Nat} {X Y : Nat → Int32} : Pst bl n r 0 X X Y Y := ⟨fun d hd => by omega, fun _ _ => rfl, fun _ _ => rfl⟩
/-- one that is not made anew -/
theorem Pst_n {bl : Nat → Prop} {n : Nat → Nat} {r : Nat → Nat → Nat} {k : Nat} {X X' Y Y' : Nat → Int32} (h : Pst bl n r k X X' Y Y') (hb : ¬ bl k) : Pst bl n r (k + 1) X X' Y Y' := by
  refine ⟨fun d a b => h.1 d (by have : ¬ d = k := fun e => hb (by rw [← e]; exact b); omega) b, fun j a => h.2.1 j (fun q => a ⟨by omega, q.2⟩), fun j a => h.2.2 j (fun ⟨d, x, y⟩ => a ⟨d, by omega, y⟩)⟩
/-- one that is -/
theorem Pst_y {bl : Nat → Prop} {n : Nat → Nat} {r : Nat → Nat → Nat} {k : Nat} {X X' X2 Y Y' Y2 : Nat → Int32} (h : Pst bl n r k X X' Y Y') (hn : ∀ d, d ≤ k → bl d → n d ≤ 12) (hb : bl k) (x1 : X2 k = nI (n k)) (x2 : ∀ j, ¬ j = k → X2 j = X' j) (y1 : ∀ i, i < n k → Y2 (12 * k + i) = nI (r k i)) (y2 : ∀ j, ¬ (∃ i, i < n k ∧ j = 12 * k + i) → Y2 j = Y' j) : Pst bl n r (k + 1) X X2 Y Y2 := by
  refine ⟨fun d a b => ?_, fun j a => ?_, fun j a => ?_⟩
  · by_cases e : d = k
    · rw [e]; exact ⟨x1, y1⟩
    · have g := h.1 d (by omega) b
      have nd := hn d (by omega) b
      refine ⟨by rw [x2 d e]; exact g.1, fun i hi => ?_⟩
      rw [y2 _ (fun ⟨i', w1, w2⟩ => by have := hn k (Nat.le_refl k) hb; omega)]
      exact g.2 i hi
  · have e : ¬ j = k := fun e => a ⟨by omega, by rw [e]; exact hb⟩
    rw [x2 j e]
    exact h.2.1 j (fun q => a ⟨by omega, q.2⟩)
  · rw [y2 j (fun ⟨i, w1, w2⟩ => a ⟨k, by omega, hb, i, w1, w2⟩)]
    exact h.2.2 j (fun ⟨d, w1, w2⟩ => a ⟨d, by omega, w2⟩)
/-- the rows of one that comes later stand as they were -/
theorem Pst_k {bl : Nat → Prop} {n : Nat → Nat} {r : Nat → Nat → Nat} {k : Nat} {X X' Y Y' : Nat → Int32} (h : Pst bl n r k X X' Y Y') (hn : ∀ d, d < k → bl d → n d ≤ 12) : X' k = X k ∧ ∀ i, i < 12 → Y' (12 * k + i) = Y (12 * k + i) := ⟨h.2.1 k (fun q => by omega), fun i hi => h.2.2 _ (fun ⟨d, a, b, i', e, f⟩ => by have := hn d a b; omega)⟩
theorem rn_c {J : Nat → Nat → Int32} (hJ : am_ty2 J) {T : Nat → Int32} {c : Nat} {n : Nat → Nat} {r : Nat → Nat → Nat} (hc : c < 12) (hD : ∀ d, d < 12 → bel J c d → Dr T d (n d) (r d)) : ∀ m k K, k + m = 12 → K 3 = T → Pst (bel J c) n r k (J 5) (K 5) (J 4) (K 4) → Pst (bel J c) n r 12 (J 5) (C_rn c m k K 5) (J 4) (C_rn c m k K 4) := by
  intro m
  induction m with
  | zero => intro k K hk _ h; rw [C_rn]; rw [show k = 12 by omega] at h; exact h
  | succ m ih =>
    intro k K hk h3 h
    rw [C_rn]
    have hn : ∀ d, d ≤ k → bel J c d → n d ≤ 12 := fun d a b => (hD d (by omega) b).1.2
    have kk := Pst_k h (fun d a b => hn d (by omega) b)
    have bq : C_below K (nI k) c ↔ bel J c k := (below_c hc (by omega)).trans (bel_cg hJ kk.2 kk.1)
    by_cases z : C_below K (nI k) c
    · rw [am_ite_t z]
      have z' := bq.mp z
      have D := hD k (by omega) z'
      obtain ⟨d1, d2⟩ := D.2.2.2.1 K h3
      have fr : ∀ q, ¬ q = 8 → ¬ q = 9 → (C_draw K k).2 q = K q := fun q a b => fr_C_draw q ⟨a, b⟩
      rw [d1, jx_nI (by have := D.1; omega)]
      refine ih (k + 1) _ (by omega) ?_ ?_
      · rw [fr_r (by decide), fr_u (by decide), fr 3 (by decide) (by decide)]; exact h3
      · refine Pst_y h hn z' ?_ (fun j hj => ?_) (fun i hi => ?_) (fun j hj => ?_)
        · rw [fr_r (by decide), am_u2_s]
        · rw [fr_r (by decide), u2_ne hj, fr 5 (by decide) (by decide)]
        · show (if 4 = 4 then _ else _) = _
          rw [if_pos rfl]
          show (if k * 12 ≤ 12 * k + i ∧ 12 * k + i < k * 12 + n k then _ else _) = _
          rw [if_pos (by omega), fr_u (by decide), show 0 + (12 * k + i - k * 12) = i by omega]
          exact d2 i hi
        · show (if 4 = 4 then _ else _) = _
          rw [if_pos rfl]
          show (if k * 12 ≤ j ∧ j < k * 12 + n k then _ else _) = _
          rw [if_neg (fun q => hj ⟨j - 12 * k, by omega, by omega⟩), fr_u (by decide), fr 4 (by decide) (by decide)]
    · rw [am_ite_f z]
      exact ih (k + 1) K (by omega) h3 (Pst_n h (fun q => z (bq.mpr q)))
