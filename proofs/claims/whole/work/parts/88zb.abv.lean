/-! All that is above a class, here and there. -/
theorem tyA_lt {A : Nat → Int32} (hA : tyA A) {j : Nat} : A j < 0 ↔ A j = -1 := by
  rcases hA j with z | z
  · rw [z]; exact ⟨fun _ => rfl, fun _ => by decide⟩
  · constructor
    · intro q; rw [z.1] at q; exact absurd q (nI_pos (by omega))
    · intro q; rw [q]; decide
theorem tyA_ge {A : Nat → Int32} (hA : tyA A) {j : Nat} : 0 ≤ A j ↔ ¬ A j = -1 := by
  rcases hA j with z | z
  · rw [z]; exact ⟨fun q => absurd q (by decide), fun q => absurd rfl q⟩
  · constructor
    · intro q e; rw [e] at q; exact absurd q (by decide)
    · intro _; rw [z.1]; exact nI_pos' (by omega)
theorem tyA_32 {A : Nat → Int32} (hA : tyA A) {j : Nat} (h : ¬ A j = -1) : (A j).toNatClampNeg < 12 := by
  rcases hA j with z | z
  · exact absurd z h
  · exact z.2
theorem da_c {J : Nat → Nat → Int32} (hA : tyA (J 3)) {c x : Nat} : ∀ m k w, hs (C_da c m k J w) x ↔ hs w x ∨ ∃ i, k ≤ i ∧ i < k + m ∧ ¬ J 3 i = -1 ∧ jn J 3 i = x := by
  intro m
  induction m with
  | zero => intro k w; rw [C_da]; exact ⟨Or.inl, fun q => q.elim id (fun ⟨i, a, b, _⟩ => by omega)⟩
  | succ m ih =>
    intro k w
    rw [C_da]
    by_cases z : J 3 k = -1
    · rw [am_ite_t z, ih]
      constructor
      · rintro (q | ⟨i, a, b, e⟩)
        · exact Or.inl q
        · exact Or.inr ⟨i, by omega, by omega, e⟩
      · rintro (q | ⟨i, a, b, e⟩)
        · exact Or.inl q
        · have : ¬ i = k := fun y => e.1 (by rw [y]; exact z)
          exact Or.inr ⟨i, by omega, by omega, e⟩
    · rw [am_ite_f z, ih, hs_or, hs_bit (show jn J 3 k < 32 by have : jn J 3 k < 12 := tyA_32 hA z; omega)]
      constructor
      · rintro ((q | q) | ⟨i, a, b, e⟩)
        · exact Or.inl q
        · exact Or.inr ⟨k, Nat.le_refl k, by omega, z, q.symm⟩
        · exact Or.inr ⟨i, by omega, by omega, e⟩
      · rintro (q | ⟨i, a, b, e⟩)
        · exact Or.inl (Or.inl q)
        · by_cases y : i = k
          · rw [y] at e; exact Or.inl (Or.inr e.2.symm)
          · exact Or.inr ⟨i, by omega, by omega, e⟩
theorem above1_c {J : Nat → Nat → Int32} (hA : tyA (J 3)) {c x : Nat} : hs (C_above1 J c) x ↔ dir (J 3) c x := by
  unfold C_above1 dir
  rw [da_c hA]
  constructor
  · rintro (q | ⟨i, a, b, e, f⟩)
    · exact absurd q hs_z
    · refine ⟨i - c * 3, by omega, ?_⟩
      rw [show 3 * c + (i - c * 3) = i by omega]
      exact ⟨e, f⟩
  · rintro ⟨k, a, b, e⟩
    right
    refine ⟨3 * c + k, by omega, by omega, b, e⟩
theorem aa2_c {J : Nat → Nat → Int32} (hA : tyA (J 3)) {c r x : Nat} {bef : Int32} : ∀ m k w, k + m ≤ 12 → (hs (C_aa2 c r bef m k J w) x ↔ hs w x ∨ ∃ d, k ≤ d ∧ d < k + m ∧ hs bef d ∧ dir (J 3) d x) := by
  intro m
  induction m with
  | zero => intro k w _; rw [C_aa2]; exact ⟨Or.inl, fun q => q.elim id (fun ⟨i, a, b, _⟩ => by omega)⟩
  | succ m ih =>
    intro k w hk
    rw [C_aa2]
    by_cases z : w_isin bef (nI k)
    · rw [am_ite_t z, ih _ _ (by omega), hs_or, above1_c hA]
      rw [isin_hs (by omega)] at z
      constructor
      · rintro ((q | q) | ⟨i, a, b, e⟩)
        · exact Or.inl q
        · exact Or.inr ⟨k, Nat.le_refl k, by omega, z, q⟩
        · exact Or.inr ⟨i, by omega, by omega, e⟩
      · rintro (q | ⟨i, a, b, e⟩)
        · exact Or.inl (Or.inl q)
        · by_cases y : i = k
          · rw [y] at e; exact Or.inl (Or.inr e.2)
          · exact Or.inr ⟨i, by omega, by omega, e⟩
    · rw [am_ite_f z, ih _ _ (by omega)]
      rw [isin_hs (by omega)] at z
      constructor
      · rintro (q | ⟨i, a, b, e⟩)
        · exact Or.inl q
        · exact Or.inr ⟨i, by omega, by omega, e⟩
      · rintro (q | ⟨i, a, b, e⟩)
        · exact Or.inl q
        · have : ¬ i = k := fun y => z (by rw [← y]; exact e.1)
          exact Or.inr ⟨i, by omega, by omega, e⟩
theorem aa2_r {J : Nat → Nat → Int32} (hA : tyA (J 3)) {c r : Nat} {w : Int32} : rnd (J 3) w (C_aa2 c r w 12 0 J w) := by
  have e : ∀ x, hs (C_aa2 c r w 12 0 J w) x ↔ hs w x ∨ ∃ d, 0 ≤ d ∧ d < 0 + 12 ∧ hs w d ∧ dir (J 3) d x := fun x => aa2_c hA 12 0 w (by omega)
  refine ⟨fun x q => (e x).mpr (Or.inl q), fun d x a b q => (e x).mpr (Or.inr ⟨d, Nat.zero_le d, by omega, b, q⟩), fun P a b x q => ?_⟩
  rcases (e x).mp q with z | ⟨d, _, _, z1, z2⟩
  · exact a x z
  · exact b d x (a d z1) z2
theorem aa_c {J : Nat → Nat → Int32} (hA : tyA (J 3)) {c : Nat} : ∀ m k w, k + m = 12 → hs w c → (∀ x, hs w x → Rea (J 3) c x) → (∀ x, hs w x → x < 12) → (cls (J 3) w ∨ k + 1 ≤ cn_of (hs w) 12) → ∀ x, hs (C_aa c m k J w) x ↔ Rea (J 3) c x := by
  intro m
  induction m with
  | zero => intro k w hk h0 h1 h2 h3; rw [C_aa]; exact rnd_end (by rw [show k = 12 by omega] at h3; exact h3) h0 h1
  | succ m ih =>
    intro k w hk h0 h1 h2 h3
    rw [C_aa]
    have r := aa2_r (J := J) hA (c := c) (r := k) (w := w)
    by_cases z : C_aa2 c k w 12 0 J w = w
    · rw [am_ite_t z, z]
      exact rnd_end (Or.inl (fun d x a b => by have g := r.2.1 d x (h2 d a) a b; rw [z] at g; exact g)) h0 h1
    · rw [am_ite_f z]
      have s := rnd_st hA r h2 h3
      exact ih (k + 1) _ (by omega) (r.1 c h0) (r.2.2 (Rea (J 3) c) h1 (fun x e a b => Rea_s a b)) s.2 s.1
theorem above_c {J : Nat → Nat → Int32} (hA : tyA (J 3)) {c : Nat} (hc : c < 12) : ∀ x, hs (C_above J c) x ↔ Rea (J 3) c x := by
  have b : ∀ x, hs ((nI 1) <<< ((nI c) &&& 31)) x ↔ x = c := fun x => hs_bit (by omega)
  have h0 : hs ((nI 1) <<< ((nI c) &&& 31)) c := (b c).mpr rfl
  exact aa_c hA 12 0 _ (by omega) h0 (fun x q => by rw [(b x).mp q]; exact Rea_r) (fun x q => by rw [(b x).mp q]; exact hc) (Or.inr (cn_pos h0 12 hc))
theorem a3_c {J : Nat → Nat → Int32} (hA : tyA (J 41)) {c r e : Nat} (he : e < 12) : ∀ m k w, k + m ≤ 3 → (∀ x, hs w x → hs (R_a3 c r e m k J w) x) ∧ (hs w e → ∀ i, k ≤ i → i < k + m → ¬ J 41 (3 * e + i) = -1 → hs (R_a3 c r e m k J w) (jn J 41 (3 * e + i))) ∧ ∀ P : Nat → Prop, (∀ x, hs w x → P x) → (∀ x y, P x → dir (J 41) x y → P y) → ∀ x, hs (R_a3 c r e m k J w) x → P x := by
  intro m
  induction m with
  | zero => intro k w _; rw [R_a3]; exact ⟨fun _ q => q, fun _ i a b => by omega, fun P a _ x q => a x q⟩
  | succ m ih =>
    intro k w hk
    rw [R_a3]
    by_cases z : ((w >>> ((nI e) &&& 31)) &&& (nI 1)) = (nI 1)
    · rw [am_ite_t z]
      rw [hs_t1 (by omega)] at z
      by_cases z2 : J 41 ((3 * e) + k) < 0
      · rw [am_ite_t z2]
        obtain ⟨a, b, d⟩ := ih (k + 1) w (by omega)
        rw [tyA_lt hA] at z2
        refine ⟨a, fun q i x y v => ?_, d⟩
        by_cases ei : i = k
        · rw [ei] at v; exact absurd z2 v
        · exact b q i (by omega) (by omega) v
      · rw [am_ite_f z2]
        rw [tyA_lt hA] at z2
        have l32 : jn J 41 ((3 * e) + k) < 32 := by have : jn J 41 ((3 * e) + k) < 12 := tyA_32 hA z2; omega
        obtain ⟨a, b, d⟩ := ih (k + 1) (w ||| ((nI 1) <<< ((nI (jn J 41 ((3 * e) + k))) &&& 31))) (by omega)
        refine ⟨fun x q => a x (hs_or.mpr (Or.inl q)), fun q i x y v => ?_, fun P p1 p2 x q => d P (fun y hy => ?_) p2 x q⟩
        · by_cases ei : i = k
          · rw [ei]; exact a _ (hs_or.mpr (Or.inr ((hs_bit l32).mpr rfl)))
          · exact b (hs_or.mpr (Or.inl q)) i (by omega) (by omega) v
        · rcases hs_or.mp hy with g | g
          · exact p1 y g
          · rw [(hs_bit l32).mp g]
            exact p2 e _ (p1 e z) ⟨k, by omega, z2, rfl⟩
    · rw [am_ite_f z]
      rw [hs_t1 (by omega)] at z
      exact ⟨fun _ q => q, fun q => absurd q z, fun P a _ x q => a x q⟩
theorem a2_c {J : Nat → Nat → Int32} (hA : tyA (J 41)) {c r : Nat} : ∀ m k w, k + m ≤ 12 → (∀ x, hs w x → hs (R_a2 c r m k J w) x) ∧ (∀ d x, k ≤ d → d < k + m → hs w d → dir (J 41) d x → hs (R_a2 c r m k J w) x) ∧ ∀ P : Nat → Prop, (∀ x, hs w x → P x) → (∀ x y, P x → dir (J 41) x y → P y) → ∀ x, hs (R_a2 c r m k J w) x → P x := by
  intro m
  induction m with
  | zero => intro k w _; rw [R_a2]; exact ⟨fun _ q => q, fun d x a b => by omega, fun P a _ x q => a x q⟩
  | succ m ih =>
    intro k w hk
    rw [R_a2]
    obtain ⟨a, b, d⟩ := ih (k + 1) (R_a3 c r k 3 0 J w) (by omega)
    obtain ⟨a', b', d'⟩ := a3_c (J := J) hA (c := c) (r := r) (e := k) (by omega) 3 0 w (by omega)
    refine ⟨fun x q => a x (a' x q), fun e x p1 p2 p3 p4 => ?_, fun P p1 p2 x q => d P (d' P p1 p2) p2 x q⟩
    by_cases ek : e = k
    · rw [ek] at p3 p4
      obtain ⟨i, i1, i2, i3⟩ := p4
      have g := b' p3 i (Nat.zero_le i) (by omega) i2
      rw [show jn J 41 (3 * k + i) = x from i3] at g
      exact a x g
    · exact b e x (by omega) (by omega) (a' e p3) p4
theorem a1_c {J : Nat → Nat → Int32} (hA : tyA (J 41)) {c : Nat} : ∀ m k w, k + m = 12 → hs w c → (∀ x, hs w x → Rea (J 41) c x) → (∀ x, hs w x → x < 12) → (cls (J 41) w ∨ k + 1 ≤ cn_of (hs w) 12) → ∀ x, hs (R_a1 c m k J w) x ↔ Rea (J 41) c x := by
  intro m
  induction m with
  | zero => intro k w hk h0 h1 h2 h3; rw [R_a1]; exact rnd_end (by rw [show k = 12 by omega] at h3; exact h3) h0 h1
  | succ m ih =>
    intro k w hk h0 h1 h2 h3
    rw [R_a1]
    obtain ⟨a, b, d⟩ := a2_c (J := J) hA (c := c) (r := k) 12 0 w (by omega)
    have r : rnd (J 41) w (R_a2 c k 12 0 J w) := ⟨a, fun e x p1 p2 p3 => b e x (Nat.zero_le e) (by omega) p2 p3, d⟩
    have s := rnd_st hA r h2 h3
    exact ih (k + 1) _ (by omega) (r.1 c h0) (r.2.2 (Rea (J 41) c) h1 (fun x e a b => Rea_s a b)) s.2 s.1
theorem a1_all {J : Nat → Nat → Int32} (hA : tyA (J 41)) {c : Nat} (hc : c < 12) : ∀ x, hs (R_a1 c 12 0 J ((nI 1) <<< ((nI c) &&& 31))) x ↔ Rea (J 41) c x := by
  have b : ∀ x, hs ((nI 1) <<< ((nI c) &&& 31)) x ↔ x = c := fun x => hs_bit (by omega)
  have h0 : hs ((nI 1) <<< ((nI c) &&& 31)) c := (b c).mpr rfl
  exact a1_c hA 12 0 _ (by omega) h0 (fun x q => by rw [(b x).mp q]; exact Rea_r) (fun x q => by rw [(b x).mp q]; exact hc) (Or.inr (cn_pos h0 12 hc))
