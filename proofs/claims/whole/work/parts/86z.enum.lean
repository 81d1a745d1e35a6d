/-! Sorted enumerations: inserting, and that there is only one. -/
def enm (a : Nat → Nat) (lo hi : Nat) (P : Nat → Prop) (lt : Nat → Nat → Prop) : Prop := lo ≤ hi ∧ (∀ i, lo ≤ i → i < hi → P (a i)) ∧ (∀ m, P m → ∃ i, lo ≤ i ∧ i < hi ∧ a i = m) ∧ ∀ i j, lo ≤ i → i < j → j < hi → lt (a i) (a j)
theorem enm_ins {a a' : Nat → Nat} {lo hi p w : Nat} {P P' : Nat → Prop} {lt : Nat → Nat → Prop} (h : enm a lo hi P lt) (hp : lo ≤ p) (hp2 : p ≤ hi) (h1 : ∀ i, lo ≤ i → i < p → lt (a i) w) (h2 : ∀ i, p ≤ i → i < hi → lt w (a i)) (e1 : ∀ i, lo ≤ i → i < p → a' i = a i) (e2 : a' p = w) (e3 : ∀ i, p < i → i ≤ hi → a' i = a (i - 1)) (hP : ∀ m, P' m ↔ P m ∨ m = w) : enm a' lo (hi + 1) P' lt := by
  obtain ⟨k1, k2, k3, k4⟩ := h
  refine ⟨by omega, fun i x y => ?_, fun m hm => ?_, fun i j x y z => ?_⟩
  · rw [hP]
    by_cases z : i < p
    · rw [e1 i x z]; exact Or.inl (k2 i x (by omega))
    · by_cases z2 : i = p
      · rw [z2, e2]; exact Or.inr rfl
      · rw [e3 i (by omega) (by omega)]; exact Or.inl (k2 (i - 1) (by omega) (by omega))
  · rcases (hP m).mp hm with q | q
    · obtain ⟨i, x, y, z⟩ := k3 m q
      by_cases zz : i < p
      · exact ⟨i, x, by omega, by rw [e1 i x zz]; exact z⟩
      · exact ⟨i + 1, by omega, by omega, by rw [e3 (i + 1) (by omega) (by omega), Nat.add_sub_cancel]; exact z⟩
    · exact ⟨p, hp, by omega, by rw [e2, q]⟩
  · by_cases z1 : i < p
    · rw [e1 i x z1]
      by_cases z2 : j < p
      · rw [e1 j (by omega) z2]; exact k4 i j x y (by omega)
      · by_cases z3 : j = p
        · rw [z3, e2]; exact h1 i x z1
        · rw [e3 j (by omega) (by omega)]; exact k4 i (j - 1) x (by omega) (by omega)
    · by_cases z3 : i = p
      · rw [z3, e2, e3 j (by omega) (by omega)]; exact h2 (j - 1) (by omega) (by omega)
      · rw [e3 i (by omega) (by omega), e3 j (by omega) (by omega)]; exact k4 (i - 1) (j - 1) (by omega) (by omega) (by omega)
theorem enm_eq {a b : Nat → Nat} {lo hi lo' hi' : Nat} {P : Nat → Prop} {lt : Nat → Nat → Prop} (h : enm a lo hi P lt) (h' : enm b lo' hi' P lt) (hs : ∀ m m', P m → P m' → lt m m' → ¬ lt m' m) : ∀ k, k ≤ hi - lo → k ≤ hi' - lo' → ∀ i, i < k → a (lo + i) = b (lo' + i) := by
  obtain ⟨k1, k2, k3, k4⟩ := h
  obtain ⟨l1, l2, l3, l4⟩ := h'
  intro k
  induction k with
  | zero => intro _ _ i hi; omega
  | succ k ih =>
    intro x y i hi
    have ih := ih (by omega) (by omega)
    by_cases z : i < k
    · exact ih i z
    · have ei : i = k := by omega
      subst ei
      have pa := k2 (lo + i) (by omega) (by omega)
      have pb := l2 (lo' + i) (by omega) (by omega)
      have ira : ∀ m, P m → ¬ lt m m := fun m hm q => hs m m hm hm q q
      obtain ⟨j, j1, j2, j3⟩ := l3 _ pa
      obtain ⟨q, q1, q2, q3⟩ := k3 _ pb
      obtain ⟨j', rfl⟩ : ∃ j', j = lo' + j' := ⟨j - lo', by omega⟩
      obtain ⟨q', rfl⟩ : ∃ q', q = lo + q' := ⟨q - lo, by omega⟩
      rcases Nat.lt_trichotomy j' i with w | w | w
      · have := k4 (lo + j') (lo + i) (by omega) (by omega) (by omega)
        rw [ih j' w, j3] at this
        exact absurd this (ira _ pa)
      · rw [w] at j3; exact j3.symm
      · rcases Nat.lt_trichotomy q' i with v | v | v
        · have := l4 (lo' + q') (lo' + i) (by omega) (by omega) (by omega)
          rw [← ih q' v, q3] at this
          exact absurd this (ira _ pb)
        · rw [v] at q3; exact q3
        · have g1 := l4 (lo' + i) (lo' + j') (by omega) (by omega) j2
          have g2 := k4 (lo + i) (lo + q') (by omega) (by omega) q2
          rw [j3] at g1
          rw [q3] at g2
          exact absurd g1 (hs _ _ pa pb g2)
theorem enm_len {a b : Nat → Nat} {lo hi lo' hi' : Nat} {P : Nat → Prop} {lt : Nat → Nat → Prop} (h : enm a lo hi P lt) (h' : enm b lo' hi' P lt) (hs : ∀ m m', P m → P m' → lt m m' → ¬ lt m' m) : hi' - lo' ≤ hi - lo := by
  rcases Nat.lt_or_ge (hi - lo) (hi' - lo') with z | z
  · have e := enm_eq h h' hs (hi - lo) (Nat.le_refl _) (by omega)
    obtain ⟨k1, k2, k3, k4⟩ := h
    obtain ⟨l1, l2, l3, l4⟩ := h'
    have pb := l2 (lo' + (hi - lo)) (by omega) (by omega)
    obtain ⟨q, q1, q2, q3⟩ := k3 _ pb
    obtain ⟨q', rfl⟩ : ∃ q', q = lo + q' := ⟨q - lo, by omega⟩
    have g := l4 (lo' + q') (lo' + (hi - lo)) (by omega) (by omega) (by omega)
    rw [← e q' (by omega), q3] at g
    exact absurd g (fun y => hs _ _ pb pb y y)
  · exact z
/-- two enumerations of one set are alike -/
theorem enm_uni {a b : Nat → Nat} {lo hi lo' hi' : Nat} {P : Nat → Prop} {lt : Nat → Nat → Prop} (h : enm a lo hi P lt) (h' : enm b lo' hi' P lt) (hs : ∀ m m', P m → P m' → lt m m' → ¬ lt m' m) : hi - lo = hi' - lo' ∧ ∀ i, i < hi - lo → a (lo + i) = b (lo' + i) := by
  have l1 := enm_len h h' hs
  have l2 := enm_len h' h hs
  have e : hi - lo = hi' - lo' := by omega
  exact ⟨e, enm_eq h h' hs (hi - lo) (Nat.le_refl _) (by omega)⟩
/-- backwards -/
theorem enm_rev {a : Nat → Nat} {lo hi : Nat} {P : Nat → Prop} {lt : Nat → Nat → Prop} (h : enm a lo hi P lt) : enm (fun i => a (lo + hi - 1 - i)) lo hi P (fun m m' => lt m' m) := by
  obtain ⟨k1, k2, k3, k4⟩ := h
  refine ⟨k1, fun i x y => k2 _ (by omega) (by omega), fun m hm => ?_, fun i j x y z => k4 _ _ (by omega) (by omega) (by omega)⟩
  obtain ⟨i, x, y, z⟩ := k3 m hm
  exact ⟨lo + hi - 1 - i, by omega, by omega, by show a (lo + hi - 1 - (lo + hi - 1 - i)) = m; rw [show lo + hi - 1 - (lo + hi - 1 - i) = i by omega]; exact z⟩
theorem enm_0 {a : Nat → Nat} {lo : Nat} {P : Nat → Prop} {lt : Nat → Nat → Prop} (hP : ∀ m, ¬ P m) : enm a lo lo P lt := ⟨Nat.le_refl _, fun i x y => by omega, fun m hm => absurd hm (hP m), fun i j x y z => by omega⟩
theorem enm_P {a : Nat → Nat} {lo hi : Nat} {P P' : Nat → Prop} {lt : Nat → Nat → Prop} (h : enm a lo hi P lt) (hP : ∀ m, P' m ↔ P m) : enm a lo hi P' lt := ⟨h.1, fun i x y => (hP _).mpr (h.2.1 i x y), fun m hm => h.2.2.1 m ((hP m).mp hm), h.2.2.2⟩
theorem enm_a {a a' : Nat → Nat} {lo hi : Nat} {P : Nat → Prop} {lt lt' : Nat → Nat → Prop} (h : enm a lo hi P lt) (ha : ∀ i, lo ≤ i → i < hi → a' i = a i) (hl : ∀ m m', lt m m' → lt' m m') : enm a' lo hi P lt' := ⟨h.1, fun i x y => by rw [ha i x y]; exact h.2.1 i x y, fun m hm => by obtain ⟨i, x, y, z⟩ := h.2.2.1 m hm; exact ⟨i, x, y, by rw [ha i x y]; exact z⟩, fun i j x y z => by rw [ha i x (by omega), ha j (by omega) z]; exact hl _ _ (h.2.2.2 i j x y z)⟩
theorem i_trich {x y : Int32} (h : ¬ x = y) : x < y ∨ y < x := by
  rw [Int32.lt_iff_toInt_lt, Int32.lt_iff_toInt_lt]
  have : ¬ x.toInt = y.toInt := fun q => h (Int32.toInt_inj.mp q)
  omega
theorem i_lele {x y : Int32} (h : ¬ x ≤ y) : y < x := by
  rw [Int32.le_iff_toInt_le] at h
  rw [Int32.lt_iff_toInt_lt]
  omega
theorem i_lene {x y : Int32} (h : x ≤ y) (hn : ¬ x = y) : x < y := by
  rw [Int32.le_iff_toInt_le] at h
  rw [Int32.lt_iff_toInt_lt]
  have : ¬ x.toInt = y.toInt := fun q => hn (Int32.toInt_inj.mp q)
  omega
theorem i_tr {x y z : Int32} (h1 : x < y) (h2 : y < z) : x < z := by
  rw [Int32.lt_iff_toInt_lt] at *
  omega
theorem i_as {x y : Int32} (h1 : x < y) : ¬ y < x := fun h2 => by
  rw [Int32.lt_iff_toInt_lt] at *
  omega
/-- the order of a kind: afters go backwards -/
def ltk (rk : Nat → Int32) (kd : Nat) (m m' : Nat) : Prop := (kd = 2 → rk m' < rk m) ∧ (¬ kd = 2 → rk m < rk m')
theorem ltk_as {rk : Nat → Int32} {kd m m' : Nat} (h : ltk rk kd m m') : ¬ ltk rk kd m' m := fun h2 => by
  by_cases z : kd = 2
  · exact i_as (h.1 z) (h2.1 z)
  · exact i_as (h.2 z) (h2.2 z)
theorem ltk_tr {rk : Nat → Int32} {kd m m' m2 : Nat} (h : ltk rk kd m m') (h2 : ltk rk kd m' m2) : ltk rk kd m m2 := ⟨fun z => i_tr (h2.1 z) (h.1 z), fun z => i_tr (h.2 z) (h2.2 z)⟩
/-- where placeFor stops -/
theorem K_pf_c {J : Nat → Nat → Int32} {e u w s0 kd : Nat} : ∀ m k, k + m = jn J e 1 → ∃ p, k ≤ p ∧ p ≤ jn J e 1 ∧ K_pf e u w s0 (if kd = 2 then 1 else 0) m k J = nI p ∧ (∀ i, k ≤ i → i < p → (kd = 2 → J 26 w ≤ J 26 (jn J u i)) ∧ (¬ kd = 2 → ¬ J 26 w ≤ J 26 (jn J u i))) ∧ (p < jn J e 1 → (kd = 2 → ¬ J 26 w ≤ J 26 (jn J u p)) ∧ (¬ kd = 2 → J 26 w ≤ J 26 (jn J u p))) := by
  intro m
  induction m with
  | zero => intro k hk; rw [K_pf]; exact ⟨k, Nat.le_refl k, by omega, rfl, fun i a b => by omega, fun q => by omega⟩
  | succ m ih =>
    intro k hk
    obtain ⟨p, a, b, c, d, f⟩ := ih (k + 1) (by omega)
    rw [K_pf]
    by_cases z1 : J 26 w ≤ J 26 (jn J u k)
    · rw [am_ite_t z1]
      by_cases z2 : kd = 2
      · rw [if_pos z2] at c ⊢
        rw [am_ite_f (by decide)]
        refine ⟨p, by omega, b, c, fun i x y => ?_, f⟩
        by_cases q : i = k
        · rw [q]; exact ⟨fun _ => z1, fun y => absurd z2 y⟩
        · exact d i (by omega) y
      · rw [if_neg z2, am_ite_t rfl]
        exact ⟨k, Nat.le_refl k, by omega, rfl, fun i x y => by omega, fun _ => ⟨fun y => absurd y z2, fun _ => z1⟩⟩
    · rw [am_ite_f z1]
      by_cases z2 : kd = 2
      · rw [if_pos z2, am_ite_t rfl]
        exact ⟨k, Nat.le_refl k, by omega, rfl, fun i x y => by omega, fun _ => ⟨fun _ => z1, fun y => absurd z2 y⟩⟩
      · rw [if_neg z2] at c ⊢
        rw [am_ite_f (by decide)]
        refine ⟨p, by omega, b, c, fun i x y => ?_, f⟩
        by_cases q : i = k
        · rw [q]; exact ⟨fun y => absurd y z2, fun _ => z1⟩
        · exact d i (by omega) y
