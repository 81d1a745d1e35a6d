/-! Ranks here, suits and distances there. -/
theorem C_pl_v {J : Nat → Nat → Int32} {c : Nat} {x : Int32} : ∀ m k, C_pl c x m k J = -1 ∨ ∃ p, k ≤ p ∧ p < k + m ∧ C_pl c x m k J = nI p ∧ nI (jn J 4 ((c * 12) + p)) = x := by
  intro m
  induction m with
  | zero => intro k; exact Or.inl rfl
  | succ m ih =>
    intro k
    rw [C_pl]
    by_cases z : nI (jn J 4 ((c * 12) + k)) = x
    · rw [am_ite_t z]; exact Or.inr ⟨k, Nat.le_refl k, by omega, rfl, z⟩
    · rw [am_ite_f z]
      rcases ih (k + 1) with q | ⟨p, a, b, d, e⟩
      · exact Or.inl q
      · exact Or.inr ⟨p, by omega, by omega, d, e⟩
theorem C_place_v {J : Nat → Nat → Int32} (hT : am_ty2 J) {c : Nat} {x : Int32} : C_place J c x = -1 ∨ ∃ p, p < 12 ∧ C_place J c x = nI p ∧ nI (jn J 4 ((c * 12) + p)) = x := by
  have b := ty_n hT (q := 5) (B := 13) (by decide) (by decide) c
  rcases C_pl_v (J := J) (c := c) (x := x) (jn J 5 c) 0 with q | ⟨p, a, d, e, f⟩
  · exact Or.inl q
  · exact Or.inr ⟨p, by omega, e, f⟩
/-- a specializer: its rank -/
def spc (s : Nat) : Prop := s < 28 ∧ (s < 12 ∨ 16 ≤ s)
theorem at_v {K L : Nat → Nat → Int32} (hK : am_ty2 K) (hC : rl_C K L) (hI : rl_I K L) {s i : Nat} (hs : spc s) (hi : i < 12) : (K_at K s i = -1 ∧ ¬ R_suits L s i) ∨ ∃ a, a ≤ 12 ∧ K_at K s i = nI a ∧ R_suits L s i ∧ R_dist L s i = nI a ∧ (a = 0 → s = 16 + i) ∧ (0 < a → s < 12 ∧ nI (jn K 4 ((jn K 11 i * 12) + (a - 1))) = nI s) := by
  have e45 : jn L 45 i = jn K 11 i := (jn_e hI.1)
  have s28 := hs.1
  unfold K_at R_suits R_dist
  by_cases z : s < 12
  · rw [am_ite_t (show s < 16 by omega), am_ite_f (show ¬ 12 ≤ s by omega), am_ite_f (show ¬ 12 ≤ s by omega), e45]
    unfold R_sub
    rw [← rl_place hC]
    rcases C_place_v hK (c := jn K 11 i) (x := nI s) with q | ⟨p, hp, q, r⟩
    · rw [q, am_ite_f (by decide)]
      refine Or.inl ⟨rfl, fun y => ?_⟩
      rw [am_ite_t (show (-1 : Int32) < 0 by decide)] at y
      exact y
    · rw [q, am_ite_t (nI_pos' (by omega))]
      refine Or.inr ⟨p + 1, by omega, by rw [nI_add], ?_, by rw [nI_add, Nat.add_comm], fun y => absurd y (Nat.succ_ne_zero p), fun _ => ⟨z, by rw [Nat.add_sub_cancel]; exact r⟩⟩
      rw [am_ite_f (nI_pos (show p < 2 ^ 31 by omega))]
      trivial
  · have z2 : 16 ≤ s := by have := hs.2; omega
    rw [am_ite_f (show ¬ s < 16 by omega), am_ite_t (show 12 ≤ s by omega), am_ite_t (show 12 ≤ s by omega), pk_sub z2]
    by_cases y : nI (s - 16) = nI i
    · rw [am_ite_t y, am_ite_t y]
      have e := (nI_eq (show s - 16 < 2 ^ 31 by omega) (show i < 2 ^ 31 by omega)).mp y
      exact Or.inr ⟨0, by decide, rfl, True.intro, rfl, fun _ => by omega, fun q => absurd q (Nat.lt_irrefl 0)⟩
    · rw [am_ite_f y, am_ite_f y]
      exact Or.inl ⟨rfl, fun q => q⟩
/-- different specializers have different ranks -/
theorem at_inj {K : Nat → Nat → Int32} {s s' i a : Nat} (hs : s < 28) (hs' : s' < 28) (h0 : a = 0 → s = 16 + i) (h1 : 0 < a → s < 12 ∧ nI (jn K 4 ((jn K 11 i * 12) + (a - 1))) = nI s) (h0' : a = 0 → s' = 16 + i) (h1' : 0 < a → s' < 12 ∧ nI (jn K 4 ((jn K 11 i * 12) + (a - 1))) = nI s') : s = s' := by
  rcases Nat.eq_zero_or_pos a with z | z
  · rw [h0 z, h0' z]
  · exact (nI_eq (by omega) (by omega)).mp ((h1 z).2.symm.trans (h1' z).2)
/-- a method of the generic: its rank as a nat, where it is applicable -/
theorem rk_v {K L : Nat → Nat → Int32} (hK : am_ty2 K) (hL : am_ty2 L) (hC : rl_C K L) (hI : rl_I K L) (hM : rl_M K L) {g m x y : Nat} {yi : Int32} (hg : g < 5) (hm : m < 16) (hx : x < 12) (hy : y < 12) (ho : K 17 m = nI g) (hyi : jn K 16 g = 2 → yi = nI y) : (K_rank K m x yi = -1 ∧ ¬ (R_suits L (jn L 52 m) x ∧ (jn L 49 g = 2 → R_suits L (jn L 53 m) y))) ∨ ∃ a b, a ≤ 12 ∧ b ≤ 12 ∧ (R_suits L (jn L 52 m) x ∧ (jn L 49 g = 2 → R_suits L (jn L 53 m) y)) ∧ R_dist L (jn L 52 m) x = nI a ∧ (a = 0 → jn L 52 m = 16 + x) ∧ (0 < a → jn L 52 m < 12 ∧ nI (jn K 4 ((jn K 11 x * 12) + (a - 1))) = nI (jn L 52 m)) ∧ ((jn L 49 g = 2 ∧ K_rank K m x yi = nI (a * 13 + b) ∧ R_dist L (jn L 53 m) y = nI b ∧ (b = 0 → jn L 53 m = 16 + y) ∧ (0 < b → jn L 53 m < 12 ∧ nI (jn K 4 ((jn K 11 y * 12) + (b - 1))) = nI (jn L 53 m))) ∨ (¬ jn L 49 g = 2 ∧ K_rank K m x yi = nI a)) := by
  obtain ⟨⟨h16, h17, h18, h19, h21⟩, hm2, hu, hc⟩ := hM
  have q := hm2 m hm g hg ho
  have e19 : jn L 52 m = jn K 19 m := jn_e h19
  have e16 : jn L 49 g = jn K 16 g := jn_e h16
  have b19 := ty_n hK (q := 19) (B := 28) (by decide) (by decide) m
  have b53 := ty_n hL (q := 53) (B := 28) (by decide) (by decide) m
  rw [e19, e16]
  unfold K_rank
  rcases at_v hK hC hI (s := jn K 19 m) (i := x) ⟨b19.2, q.2.1⟩ hx with ⟨a1, a2⟩ | ⟨a, ha, a1, a2, a3, a4, a5⟩
  · rw [a1, am_ite_t (by decide)]
    exact Or.inl ⟨rfl, fun z => a2 z.1⟩
  · rw [a1, am_ite_f (nI_pos (by omega)), show M_second K m = K 20 m from rfl]
    by_cases p2 : jn K 16 g = 2
    · obtain ⟨q1, q2⟩ := q.2.2.1 p2
      have n20 : ¬ K 20 m = -1 := by rw [q1, b53.1]; exact nI_n1 (by omega)
      have e20 : jn K 20 m = jn L 53 m := by unfold jn; rw [q1]
      rw [am_ite_f n20, e20, hyi p2, jx_nI (by omega)]
      rcases at_v hK hC hI (s := jn L 53 m) (i := y) ⟨b53.2, q2⟩ hy with ⟨b1, b2⟩ | ⟨b, hb, b1, b2, b3, b4, b5⟩
      · rw [b1, am_ite_f (by decide)]
        exact Or.inl ⟨rfl, fun z => b2 (z.2 p2)⟩
      · rw [b1, am_ite_t (nI_pos' (by omega)), pk_mul, nI_add]
        exact Or.inr ⟨a, b, ha, hb, ⟨a2, fun _ => b2⟩, a3, a4, a5, Or.inl ⟨p2, rfl, b3, b4, b5⟩⟩
    · obtain ⟨q1, q2⟩ := q.2.2.2 p2
      rw [am_ite_t q1]
      exact Or.inr ⟨a, 0, ha, by decide, ⟨a2, fun z => absurd z p2⟩, a3, a4, a5, Or.inr ⟨p2, rfl⟩⟩
/-- two applicable methods: before one another, as the ranks say -/
theorem rk_lt {K L : Nat → Nat → Int32} (hK : am_ty2 K) (hL : am_ty2 L) (hC : rl_C K L) (hI : rl_I K L) (hM : rl_M K L) {g m v x y : Nat} {yi : Int32} (hg : g < 5) (hm : m < 16) (hv : v < 16) (hx : x < 12) (hy : y < 12) (ho : K 17 m = nI g) (ho' : K 17 v = nI g) (hyi : jn K 16 g = 2 → yi = nI y) (hn : ¬ m = v) (hkd : jn K 18 m = jn K 18 v) (r1 : ¬ K_rank K m x yi = -1) (r2 : ¬ K_rank K v x yi = -1) : ∃ a b, a < 2 ^ 31 ∧ b < 2 ^ 31 ∧ K_rank K m x yi = nI a ∧ K_rank K v x yi = nI b ∧ ¬ a = b ∧ (R_bef L m v x y ↔ a < b) := by
  have l50 : L 50 m = nI g := by rw [← hM.1.2.1]; exact ho
  have e50 : jn L 50 m = g := by unfold jn; rw [l50]; exact nI_clamp (by omega)
  have b52 := ty_n hL (q := 52) (B := 28) (by decide) (by decide) m
  have b52' := ty_n hL (q := 52) (B := 28) (by decide) (by decide) v
  have b53 := ty_n hL (q := 53) (B := 28) (by decide) (by decide) m
  have b53' := ty_n hL (q := 53) (B := 28) (by decide) (by decide) v
  -- equal specializers: the same method
  have same : jn L 52 m = jn L 52 v → (jn L 49 g = 2 → jn L 53 m = jn L 53 v) → False := fun z1 z2 => by
    refine hn (hM.2.2.1 m v hm hv (by rw [ho]; exact nI_n1 (by omega)) (by rw [ho, ho']) ?_ ?_ ?_)
    · rw [(ty_n hK (q := 18) (B := 4) (by decide) (by decide) m).1, (ty_n hK (q := 18) (B := 4) (by decide) (by decide) v).1, hkd]
    · rw [hM.1.2.2.2.1, b52.1, b52'.1, z1]
    · have qm := hM.2.1 m hm g hg ho
      have qv := hM.2.1 v hv g hg ho'
      by_cases p2 : jn K 16 g = 2
      · rw [(qm.2.2.1 p2).1, (qv.2.2.1 p2).1, b53.1, b53'.1, z2 (by rw [jn_e hM.1.1]; exact p2)]
      · rw [(qm.2.2.2 p2).1, (qv.2.2.2 p2).1]
  rcases rk_v hK hL hC hI hM hg hm hx hy ho hyi with ⟨z, _⟩ | ⟨a, b, ha, hb, _, d1, i1, i2, hr⟩
  · exact absurd z r1
  rcases rk_v hK hL hC hI hM hg hv hx hy ho' hyi with ⟨z, _⟩ | ⟨a', b', ha', hb', _, d1', i1', i2', hr'⟩
  · exact absurd z r2
  unfold R_bef
  rw [e50, d1, d1']
  have le_iff : ∀ {p q : Nat}, p ≤ 200 → q ≤ 200 → (nI p ≤ nI q ↔ p ≤ q) := fun hp hq => nI_leI (by omega) (by omega)
  by_cases es : jn L 52 m = jn L 52 v
  · rw [am_ite_t es]
    have eaa : a = a' := by
      have := d1.symm.trans ((congrArg (fun s => R_dist L s x) es).trans d1')
      exact (nI_eq (by omega) (by omega)).mp this
    rcases hr with ⟨p2, k1, e1, j1, j2⟩ | ⟨p2, k1⟩
    · rcases hr' with ⟨_, k1', e1', j1', j2'⟩ | ⟨p2', _⟩
      · rw [am_ite_t p2, e1, e1']
        have nb : ¬ b = b' := fun z => by
          subst z
          exact same es (fun _ => at_inj b53.2 b53'.2 j1 j2 j1' j2')
        refine ⟨a * 13 + b, a' * 13 + b', by omega, by omega, k1, k1', by omega, ?_⟩
        by_cases z : nI b' ≤ nI b
        · rw [am_ite_t z]
          have := (le_iff (by omega) (by omega)).mp z
          exact ⟨fun q => q.elim, fun q => by omega⟩
        · rw [am_ite_f z]
          have : ¬ b' ≤ b := fun q => z ((le_iff (by omega) (by omega)).mpr q)
          exact ⟨fun _ => by omega, fun _ => True.intro⟩
      · exact absurd p2 p2'
    · exact absurd (fun z => absurd z p2) (fun q => same es q)
  · rw [am_ite_f es]
    have na : ¬ a = a' := fun z => by
      subst z
      exact es (at_inj b52.2 b52'.2 i1 i2 i1' i2')
    have key : ∀ {p q : Nat}, (p < q ↔ a < a') → ((am_ite (nI a' ≤ nI a) False True) ↔ p < q) := fun hpq => by
      by_cases z : nI a' ≤ nI a
      · rw [am_ite_t z]
        have := (le_iff (by omega) (by omega)).mp z
        exact ⟨fun q => q.elim, fun q => by have := hpq.mp q; omega⟩
      · rw [am_ite_f z]
        have : ¬ a' ≤ a := fun q => z ((le_iff (by omega) (by omega)).mpr q)
        exact ⟨fun _ => hpq.mpr (by omega), fun _ => True.intro⟩
    rcases hr with ⟨p2, k1, _⟩ | ⟨p2, k1⟩
    · rcases hr' with ⟨_, k1', _⟩ | ⟨p2', _⟩
      · exact ⟨a * 13 + b, a' * 13 + b', by omega, by omega, k1, k1', by omega, key (by omega)⟩
      · exact absurd p2 p2'
    · rcases hr' with ⟨p2', _⟩ | ⟨_, k1'⟩
      · exact absurd p2' p2
      · exact ⟨a, a', by omega, by omega, k1, k1', na, key Iff.rfl⟩
