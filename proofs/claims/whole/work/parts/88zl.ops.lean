/-! Every operation but call and define: both answer alike, and all is kept. -/
theorem am_ite_p {α : Type} {p : Prop} {a b : α} (P : α → Prop) (ha : P a) (hb : P b) : P (am_ite p a b) := by
  by_cases z : p
  · rw [am_ite_t z]; exact ha
  · rw [am_ite_f z]; exact hb
theorem W_he {h : am_H} {J J' : Nat → Nat → Int32} {lab : Nat → Nat} (hW : am_W h J lab) (h74 : ∀ q, 74 ≤ q → J' q = J q) : ∀ k e, k < 720 → am_P h 23 k = some e → J' e = J e ∧ ∀ u, am_P h e 0 = some u → am_P h e 0 = some u ∧ J' u = J u := fun k e hk hp => by
  obtain ⟨a, b, c, u, d1, d2, d3, d4, d5, d6⟩ := hW.1 k hk e hp
  refine ⟨h74 e b, fun v hv => ⟨hv, ?_⟩⟩
  rw [d1] at hv
  have ev : u = v := Option.some.inj hv
  subst ev
  exact h74 u d3
theorem W_cg {h : am_H} {J J' : Nat → Nat → Int32} {lab : Nat → Nat} (hW : am_W h J lab) (h74 : ∀ q, 74 ≤ q → J' q = J q) : am_W h J' lab := am_W_x hW (Nat.le_refl _) (fun q a _ => ⟨h74 q a, fun _ => rfl⟩) (fun _ _ => rfl) (fun _ _ => rfl) (fun k e _ p => Or.inl p) (fun l w _ p => Or.inl p) (fun i f _ p => p)
theorem rl_K_mono {h : am_H} {J L : Nat → Nat → Int32} {cc cc' : Nat} (hk : rl_K h J L cc) (hc : cc ≤ cc') : rl_K h J L cc' := ⟨fun g hg => by obtain ⟨a, x, y⟩ := hk.1 g hg; exact ⟨a, Nat.le_trans x hc, y⟩, hk.2⟩
theorem seg_cg3 {J K : Nat → Nat → Int32} {u kd lo hi : Nat} {rk rk' : Nat → Int32} (h : seg J u rk kd lo hi) (hu : K u = J u) (h18 : ∀ m, 0 ≤ rk m → K 18 m = J 18 m) (hr : ∀ m, rk' m = rk m) : seg K u rk' kd lo hi := by
  have er : rk' = rk := funext hr
  rw [er]
  refine enm_a (enm_P h (fun m => ?_)) (fun i _ _ => jn_cg hu) (fun _ _ q => q)
  have e : 0 ≤ rk m → jn K 18 m = jn J 18 m := fun q => by unfold jn; rw [h18 m q]
  exact ⟨fun ⟨a, b, c⟩ => ⟨a, b, by rw [← e b]; exact c⟩, fun ⟨a, b, c⟩ => ⟨a, b, by rw [e b]; exact c⟩⟩
/-- what is kept, after some generics forgot -/
theorem rl_K_fg {h : am_H} {J L J' L' : Nat → Nat → Int32} {cc : Nat} (S : Nat → Prop) (hk : rl_K h J L cc) (hcc : cc < 2 ^ 30) (he : ∀ k e, k < 720 → am_P h 23 k = some e → J' e = J e ∧ ∀ u, am_P h e 0 = some u → am_P h e 0 = some u ∧ J' u = J u) (hS : ∀ g, g < 5 → S g → J' 24 g = J 24 g + nI 1 ∧ J' 25 g = nI 0 ∧ ∀ i, i < 144 → L' 58 (144 * g + i) = nI 0) (hN : ∀ g, g < 5 → ¬ S g → J' 24 g = J 24 g ∧ J' 25 g = J 25 g ∧ (∀ i, i < 144 → L' 58 (144 * g + i) = L 58 (144 * g + i)) ∧ (∀ m, J' 17 m = nI g ∨ J 17 m = nI g → J' 17 m = J 17 m ∧ J' 18 m = J 18 m ∧ J' 19 m = J 19 m ∧ J' 20 m = J 20 m) ∧ J' 4 = J 4 ∧ J' 5 = J 5) : rl_K h J' L' (cc + 2) := by
  have z58 : ∀ g, g < 5 → S g → ∀ i, i < 144 → jn L' 58 (144 * g + i) = 0 := fun g hg s i hi => by
    show (L' 58 (144 * g + i)).toNatClampNeg = 0
    rw [(hS g hg s).2.2 i hi]; rfl
  have k58 : ∀ g, g < 5 → ¬ S g → ∀ i, i < 144 → jn L' 58 (144 * g + i) = jn L 58 (144 * g + i) := fun g hg s i hi => by
    show (L' 58 (144 * g + i)).toNatClampNeg = (L 58 (144 * g + i)).toNatClampNeg
    rw [(hN g hg s).2.2.1 i hi]
  have old : ∀ g, g < 5 → S g → ∀ k, k < 144 → ∀ e, am_P h 23 (144 * g + k) = some e → ¬ J' e 5 = J' 24 g := fun g hg s k hk2 e hp q => by
    obtain ⟨a, x, y, z⟩ := hk.1 g hg
    obtain ⟨a', x', y'⟩ := z k hk2 e hp
    rw [(he _ e (by omega) hp).1, y', (hS g hg s).1, y, nI_add] at q
    have := (nI_eq (by omega) (by omega)).mp q
    omega
  refine ⟨fun g hg => ?_, fun g hg k hk2 => ?_, fun g hg => ?_, fun g c1 c2 e u a b d p1 p2 p3 => ?_⟩
  · obtain ⟨a, x, y, z⟩ := hk.1 g hg
    by_cases s : S g
    · refine ⟨a + 1, by omega, by rw [(hS g hg s).1, y, nI_add], fun k hk2 e hp => ?_⟩
      obtain ⟨a', x', y'⟩ := z k hk2 e hp
      exact ⟨a', by omega, by rw [(he _ e (by omega) hp).1]; exact y'⟩
    · refine ⟨a, by omega, by rw [(hN g hg s).1]; exact y, fun k hk2 e hp => ?_⟩
      rw [(he _ e (by omega) hp).1]
      exact z k hk2 e hp
  · by_cases s : S g
    · rw [z58 g hg s k hk2]
      exact ⟨fun q => absurd q (by decide), fun ⟨e, x, y⟩ => absurd y (old g hg s k hk2 e x)⟩
    · rw [k58 g hg s k hk2, hk.2.1 g hg k hk2]
      constructor
      · rintro ⟨e, x, y⟩
        exact ⟨e, x, by rw [(he _ e (by omega) x).1, (hN g hg s).1]; exact y⟩
      · rintro ⟨e, x, y⟩
        exact ⟨e, x, by rw [(he _ e (by omega) x).1, (hN g hg s).1] at y; exact y⟩
  · by_cases s : S g
    · rw [(hS g hg s).2.1]
      have g0 : cn_of (fun k => jn L' 58 (144 * g + k) = 1) 144 = cn_of (fun _ => False) 144 := cn_congr 144 (fun k hk2 => by rw [z58 g hg s k hk2]; exact ⟨fun q => absurd q (by decide), fun q => q.elim⟩)
      rw [g0]
      have f0 : ∀ n, cn_of (fun _ => False) n = 0 := fun n => by
        induction n with
        | zero => rfl
        | succ n ih => rw [cn_f (fun q => q)]; exact ih
      rw [f0]
    · rw [(hN g hg s).2.1, hk.2.2.1 g hg]
      exact congrArg nI (cn_congr 144 (fun k hk2 => by rw [k58 g hg s k hk2]))
  · by_cases s : S g
    · exact absurd p2 (old g a s _ (by omega) e p1)
    · have g1 := he _ e (by omega) p1
      obtain ⟨g2, g3⟩ := g1.2 u p3
      obtain ⟨n1, n2, n3, n4, n5, n6⟩ := hN g a s
      rw [g1.1, n1] at p2
      have C := hk.2.2.2 g c1 c2 e u a b d p1 p2 g2
      have ea : ∀ s c, atc J' s c = atc J s c := fun s c => by unfold atc; rw [C_place_cg n5 n6]
      have hr : ∀ m, rkc J' g c1 c2 m = rkc J g c1 c2 m := fun m => by
        unfold rkc
        by_cases z : J' 17 m = nI g ∨ J 17 m = nI g
        · obtain ⟨m1, m2, m3, m4⟩ := n4 m z
          unfold rkm
          have j19 : jn J' 19 m = jn J 19 m := by unfold jn; rw [m3]
          have j20 : jn J' 20 m = jn J 20 m := by unfold jn; rw [m4]
          rw [m1, j19, j20, m4, ea, ea]
        · rw [am_ite_f (fun q => z (Or.inl q)), am_ite_f (fun q => z (Or.inr q))]
      have h18 : ∀ m, 0 ≤ rkc J g c1 c2 m → J' 18 m = J 18 m := fun m q => by
        by_cases z : J 17 m = nI g
        · exact (n4 m (Or.inr z)).2.1
        · unfold rkc at q
          rw [am_ite_f z] at q
          exact absurd q (by decide)
      unfold cont at C ⊢
      rw [jn_cg g1.1, jn_cg g1.1, jn_cg g1.1, jn_cg g1.1]
      exact ⟨seg_cg3 C.1 g3 h18 hr, seg_cg3 C.2.1 g3 h18 hr, seg_cg3 C.2.2.1 g3 h18 hr, seg_cg3 C.2.2.2 g3 h18 hr⟩
/-- the rest, after an operation on classes' slots, instances or bodies -/
theorem Oth_u {h : am_H} {J L J' L' : Nat → Nat → Int32} {lab : Nat → Nat} {nn cc : Nat} (ho : Oth h J L nn cc) (ev : cc % 2 = 0) (hW : am_W h J lab) (r1 : rl_C J' L') (r2 : rl_I J' L') (r3 : rl_B J' L') (r6 : opv L') (hJ : ∀ q, ¬ (q = 6 ∨ q = 7) → ¬ (10 ≤ q ∧ q ≤ 14) → ¬ (28 ≤ q ∧ q ≤ 30) → J' q = J q) (hL : ∀ q, ¬ q = 36 → ¬ (43 ≤ q ∧ q ≤ 48) → ¬ (55 ≤ q ∧ q ≤ 57) → ¬ q = 73 → L' q = L q) (h73 : ∀ j, ¬ j = 7 → L' 73 j = L 73 j) : Oth h J' L' nn (cc + 2) := by
  obtain ⟨⟨_, _, _, r4⟩, r5, _, r7, r8, r9, r10, r11, r12⟩ := ho
  have h74 : ∀ q, 74 ≤ q → J' q = J q := fun q a => hJ q (by omega) (by omega) (by omega)
  refine ⟨⟨r1, r2, r3, rl_M_cg r4 (by rw [hJ 15 (by decide) (by decide) (by decide)]) (fun q a b => hJ q (by omega) (by omega) (by omega)) (fun q a b => hL q (by omega) (by omega) (by omega) (by omega))⟩, rl_N_cg2 r5 (fun q a b => hJ q (by omega) (by omega) (by omega)) (h73 3 (by decide)) (hL 72 (by decide) (by decide) (by decide) (by decide)), r6, r7, rl_K_mono (rl_K_cg r8 (fun _ => rfl) (W_he hW h74) (fun q hq => hJ q (by omega) (by omega) (by omega)) (hL 58 (by decide) (by decide) (by decide) (by decide))) (by omega), by rw [hJ 22 (by decide) (by decide) (by decide), h73 5 (by decide)]; exact r9, by rw [hJ 1 (by decide) (by decide) (by decide), h73 8 (by decide)]; exact r10, ?_, fun q => by omega⟩
  rw [hJ 2 (by decide) (by decide) (by decide), r11]
  exact congrArg nI (cn_congr 12 (fun c _ => by rw [jn_cg (hL 37 (by decide) (by decide) (by decide) (by decide))]))
/-- the rest, after an operation on generics and methods -/
theorem Oth_m {h : am_H} {J L J' L' : Nat → Nat → Int32} {nn cc : Nat} (ho : Oth h J L nn cc) (ev : cc % 2 = 0) (r4 : rl_M J' L') (r8 : rl_K h J' L' (cc + 2)) (hJ : ∀ q, ¬ (15 ≤ q ∧ q ≤ 21) → ¬ q = 24 → ¬ q = 25 → J' q = J q) (hL : ∀ q, ¬ (49 ≤ q ∧ q ≤ 54) → ¬ q = 58 → L' q = L q) : Oth h J' L' nn (cc + 2) := by
  obtain ⟨⟨r1, r2, r3, _⟩, r5, r6, r7, _, r9, r10, r11, r12⟩ := ho
  have hL7 : L' 73 = L 73 := hL 73 (by decide) (by decide)
  refine ⟨⟨rl_C_cg2 r1 (fun q a b => hJ q (by omega) (by omega) (by omega)) (fun q a b => hL q (by omega) (by omega)), rl_I_cg2 r2 (fun q a b => hJ q (by omega) (by omega) (by omega)) (fun q a b => hL q (by omega) (by omega)) (by rw [hL 36 (by decide) (by decide)]) (by rw [hL7]), rl_B_cg2 r3 (fun q a b => hJ q (by omega) (by omega) (by omega)) (fun q a b => hL q (by omega) (by omega)), r4⟩, rl_N_cg2 r5 (fun q a b => hJ q (by omega) (by omega) (by omega)) (by rw [hL7]) (hL 72 (by decide) (by decide)), opv_cg r6 (hL 55 (by decide) (by decide)) (hL 56 (by decide) (by decide)), r7, r8, by rw [hJ 22 (by decide) (by decide) (by decide), hL7]; exact r9, by rw [hJ 1 (by decide) (by decide) (by decide), hL7]; exact r10, ?_, fun q => by omega⟩
  rw [hJ 2 (by decide) (by decide) (by decide), r11]
  exact congrArg nI (cn_congr 12 (fun c _ => by rw [jn_cg (hL 37 (by decide) (by decide))]))
/-- the rest, after define -/
theorem Oth_d {h : am_H} {J L J' L' : Nat → Nat → Int32} {lab : Nat → Nat} {nn cc : Nat} (ho : Oth h J L nn cc) (ev : cc % 2 = 0) (hcc : cc < 2 ^ 30) (hW : am_W h J lab) (D : Dfo J L J' L') : Oth h J' L' nn (cc + 2) := by
  obtain ⟨⟨r1, r2, r3, r4⟩, r5, r6, r7, r8, r9, r10, r11, r12⟩ := ho
  obtain ⟨d1, d2, d3, d4⟩ := D
  rcases d4 with ⟨a, b⟩ | ⟨K1, rfl, a, b, z⟩
  · have hL7 : L' 73 = L 73 := b 73 (by decide) (by decide)
    exact ⟨⟨d1, rl_I_cg2 r2 (fun q x y => a q (by omega) (by omega)) (fun q x y => b q (by omega) (by omega)) (by rw [b 36 (by decide) (by decide)]) (by rw [hL7]), rl_B_cg2 r3 (fun q x y => a q (by omega) (by omega)) (fun q x y => b q (by omega) (by omega)), rl_M_cg r4 (by rw [a 15 (by decide) (by decide)]) (fun q x y => a q (by omega) (by omega)) (fun q x y => b q (by omega) (by omega))⟩, rl_N_cg2 r5 (fun q x y => a q (by omega) (by omega)) (by rw [hL7]) (b 72 (by decide) (by decide)), opv_cg r6 (b 55 (by decide) (by decide)) (b 56 (by decide) (by decide)), r7, rl_K_mono (rl_K_cg r8 (fun _ => rfl) (W_he hW (fun q x => a q (by omega) (by omega))) (fun q hq => a q (by omega) (by omega)) (b 58 (by decide) (by decide))) (by omega), by rw [a 22 (by decide) (by decide), hL7]; exact r9, by rw [a 1 (by decide) (by decide), hL7]; exact r10, d3 r11, fun q => by omega⟩
  · have fk : ∀ q, ¬ q = 24 → ¬ q = 25 → K_forgetAll K1 q = K1 q := fun q x y => fr_K_forgetAll q ⟨x, y⟩
    have f : ∀ q, ¬ q = 2 → ¬ q = 3 → ¬ q = 4 → ¬ q = 5 → ¬ q = 8 → ¬ q = 9 → ¬ q = 24 → ¬ q = 25 → K_forgetAll K1 q = J q := fun q x1 x2 x3 x4 x5 x6 x7 x8 => by rw [fk q x7 x8, a q x1 x2 x3 x4 x5 x6]
    have e24 : K1 24 = J 24 := a 24 (by decide) (by decide) (by decide) (by decide) (by decide) (by decide)
    have g24 : ∀ g, g < 5 → K_forgetAll K1 24 g = J 24 g + nI 1 ∧ K_forgetAll K1 25 g = nI 0 := fun g hg => by
      have g0 : g = 0 ∨ g = 1 ∨ g = 2 ∨ g = 3 ∨ g = 4 := by omega
      unfold K_forgetAll
      rw [K_fa, K_fa, K_fa, K_fa, K_fa, K_fa, ← e24]
      rcases g0 with rfl | rfl | rfl | rfl | rfl <;> exact ⟨rfl, rfl⟩
    have hL7 : L' 73 = L 73 := b 73 (by omega) (by decide)
    exact ⟨⟨d1, rl_I_cg2 r2 (fun q x y => f q (by omega) (by omega) (by omega) (by omega) (by omega) (by omega) (by omega) (by omega)) (fun q x y => b q (by omega) (by omega)) (by rw [b 36 (by omega) (by decide)]) (by rw [hL7]), rl_B_cg2 r3 (fun q x y => f q (by omega) (by omega) (by omega) (by omega) (by omega) (by omega) (by omega) (by omega)) (fun q x y => b q (by omega) (by omega)), rl_M_cg r4 (by rw [f 15 (by decide) (by decide) (by decide) (by decide) (by decide) (by decide) (by decide) (by decide)]) (fun q x y => f q (by omega) (by omega) (by omega) (by omega) (by omega) (by omega) (by omega) (by omega)) (fun q x y => b q (by omega) (by omega))⟩, rl_N_cg2 r5 (fun q x y => f q (by omega) (by omega) (by omega) (by omega) (by omega) (by omega) (by omega) (by omega)) (by rw [hL7]) (b 72 (by omega) (by decide)), opv_cg r6 (b 55 (by omega) (by decide)) (b 56 (by omega) (by decide)), r7, rl_K_fg (fun _ => True) r8 hcc (W_he hW (fun q x => f q (by omega) (by omega) (by omega) (by omega) (by omega) (by omega) (by omega) (by omega))) (fun g hg _ => ⟨(g24 g hg).1, (g24 g hg).2, z g hg⟩) (fun g hg n => absurd True.intro n), by rw [f 22 (by decide) (by decide) (by decide) (by decide) (by decide) (by decide) (by decide) (by decide), hL7]; exact r9, by rw [f 1 (by decide) (by decide) (by decide) (by decide) (by decide) (by decide) (by decide) (by decide), hL7]; exact r10, d3 r11, fun q => by omega⟩
