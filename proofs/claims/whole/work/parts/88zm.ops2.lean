/-! Every operation but call: answers alike, all kept. -/
def FgC (J J' : Nat → Nat → Int32) (g : Nat) : Prop := J' 24 g = J 24 g + nI 1 ∧ J' 25 g = nI 0 ∧ (∀ g', ¬ g' = g → J' 24 g' = J 24 g' ∧ J' 25 g' = J 25 g') ∧ ∀ g', g' < 5 → ¬ g' = g → ∀ m, J' 17 m = nI g' ∨ J 17 m = nI g' → J' 17 m = J 17 m ∧ J' 18 m = J 18 m ∧ J' 19 m = J 19 m ∧ J' 20 m = J 20 m
def FgR (L L' : Nat → Nat → Int32) (g : Nat) : Prop := (∀ i, i < 144 → L' 58 (144 * g + i) = nI 0) ∧ ∀ g', ¬ g' = g → ∀ i, i < 144 → L' 58 (144 * g' + i) = L 58 (144 * g' + i)
theorem FgC_f {J J1 : Nat → Nat → Int32} {g : Nat} (e24 : J1 24 = J 24) (e25 : J1 25 = J 25) (hm : ∀ g', g' < 5 → ¬ g' = g → ∀ m, J1 17 m = nI g' ∨ J 17 m = nI g' → J1 17 m = J 17 m ∧ J1 18 m = J 18 m ∧ J1 19 m = J 19 m ∧ J1 20 m = J 20 m) : FgC J (K_forget J1 g) g := by
  have f : ∀ q, ¬ q = 24 → ¬ q = 25 → K_forget J1 g q = J1 q := fun q a b => fr_K_forget q ⟨a, b⟩
  refine ⟨?_, ?_, fun g' n => ⟨?_, ?_⟩, fun g' h5 n m hq => ?_⟩
  · unfold K_forget; rw [fr_u (by decide), am_u2_s, e24]
  · unfold K_forget; rw [am_u2_s]
  · unfold K_forget; rw [fr_u (by decide), u2_ne n, e24]
  · unfold K_forget; rw [u2_ne n, fr_u (by decide), e25]
  · rw [f 17 (by decide) (by decide)] at hq ⊢
    rw [f 18 (by decide) (by decide), f 19 (by decide) (by decide), f 20 (by decide) (by decide)]
    exact hm g' h5 n m hq
theorem FgR_f {L L1 : Nat → Nat → Int32} {g : Nat} (e : L1 58 = L 58) : FgR L (R_forget L1 g) g := ⟨fun i hi => R_fg_0 hi, fun g' n i hi => by rw [R_fg_n (fun i' _ q => by omega), e]⟩
theorem rl_K_1 {h : am_H} {J L J' L' : Nat → Nat → Int32} {lab : Nat → Nat} {cc g : Nat} (hk : rl_K h J L cc) (hcc : cc < 2 ^ 30) (hW : am_W h J lab) (h74 : ∀ q, 74 ≤ q → J' q = J q) (e4 : J' 4 = J 4) (e5 : J' 5 = J 5) (c : FgC J J' g) (r : FgR L L' g) : rl_K h J' L' (cc + 2) :=
  rl_K_fg (fun x => x = g) hk hcc (W_he hW h74) (fun g' _ s => by rw [s]; exact ⟨c.1, c.2.1, r.1⟩) (fun g' h5 s => ⟨(c.2.2.1 g' s).1, (c.2.2.1 g' s).2, r.2 g' s, c.2.2.2 g' h5 s, e4, e5⟩)
theorem sg17 {g n : Nat} : ∀ m k (A : Nat → Nat → Int32) had j, (M_sg g n m k A had).1 17 j = A 17 j ∨ (A 17 j = nI g ∧ (M_sg g n m k A had).1 17 j = -1) := by
  intro m
  induction m with
  | zero => intro k A had j; rw [M_sg]; exact Or.inl rfl
  | succ m ih =>
    intro k A had j
    rw [M_sg]
    by_cases z : A 17 k = nI g
    · rw [am_ite_t (isOf_t z)]
      have t : ∀ j, (M_take A k).2 17 j = if j = k then -1 else A 17 j := fun j => by
        show am_u2 A 17 k (-1) 17 j = _
        by_cases e : j = k
        · rw [if_pos e, e, am_u2_s]
        · rw [if_neg e, u2_ne e]
      have g1 := ih (k + 1) (M_take A k).2 (had + 1) j
      rw [t] at g1
      by_cases e : j = k
      · rw [if_pos e] at g1
        rcases g1 with q | ⟨_, q⟩
        · exact Or.inr ⟨by rw [e]; exact z, q⟩
        · exact Or.inr ⟨by rw [e]; exact z, q⟩
      · rw [if_neg e] at g1; exact g1
    · rw [am_ite_f (isOf_f z)]
      exact ih (k + 1) A had j
theorem T_generic {h : am_H} {J L : Nat → Nat → Int32} {lab : Nat → Nat} {nn cc : Nat} {g n : Int32} (hJ : am_ty2 J) (ho : Oth h J L nn cc) (ev : cc % 2 = 0) (hcc : cc < 2 ^ 30) (hW : am_W h J lab) : (D_generic J g n).1 = (R_generic L g n).1 ∧ Oth h (D_generic J g n).2 (R_generic L g n).2 nn (cc + 2) := by
  have e := eq_generic hJ ho.1.2.2.2 (g := g) (n := n)
  refine ⟨e.1, Oth_m ho ev e.2 ?_ (fun q a b c => fr_D_generic q (by omega)) (fun q a b => fr_R_generic q (by omega))⟩
  by_cases z : w_in g (nI 0) (nI 4) ∧ w_in n (nI 1) (nI 2)
  · have ec : (D_generic J g n).2 = (M_start (K_forget J (jx g)) (jx g) (jx n)).2 := by
      unfold D_generic
      rw [show w_gen g = w_in g (nI 0) (nI 4) from rfl, am_ite_t z.1, am_ite_t z.2]
    have er : (R_generic L g n).2 = R_forget (am_u2 ((R_gn (jx g) (jx n) 16 0 L 0).1) 49 (jx g) (nI (jx n))) (jx g) := by
      unfold R_generic
      rw [rl_is, rl_is, am_ite_t z.1, am_ite_t z.2]
    have g5 := jx_eq (by decide) z.1
    have F0 := FgC_f (J := J) (J1 := J) (g := jx g) rfl rfl (fun g' _ _ m _ => ⟨rfl, rfl, rfl, rfl⟩)
    refine rl_K_1 (g := jx g) ho.2.2.2.2.1 hcc hW (fun q a => fr_D_generic q (by omega)) (fr_D_generic 4 (by omega)) (fr_D_generic 5 (by omega)) ?_ ?_
    · rw [ec]
      have f : ∀ q, ¬ q = 15 → ¬ q = 16 → ¬ q = 17 → (M_start (K_forget J (jx g)) (jx g) (jx n)).2 q = K_forget J (jx g) q := fun q a b c => fr_M_start q ⟨a, b, c⟩
      refine ⟨by rw [f 24 (by decide) (by decide) (by decide)]; exact F0.1, by rw [f 25 (by decide) (by decide) (by decide)]; exact F0.2.1, fun g' ne => by rw [f 24 (by decide) (by decide) (by decide), f 25 (by decide) (by decide) (by decide)]; exact F0.2.2.1 g' ne, fun g' h5 ne m hq => ?_⟩
      rw [f 18 (by decide) (by decide) (by decide), f 19 (by decide) (by decide) (by decide), f 20 (by decide) (by decide) (by decide)]
      have e17 : (M_start (K_forget J (jx g)) (jx g) (jx n)).2 17 m = (M_sg (jx g) (jx n) 16 0 (K_forget J (jx g)) 0).1 17 m := by
        unfold M_start
        dsimp only
        rw [fr_u (by decide)]
      have k17 : K_forget J (jx g) 17 m = J 17 m := by rw [fr_K_forget 17 (by decide)]
      have s := sg17 (g := jx g) (n := jx n) 16 0 (K_forget J (jx g)) 0 m
      rw [k17] at s
      rw [e17] at hq ⊢
      rcases s with s | ⟨s1, s2⟩
      · exact ⟨s, by rw [fr_K_forget 18 (by decide)], by rw [fr_K_forget 19 (by decide)], by rw [fr_K_forget 20 (by decide)]⟩
      · rw [s2, s1] at hq
        rcases hq with q | q
        · exact absurd q (nI_m1 (by omega))
        · exact absurd ((nI_eq (by omega) (by omega)).mp q).symm ne
    · rw [er]
      exact FgR_f (by rw [fr_u (by decide), fl_R_gn 58 (by decide)])
  · have ec : (D_generic J g n).2 = J := by
      unfold D_generic
      rw [show w_gen g = w_in g (nI 0) (nI 4) from rfl]
      by_cases z1 : w_in g (nI 0) (nI 4)
      · rw [am_ite_t z1, am_ite_f (fun q => z ⟨z1, q⟩)]
      · rw [am_ite_f z1]
    have er : (R_generic L g n).2 = L := by
      unfold R_generic
      rw [rl_is, rl_is]
      by_cases z1 : w_in g (nI 0) (nI 4)
      · rw [am_ite_t z1, am_ite_f (fun q => z ⟨z1, q⟩)]
      · rw [am_ite_f z1]
    rw [ec, er]
    exact rl_K_mono ho.2.2.2.2.1 (by omega)
theorem T_remove {h : am_H} {J L : Nat → Nat → Int32} {lab : Nat → Nat} {nn cc : Nat} {m : Int32} (hJ : am_ty2 J) (ho : Oth h J L nn cc) (ev : cc % 2 = 0) (hcc : cc < 2 ^ 30) (hW : am_W h J lab) : (D_remove J m).1 = (R_remove L m).1 ∧ Oth h (D_remove J m).2 (R_remove L m).2 nn (cc + 2) := by
  have e := eq_remove hJ ho.1.2.2.2 (m := m)
  refine ⟨e.1, Oth_m ho ev e.2 ?_ (fun q a b c => fr_D_remove q (by omega)) (fun q a b => fr_R_remove q (by omega))⟩
  have h17 : J 17 = L 50 := ho.1.2.2.2.1.2.1
  by_cases z : w_in m (nI 0) (nI 15) ∧ ¬ J 17 (jx m) = -1
  · have ec : (D_remove J m).2 = K_forget ((M_take J (jx m)).2) (jn J 17 (jx m)) := by
      unfold D_remove M_there
      rw [am_ite_t z.1, am_ite_f z.2, am_ite_t True.intro]
    have er : (R_remove L m).2 = R_forget (am_u2 L 50 (jx m) ((-1))) (jn J 17 (jx m)) := by
      unfold R_remove
      rw [rl_is, am_ite_t z.1, ← h17, am_ite_t ((ge0_17 (m17 hJ _)).mpr z.2), jn_e h17]
    obtain ⟨g, hg, eg⟩ := (m17 hJ (jx m)).resolve_left z.2
    have jg : jn J 17 (jx m) = g := by unfold jn; rw [eg]; exact nI_clamp (by omega)
    rw [jg] at ec er
    refine rl_K_1 (g := g) ho.2.2.2.2.1 hcc hW (fun q a => fr_D_remove q (by omega)) (fr_D_remove 4 (by omega)) (fr_D_remove 5 (by omega)) ?_ ?_
    · rw [ec]
      refine FgC_f (fr_M_take 24 (by decide)) (fr_M_take 25 (by decide)) (fun g' h5 ne i hq => ?_)
      have t17 : (M_take J (jx m)).2 17 i = am_u2 J 17 (jx m) (-1) 17 i := rfl
      by_cases zi : i = jx m
      · rw [t17, zi, am_u2_s, eg] at hq
        rcases hq with q | q
        · exact absurd q (nI_m1 (by omega))
        · exact absurd ((nI_eq (by omega) (by omega)).mp q).symm ne
      · rw [t17, u2_ne zi, fr_M_take 18 (by decide), fr_M_take 19 (by decide), fr_M_take 20 (by decide)]
        exact ⟨rfl, rfl, rfl, rfl⟩
    · rw [er]
      exact FgR_f (fr_u (by decide))
  · have ec : (D_remove J m).2 = J := by
      unfold D_remove M_there
      by_cases z1 : w_in m (nI 0) (nI 15)
      · by_cases z2 : J 17 (jx m) = -1
        · rw [am_ite_t z1, am_ite_t z2, am_ite_f (fun q => q)]
        · exact absurd ⟨z1, z2⟩ z
      · rw [am_ite_f z1, am_ite_f (fun q => q)]
    have er : (R_remove L m).2 = L := by
      unfold R_remove
      rw [rl_is]
      by_cases z1 : w_in m (nI 0) (nI 15)
      · by_cases z2 : J 17 (jx m) = -1
        · rw [am_ite_t z1, ← h17, z2, am_ite_f (by decide)]
        · exact absurd ⟨z1, z2⟩ z
      · rw [am_ite_f z1]
    rw [ec, er]
    exact rl_K_mono ho.2.2.2.2.1 (by omega)
theorem FgC_st {J : Nat → Nat → Int32} {g kind s body : Nat} {t : Int32} (hg : g < 5) : ((M_settle J g kind s t body).1 < 0 ∧ (M_settle J g kind s t body).2 = J) ∨ (¬ (M_settle J g kind s t body).1 < 0 ∧ FgC J (K_forget (M_settle J g kind s t body).2 g) g) := by
  have put : ∀ (p : Nat) (J0 : Nat → Nat → Int32), (∀ q, ¬ q = 15 → J0 q = J q) → (J 17 p = -1 ∨ J 17 p = nI g) → FgC J (K_forget (am_u2 (am_u2 (am_u2 (am_u2 (am_u2 J0 17 p (nI g)) 18 p (nI kind)) 19 p (nI s)) 20 p t) 21 p (nI body)) g) g := fun p J0 f0 h17 => by
    refine FgC_f (by rw [fr_u (by decide), fr_u (by decide), fr_u (by decide), fr_u (by decide), fr_u (by decide), f0 24 (by decide)]) (by rw [fr_u (by decide), fr_u (by decide), fr_u (by decide), fr_u (by decide), fr_u (by decide), f0 25 (by decide)]) (fun g' h5 ne m hq => ?_)
    rw [fr_u (q := 17) (c := 21) (by decide), fr_u (q := 17) (c := 20) (by decide), fr_u (q := 17) (c := 19) (by decide), fr_u (q := 17) (c := 18) (by decide)] at hq ⊢
    by_cases z : m = p
    · exfalso
      rw [z, am_u2_s] at hq
      rcases hq with q | q
      · exact ne ((nI_eq (by omega) (by omega)).mp q).symm
      · rcases h17 with w | w
        · rw [w] at q; exact nI_m1 (by omega) q
        · rw [w] at q; exact ne ((nI_eq (by omega) (by omega)).mp q).symm
    · rw [u2_ne z, f0 17 (by decide)]
      refine ⟨rfl, ?_, ?_, ?_⟩
      · rw [fr_u (by decide), fr_u (by decide), fr_u (by decide), u2_ne z, fr_u (by decide), f0 18 (by decide)]
      · rw [fr_u (by decide), fr_u (by decide), u2_ne z, fr_u (by decide), fr_u (by decide), f0 19 (by decide)]
      · rw [fr_u (by decide), u2_ne z, fr_u (by decide), fr_u (by decide), fr_u (by decide), f0 20 (by decide)]
  unfold M_settle M_alike M_least
  rcases M_al_c (K := J) (g := g) (kind := kind) (s := s) (t := t) 16 0 (by omega) with ⟨a, b⟩ | ⟨p, a, b, c, d⟩
  · rcases M_lf_c (K := J) 16 0 (by omega) with ⟨a2, b2⟩ | ⟨p, a2, b2, c2, d2, e2⟩
    · rw [a, a2, am_ite_f (by decide), am_ite_f (by decide)]
      exact Or.inl ⟨show (-3 : Int32) < 0 by decide, rfl⟩
    · rw [a, c2, am_ite_f (by decide), am_ite_t (nI_pos' (by omega)), jx_nI (by omega)]
      exact Or.inr ⟨nI_pos (by omega), put p _ (fun q n => fr_u n) (Or.inl d2)⟩
  · rw [c, am_ite_t (nI_pos' (by omega)), jx_nI (by omega)]
    exact Or.inr ⟨nI_pos (by omega), put p J (fun q n => rfl) (Or.inr d.1)⟩
theorem FgR_m0 {L : Nat → Nat → Int32} {g kind s sec body : Nat} : ((R_m0 g kind s body sec L).1 < 0 ∧ (R_m0 g kind s body sec L).2 = L) ∨ (¬ (R_m0 g kind s body sec L).1 < 0 ∧ FgR L (R_m0 g kind s body sec L).2 g) := by
  have m1 := R_m1_le (g := g) (kind := kind) (s := s) (body := body) (sec := sec) 16 L 16 (by omega) (by omega)
  have m2 := R_m2_le (g := g) (kind := kind) (s := s) (body := body) (sec := sec) 16 0 ((R_m1 g kind s body sec 16 L 16).1) ((R_m1 g kind s body sec 16 L 16).2) (by omega) m1.1
  unfold R_m0 R_m3
  rw [m1.2] at m2 ⊢
  by_cases z : (R_m2 g kind s body sec 16 0 L (R_m1 g kind s body sec 16 L 16).2).2 = 16
  · rw [am_ite_t z]
    exact Or.inl ⟨by show (-3 : Int32) < 0; decide, m2.2⟩
  · rw [am_ite_f z]
    refine Or.inr ⟨nI_pos (by omega), FgR_f ?_⟩
    rw [fr_u (by decide), fr_u (by decide), fr_u (by decide), fr_u (by decide), fr_u (by decide), m2.2]
theorem T_method {h : am_H} {J L : Nat → Nat → Int32} {lab : Nat → Nat} {nn cc : Nat} {g kind s t body : Int32} (hJ : am_ty2 J) (hL : am_ty2 L) (ho : Oth h J L nn cc) (ev : cc % 2 = 0) (hcc : cc < 2 ^ 30) (hW : am_W h J lab) : (D_method J g kind s t body).1 = (R_method L g kind s t body).1 ∧ Oth h (D_method J g kind s t body).2 (R_method L g kind s t body).2 nn (cc + 2) := by
  have e := eq_method hJ hL ho.1.1 ho.1.2.1 ho.1.2.2.2 (g := g) (kind := kind) (s := s) (t := t) (body := body)
  refine ⟨e.1, Oth_m ho ev e.2 ?_ (fun q a b c => fr_D_method q (by omega)) (fun q a b => fr_R_method q (by omega))⟩
  by_cases z : w_in g (nI 0) (nI 4)
  · have g5 := jx_eq (by decide) z
    have n1 : ((-1 : Int32) < 0) := by decide
    have n2 : ((-2 : Int32) < 0) := by decide
    have C : ((D_method J g kind s t body).1 < 0 ∧ (D_method J g kind s t body).2 = J) ∨ (¬ (D_method J g kind s t body).1 < 0 ∧ FgC J (D_method J g kind s t body).2 (jx g)) := by
      have leaf : ∀ t', (fun x : Int32 × (Nat → Nat → Int32) => (x.1 < 0 ∧ x.2 = J) ∨ (¬ x.1 < 0 ∧ FgC J x.2 (jx g))) (am_ite (((M_settle J (jx g) (jx kind) (jx s) t' (jx body)).1) < 0) ((((M_settle J (jx g) (jx kind) (jx s) t' (jx body)).1), (M_settle J (jx g) (jx kind) (jx s) t' (jx body)).2)) ((((M_settle J (jx g) (jx kind) (jx s) t' (jx body)).1), K_forget ((M_settle J (jx g) (jx kind) (jx s) t' (jx body)).2) (jx g)))) := fun t' => by
        rcases FgC_st (J := J) (g := jx g) (kind := jx kind) (s := jx s) (t := t') (body := jx body) (by omega) with ⟨a, b⟩ | ⟨a, b⟩
        · rw [am_ite_t a]; exact Or.inl ⟨a, b⟩
        · rw [am_ite_f a]; exact Or.inr ⟨a, b⟩
      unfold D_method
      rw [show w_gen g = w_in g (nI 0) (nI 4) from rfl, am_ite_t z]
      refine am_ite_p (fun x : Int32 × (Nat → Nat → Int32) => (x.1 < 0 ∧ x.2 = J) ∨ (¬ x.1 < 0 ∧ FgC J x.2 (jx g))) ?_ (Or.inl ⟨n1, rfl⟩)
      refine am_ite_p (fun x : Int32 × (Nat → Nat → Int32) => (x.1 < 0 ∧ x.2 = J) ∨ (¬ x.1 < 0 ∧ FgC J x.2 (jx g))) ?_ (Or.inl ⟨n1, rfl⟩)
      refine am_ite_p (fun x : Int32 × (Nat → Nat → Int32) => (x.1 < 0 ∧ x.2 = J) ∨ (¬ x.1 < 0 ∧ FgC J x.2 (jx g))) ?_ ?_
      · refine am_ite_p (fun x : Int32 × (Nat → Nat → Int32) => (x.1 < 0 ∧ x.2 = J) ∨ (¬ x.1 < 0 ∧ FgC J x.2 (jx g))) ?_ (Or.inl ⟨n1, rfl⟩)
        refine am_ite_p (fun x : Int32 × (Nat → Nat → Int32) => (x.1 < 0 ∧ x.2 = J) ∨ (¬ x.1 < 0 ∧ FgC J x.2 (jx g))) ?_ (Or.inl ⟨n1, rfl⟩)
        refine am_ite_p (fun x : Int32 × (Nat → Nat → Int32) => (x.1 < 0 ∧ x.2 = J) ∨ (¬ x.1 < 0 ∧ FgC J x.2 (jx g))) (Or.inl ⟨n2, rfl⟩) ?_
        refine am_ite_p (fun x : Int32 × (Nat → Nat → Int32) => (x.1 < 0 ∧ x.2 = J) ∨ (¬ x.1 < 0 ∧ FgC J x.2 (jx g))) ?_ (Or.inl ⟨n2, rfl⟩)
        exact am_ite_p (fun x : Int32 × (Nat → Nat → Int32) => (x.1 < 0 ∧ x.2 = J) ∨ (¬ x.1 < 0 ∧ FgC J x.2 (jx g))) (leaf _) (Or.inl ⟨n2, rfl⟩)
      · refine am_ite_p (fun x : Int32 × (Nat → Nat → Int32) => (x.1 < 0 ∧ x.2 = J) ∨ (¬ x.1 < 0 ∧ FgC J x.2 (jx g))) ?_ (Or.inl ⟨n1, rfl⟩)
        refine am_ite_p (fun x : Int32 × (Nat → Nat → Int32) => (x.1 < 0 ∧ x.2 = J) ∨ (¬ x.1 < 0 ∧ FgC J x.2 (jx g))) (Or.inl ⟨n2, rfl⟩) ?_
        exact am_ite_p (fun x : Int32 × (Nat → Nat → Int32) => (x.1 < 0 ∧ x.2 = J) ∨ (¬ x.1 < 0 ∧ FgC J x.2 (jx g))) (leaf _) (Or.inl ⟨n2, rfl⟩)
    have R : ((R_method L g kind s t body).1 < 0 ∧ (R_method L g kind s t body).2 = L) ∨ (¬ (R_method L g kind s t body).1 < 0 ∧ FgR L (R_method L g kind s t body).2 (jx g)) := by
      unfold R_method
      rw [rl_is, am_ite_t z]
      refine am_ite_p (fun x : Int32 × (Nat → Nat → Int32) => (x.1 < 0 ∧ x.2 = L) ∨ (¬ x.1 < 0 ∧ FgR L x.2 (jx g))) ?_ (Or.inl ⟨n1, rfl⟩)
      refine am_ite_p (fun x : Int32 × (Nat → Nat → Int32) => (x.1 < 0 ∧ x.2 = L) ∨ (¬ x.1 < 0 ∧ FgR L x.2 (jx g))) ?_ (Or.inl ⟨n1, rfl⟩)
      refine am_ite_p (fun x : Int32 × (Nat → Nat → Int32) => (x.1 < 0 ∧ x.2 = L) ∨ (¬ x.1 < 0 ∧ FgR L x.2 (jx g))) ?_ (Or.inl ⟨n1, rfl⟩)
      refine am_ite_p (fun x : Int32 × (Nat → Nat → Int32) => (x.1 < 0 ∧ x.2 = L) ∨ (¬ x.1 < 0 ∧ FgR L x.2 (jx g))) ?_ ?_
      · refine am_ite_p (fun x : Int32 × (Nat → Nat → Int32) => (x.1 < 0 ∧ x.2 = L) ∨ (¬ x.1 < 0 ∧ FgR L x.2 (jx g))) ?_ (Or.inl ⟨n1, rfl⟩)
        refine am_ite_p (fun x : Int32 × (Nat → Nat → Int32) => (x.1 < 0 ∧ x.2 = L) ∨ (¬ x.1 < 0 ∧ FgR L x.2 (jx g))) (Or.inl ⟨n2, rfl⟩) ?_
        refine am_ite_p (fun x : Int32 × (Nat → Nat → Int32) => (x.1 < 0 ∧ x.2 = L) ∨ (¬ x.1 < 0 ∧ FgR L x.2 (jx g))) ?_ (Or.inl ⟨n2, rfl⟩)
        exact am_ite_p (fun x : Int32 × (Nat → Nat → Int32) => (x.1 < 0 ∧ x.2 = L) ∨ (¬ x.1 < 0 ∧ FgR L x.2 (jx g))) FgR_m0 (Or.inl ⟨n2, rfl⟩)
      · refine am_ite_p (fun x : Int32 × (Nat → Nat → Int32) => (x.1 < 0 ∧ x.2 = L) ∨ (¬ x.1 < 0 ∧ FgR L x.2 (jx g))) (Or.inl ⟨n2, rfl⟩) ?_
        exact am_ite_p (fun x : Int32 × (Nat → Nat → Int32) => (x.1 < 0 ∧ x.2 = L) ∨ (¬ x.1 < 0 ∧ FgR L x.2 (jx g))) FgR_m0 (Or.inl ⟨n2, rfl⟩)
    rcases C with ⟨c1, c2⟩ | ⟨c1, c2⟩
    · rcases R with ⟨r1, r2⟩ | ⟨r1, r2⟩
      · rw [c2, r2]; exact rl_K_mono ho.2.2.2.2.1 (by omega)
      · rw [e.1] at c1; exact absurd c1 r1
    · rcases R with ⟨r1, r2⟩ | ⟨r1, r2⟩
      · rw [← e.1] at r1; exact absurd r1 c1
      · exact rl_K_1 ho.2.2.2.2.1 hcc hW (fun q a => fr_D_method q (by omega)) (fr_D_method 4 (by omega)) (fr_D_method 5 (by omega)) c2 r2
  · have ec : (D_method J g kind s t body).2 = J := by
      unfold D_method
      rw [show w_gen g = w_in g (nI 0) (nI 4) from rfl, am_ite_f z]
    have er : (R_method L g kind s t body).2 = L := by
      unfold R_method
      rw [rl_is, am_ite_f z]
    rw [ec, er]
    exact rl_K_mono ho.2.2.2.2.1 (by omega)
