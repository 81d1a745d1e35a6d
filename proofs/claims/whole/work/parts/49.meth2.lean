/-! Methods: the relation; generic, remove and method answer alike. -/
def rl_M (K L : Nat → Nat → Int32) : Prop := (K 16 = L 49 ∧ K 17 = L 50 ∧ K 18 = L 51 ∧ K 19 = L 52 ∧ K 21 = L 54) ∧ (∀ m, m < 16 → ∀ g, g < 5 → K 17 m = nI g → ¬ jn K 16 g = 0 ∧ (jn K 19 m < 12 ∨ 16 ≤ jn K 19 m) ∧ (jn K 16 g = 2 → K 20 m = L 53 m ∧ (jn L 53 m < 12 ∨ 16 ≤ jn L 53 m)) ∧ (¬ jn K 16 g = 2 → K 20 m = -1 ∧ L 53 m = nI 0)) ∧ (∀ m m', m < 16 → m' < 16 → ¬ K 17 m = -1 → K 17 m = K 17 m' → K 18 m = K 18 m' → K 19 m = K 19 m' → K 20 m = K 20 m' → m = m') ∧ K 15 6 = nI (cn_of (fun m => ¬ K 17 m = -1) 16)
theorem rl_M_cg {K L K' L' : Nat → Nat → Int32} (h : rl_M K L) (h0 : K' 15 6 = K 15 6) (h1 : ∀ q, 16 ≤ q → q < 22 → K' q = K q) (h2 : ∀ q, 49 ≤ q → q < 55 → L' q = L q) : rl_M K' L' := by
  unfold rl_M jn at h ⊢
  rw [h0, h1 16 (by decide) (by decide), h1 17 (by decide) (by decide), h1 18 (by decide) (by decide), h1 19 (by decide) (by decide), h1 20 (by decide) (by decide), h1 21 (by decide) (by decide), h2 49 (by decide) (by decide), h2 50 (by decide) (by decide), h2 51 (by decide) (by decide), h2 52 (by decide) (by decide), h2 53 (by decide) (by decide), h2 54 (by decide) (by decide)]
  exact h
theorem nI_m1 {g : Nat} (hg : g < 2 ^ 31) : ¬ (-1 : Int32) = nI g := fun q => nI_n1 hg q.symm
theorem m17 {K : Nat → Nat → Int32} (hK : am_ty2 K) (m : Nat) : K 17 m = -1 ∨ ∃ g, g < 5 ∧ K 17 m = nI g := hK.2.1 (17, 5) (by decide) m
theorem isOf_t {K : Nat → Nat → Int32} {m g : Nat} (h : K 17 m = nI g) : M_isOf K m g := by unfold M_isOf; rw [am_ite_t h]; trivial
theorem isOf_f {K : Nat → Nat → Int32} {m g : Nat} (h : ¬ K 17 m = nI g) : ¬ M_isOf K m g := by unfold M_isOf; rw [am_ite_f h]; exact fun q => q
theorem cn_take {A : Nat → Nat → Int32} {k : Nat} (hk : k < 16) (hA : ¬ A 17 k = -1) : cn_of (fun m => ¬ A 17 m = -1) 16 = cn_of (fun m => ¬ am_u2 A 17 k (-1) 17 m = -1) 16 + 1 := by
  refine cn_set (j := k) (fun q => q (by rw [am_u2_s])) hA 16 hk (fun i _ hi => ?_)
  rw [u2_ne hi]
theorem take_15 {A : Nat → Nat → Int32} {k : Nat} (hk : k < 16) (hA : ¬ A 17 k = -1) (h : A 15 6 = nI (cn_of (fun m => ¬ A 17 m = -1) 16)) : (M_take A k).2 15 6 = nI (cn_of (fun m => ¬ (M_take A k).2 17 m = -1) 16) := by
  show am_u2 (am_u2 A 17 k (-1)) 15 6 ((A 15 6) - (nI 1)) 15 6 = nI (cn_of (fun m => ¬ am_u2 A 17 k (-1) 17 m = -1) 16)
  rw [am_u2_s, h, cn_take hk hA, pk_sub (by omega)]
  rfl
theorem rl_sg {g n : Nat} (hg : g < 5) : ∀ m k A B had, k + m = 16 → A 17 = B 50 → A 15 6 = nI (cn_of (fun m => ¬ A 17 m = -1) 16) → (M_sg g n m k A had).1 17 = (R_gn g n m k B had).1 50 ∧ (M_sg g n m k A had).2 = (R_gn g n m k B had).2 ∧ (M_sg g n m k A had).1 15 6 = nI (cn_of (fun j => ¬ (M_sg g n m k A had).1 17 j = -1) 16) ∧ (∀ j, (M_sg g n m k A had).1 17 j = -1 ∨ (M_sg g n m k A had).1 17 j = A 17 j) ∧ ∀ j, k ≤ j → j < 16 → ¬ (M_sg g n m k A had).1 17 j = nI g := by
  intro m
  induction m with
  | zero =>
    intro k A B had hk h1 h2
    rw [M_sg, R_gn]
    exact ⟨h1, rfl, h2, fun j => Or.inr rfl, fun j a b => absurd b (by omega)⟩
  | succ m ih =>
    intro k A B had hk h1 h2
    rw [M_sg, R_gn, ← h1]
    by_cases z : A 17 k = nI g
    · have hA : ¬ A 17 k = -1 := by rw [z]; exact nI_n1 (by omega)
      rw [am_ite_t (isOf_t z), am_ite_t z]
      obtain ⟨g1, g2, g3, g4, g5⟩ := ih (k + 1) (M_take A k).2 (am_u2 B 50 k ((-1))) (had + 1) (by omega) (by show am_u2 A 17 k (-1) 17 = _; exact u2_eq h1 rfl) (take_15 (by omega) hA h2)
      refine ⟨g1, g2, g3, fun j => ?_, fun j a b => ?_⟩
      · rcases g4 j with q | q
        · exact Or.inl q
        · by_cases e : j = k
          · left; rw [q, e]; show am_u2 A 17 k (-1) 17 k = -1; rw [am_u2_s]
          · right; rw [q]; show am_u2 A 17 k (-1) 17 j = _; rw [u2_ne e]
      · by_cases e : j = k
        · rcases g4 j with q | q
          · rw [q]; exact nI_m1 (by omega)
          · rw [q, e]; show ¬ am_u2 A 17 k (-1) 17 k = _; rw [am_u2_s]; exact nI_m1 (by omega)
        · exact g5 j (by omega) b
    · rw [am_ite_f (isOf_f z), am_ite_f z]
      obtain ⟨g1, g2, g3, g4, g5⟩ := ih (k + 1) A B had (by omega) h1 h2
      refine ⟨g1, g2, g3, g4, fun j a b => ?_⟩
      by_cases e : j = k
      · rcases g4 j with q | q
        · rw [q]; exact nI_m1 (by omega)
        · rw [q, e]; exact z
      · exact g5 j (by omega) b
/-- generic answers alike, and the methods stay alike -/
theorem eq_generic {K L : Nat → Nat → Int32} (hK : am_ty2 K) (h : rl_M K L) {g n : Int32} : (D_generic K g n).1 = (R_generic L g n).1 ∧ rl_M (D_generic K g n).2 (R_generic L g n).2 := by
  unfold D_generic R_generic
  rw [rl_is, rl_is, show w_gen g = w_in g (nI 0) (nI 4) from rfl]
  by_cases z1 : w_in g (nI 0) (nI 4)
  · have g1 := jx_eq (by decide) z1
    rw [am_ite_t z1, am_ite_t z1]
    by_cases z2 : w_in n (nI 1) (nI 2)
    · have g2 := jx_eqL (by decide) (by decide) z2
      rw [am_ite_t z2, am_ite_t z2]
      obtain ⟨⟨h16, h17, h18, h19, h21⟩, hm, hu, hc⟩ := h
      have e := rl_sg (g := jx g) (n := jx n) (by omega) 16 0 (K_forget K (jx g)) L 0 (by omega) h17 hc
      unfold M_start
      obtain ⟨e1, e2, e3, e4, e5⟩ := e
      have fK : ∀ q, ¬ q = 15 → ¬ q = 17 → ¬ q = 24 → ¬ q = 25 → (M_sg (jx g) (jx n) 16 0 (K_forget K (jx g)) 0).1 q = K q := fun q a b c d => by
        rw [fl_M_sg q (by omega), fr_K_forget q (by omega)]
      have fL : ∀ q, ¬ q = 50 → (R_gn (jx g) (jx n) 16 0 L 0).1 q = L q := fun q a => by rw [fl_R_gn q (by omega)]
      refine ⟨by dsimp only; rw [e2], ?_⟩
      have big : rl_M (am_u2 ((M_sg (jx g) (jx n) 16 0 (K_forget K (jx g)) 0).1) 16 (jx g) (nI (jx n))) (am_u2 ((R_gn (jx g) (jx n) 16 0 L 0).1) 49 (jx g) (nI (jx n))) := by
        refine ⟨⟨u2_eq ?_ rfl, e1, ?_, ?_, ?_⟩, fun m hm1 g' hg' h' => ?_, fun m m' a b c d e f i => ?_, e3⟩
        · rw [fK 16 (by omega) (by omega) (by omega) (by omega), fL 49 (by omega)]; exact h16
        · show (M_sg _ _ _ _ _ _).1 18 = (R_gn _ _ _ _ _ _).1 51
          rw [fK 18 (by omega) (by omega) (by omega) (by omega), fL 51 (by omega)]; exact h18
        · show (M_sg _ _ _ _ _ _).1 19 = (R_gn _ _ _ _ _ _).1 52
          rw [fK 19 (by omega) (by omega) (by omega) (by omega), fL 52 (by omega)]; exact h19
        · show (M_sg _ _ _ _ _ _).1 21 = (R_gn _ _ _ _ _ _).1 54
          rw [fK 21 (by omega) (by omega) (by omega) (by omega), fL 54 (by omega)]; exact h21
        · have h' : (M_sg (jx g) (jx n) 16 0 (K_forget K (jx g)) 0).1 17 m = nI g' := h'
          have ng : ¬ g' = jx g := fun q => e5 m (by omega) hm1 (by rw [h', q])
          have ho : K 17 m = nI g' := by
            rcases e4 m with q | q
            · rw [q] at h'; exact absurd h' (nI_m1 (by omega))
            · rw [h'] at q; exact q.symm
          have q := hm m hm1 g' hg' ho
          have j16 : jn (am_u2 ((M_sg (jx g) (jx n) 16 0 (K_forget K (jx g)) 0).1) 16 (jx g) (nI (jx n))) 16 g' = jn K 16 g' := by
            unfold jn; rw [u2_ne ng, fK 16 (by omega) (by omega) (by omega) (by omega)]
          have j19 : jn (am_u2 ((M_sg (jx g) (jx n) 16 0 (K_forget K (jx g)) 0).1) 16 (jx g) (nI (jx n))) 19 m = jn K 19 m := by
            show ((M_sg _ _ _ _ _ _).1 19 m).toNatClampNeg = _
            rw [fK 19 (by omega) (by omega) (by omega) (by omega)]; rfl
          have j53 : jn (am_u2 ((R_gn (jx g) (jx n) 16 0 L 0).1) 49 (jx g) (nI (jx n))) 53 m = jn L 53 m := by
            show ((R_gn _ _ _ _ _ _).1 53 m).toNatClampNeg = _
            rw [fL 53 (by omega)]; rfl
          rw [j16, j19, j53]
          refine ⟨q.1, q.2.1, fun r => ?_, fun r => ?_⟩
          · show (M_sg _ _ _ _ _ _).1 20 m = (R_gn _ _ _ _ _ _).1 53 m ∧ _
            rw [fK 20 (by omega) (by omega) (by omega) (by omega), fL 53 (by omega)]; exact q.2.2.1 r
          · show (M_sg _ _ _ _ _ _).1 20 m = -1 ∧ (R_gn _ _ _ _ _ _).1 53 m = nI 0
            rw [fK 20 (by omega) (by omega) (by omega) (by omega), fL 53 (by omega)]; exact q.2.2.2 r
        · have c : ¬ (M_sg (jx g) (jx n) 16 0 (K_forget K (jx g)) 0).1 17 m = -1 := c
          have d : (M_sg (jx g) (jx n) 16 0 (K_forget K (jx g)) 0).1 17 m = (M_sg (jx g) (jx n) 16 0 (K_forget K (jx g)) 0).1 17 m' := d
          have e : (M_sg (jx g) (jx n) 16 0 (K_forget K (jx g)) 0).1 18 m = (M_sg (jx g) (jx n) 16 0 (K_forget K (jx g)) 0).1 18 m' := e
          have f : (M_sg (jx g) (jx n) 16 0 (K_forget K (jx g)) 0).1 19 m = (M_sg (jx g) (jx n) 16 0 (K_forget K (jx g)) 0).1 19 m' := f
          have i : (M_sg (jx g) (jx n) 16 0 (K_forget K (jx g)) 0).1 20 m = (M_sg (jx g) (jx n) 16 0 (K_forget K (jx g)) 0).1 20 m' := i
          rw [fK 18 (by omega) (by omega) (by omega) (by omega)] at e
          rw [fK 19 (by omega) (by omega) (by omega) (by omega)] at f
          rw [fK 20 (by omega) (by omega) (by omega) (by omega)] at i
          have o1 : (M_sg (jx g) (jx n) 16 0 (K_forget K (jx g)) 0).1 17 m = K 17 m := by
            rcases e4 m with q | q
            · exact absurd q c
            · exact q
          have o2 : (M_sg (jx g) (jx n) 16 0 (K_forget K (jx g)) 0).1 17 m' = K 17 m' := by
            rcases e4 m' with q | q
            · exact absurd (d.trans q) c
            · exact q
          rw [o1] at c d
          rw [o2] at d
          exact hu m m' a b c d e f i
      exact rl_M_cg big rfl (fun q _ _ => rfl) (fun q _ _ => fr_R_forget q (by omega))
    · rw [am_ite_f z2, am_ite_f z2]; exact ⟨rfl, h⟩
  · rw [am_ite_f z1, am_ite_f z1]; exact ⟨rfl, h⟩
theorem ge0_17 {x : Int32} (h : x = -1 ∨ ∃ g, g < 5 ∧ x = nI g) : 0 ≤ x ↔ ¬ x = -1 := by
  rcases h with q | ⟨g, hg, q⟩
  · rw [q]; decide
  · rw [q]; exact ⟨fun _ => nI_n1 (by omega), fun _ => nI_pos' (by omega)⟩
/-- remove answers alike, and the methods stay alike -/
theorem eq_remove {K L : Nat → Nat → Int32} (hK : am_ty2 K) (h : rl_M K L) {m : Int32} : (D_remove K m).1 = (R_remove L m).1 ∧ rl_M (D_remove K m).2 (R_remove L m).2 := by
  unfold D_remove R_remove M_there
  rw [rl_is]
  obtain ⟨⟨h16, h17, h18, h19, h21⟩, hm, hu, hc⟩ := h
  by_cases z1 : w_in m (nI 0) (nI 15)
  · have g1 := jx_eq (by decide) z1
    rw [am_ite_t z1, am_ite_t z1, ← h17, jn_e h17]
    by_cases z2 : K 17 (jx m) = -1
    · rw [am_ite_t z2, am_ite_f (fun q => q), am_ite_f (by rw [z2]; decide)]
      exact ⟨rfl, ⟨h16, h17, h18, h19, h21⟩, hm, hu, hc⟩
    · rw [am_ite_f z2, am_ite_t True.intro, am_ite_t ((ge0_17 (m17 hK _)).mpr z2)]
      refine ⟨rfl, ?_⟩
      have big : rl_M (M_take K (jx m)).2 (am_u2 L 50 (jx m) (-1)) := by
        refine ⟨⟨h16, u2_eq h17 rfl, h18, h19, h21⟩, fun i hi g' hg' h' => ?_, fun i j a b c d e f k => ?_, take_15 (by omega) z2 hc⟩
        · have h' : am_u2 K 17 (jx m) (-1) 17 i = nI g' := h'
          by_cases q : i = jx m
          · rw [q, am_u2_s] at h'; exact absurd h' (nI_m1 (by omega))
          · rw [u2_ne q] at h'; exact hm i hi g' hg' h'
        · have c : ¬ am_u2 K 17 (jx m) (-1) 17 i = -1 := c
          have d : am_u2 K 17 (jx m) (-1) 17 i = am_u2 K 17 (jx m) (-1) 17 j := d
          by_cases q : i = jx m
          · rw [q, am_u2_s] at c; exact absurd rfl c
          · rw [u2_ne q] at c d
            by_cases q2 : j = jx m
            · rw [q2, am_u2_s] at d; exact absurd d c
            · rw [u2_ne q2] at d; exact hu i j a b c d e f k
      exact rl_M_cg big rfl (fun q _ _ => by show K_forget (M_take K (jx m)).2 (jn K 17 (jx m)) q = _; rw [fr_K_forget q (by omega)]) (fun q _ _ => by show R_forget (am_u2 L 50 (jx m) ((-1))) (jn K 17 (jx m)) q = _; rw [fr_R_forget q (by omega)])
  · rw [am_ite_f z1, am_ite_f (fun q => q), am_ite_f z1]
    exact ⟨rfl, ⟨h16, h17, h18, h19, h21⟩, hm, hu, hc⟩
