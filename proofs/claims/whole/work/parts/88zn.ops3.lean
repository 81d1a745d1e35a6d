/-! The plain operations; count. -/
theorem cn_add {p : Nat → Prop} {k : Nat} : ∀ m, cn_of p (k + m) = cn_of p k + cn_of (fun i => p (k + i)) m := by
  intro m
  induction m with
  | zero => rfl
  | succ m ih =>
    rw [← Nat.add_assoc]
    by_cases z : p (k + m)
    · rw [cn_t z, cn_t (p := fun i => p (k + i)) z, ih]; omega
    · rw [cn_f z, cn_f (p := fun i => p (k + i)) z, ih]
theorem R_c0_n {L : Nat → Nat → Int32} : ∀ m k, R_c0 m k L (cn_of (fun c => ¬ jn L 37 c = 0) k) = nI (cn_of (fun c => ¬ jn L 37 c = 0) (k + m)) := by
  intro m
  induction m with
  | zero => intro k; rfl
  | succ m ih =>
    intro k
    rw [R_c0, show k + (m + 1) = k + 1 + m by omega, ← ih (k + 1)]
    by_cases z : jn L 37 k = 0
    · rw [am_ite_t z, cn_f (p := fun c => ¬ jn L 37 c = 0) (fun q => q z)]
    · rw [am_ite_f z, cn_t (p := fun c => ¬ jn L 37 c = 0) z]
theorem R_c2_n {L : Nat → Nat → Int32} : ∀ m k, R_c2 m k L (cn_of (fun c => ¬ L 50 c < 0) k) = nI (cn_of (fun c => ¬ L 50 c < 0) (k + m)) := by
  intro m
  induction m with
  | zero => intro k; rfl
  | succ m ih =>
    intro k
    rw [R_c2, show k + (m + 1) = k + 1 + m by omega, ← ih (k + 1)]
    by_cases z : L 50 k < 0
    · rw [am_ite_t z, cn_f (p := fun c => ¬ L 50 c < 0) (fun q => q z)]
    · rw [am_ite_f z, cn_t (p := fun c => ¬ L 50 c < 0) z]
theorem R_c6_n {L : Nat → Nat → Int32} : ∀ m k, R_c6 m k L (cn_of (fun c => ¬ jn L 58 c = 0) k) = nI (cn_of (fun c => ¬ jn L 58 c = 0) (k + m)) := by
  intro m
  induction m with
  | zero => intro k; rfl
  | succ m ih =>
    intro k
    rw [R_c6, show k + (m + 1) = k + 1 + m by omega, ← ih (k + 1)]
    by_cases z : jn L 58 k = 0
    · rw [am_ite_t z, cn_f (p := fun c => ¬ jn L 58 c = 0) (fun q => q z)]
    · rw [am_ite_f z, cn_t (p := fun c => ¬ jn L 58 c = 0) z]
theorem c6_e {h : am_H} {J L : Nat → Nat → Int32} {cc : Nat} (hL : am_ty2 L) (hk : rl_K h J L cc) : K_total J = R_c6 720 0 L 0 := by
  have b : ∀ k, ¬ jn L 58 k = 0 ↔ jn L 58 k = 1 := fun k => by
    have := (ty_n hL (q := 58) (B := 2) (by decide) (by decide) k).2
    omega
  have g : ∀ g, g < 5 → J 25 g = nI (cn_of (fun i => ¬ jn L 58 (144 * g + i) = 0) 144) := fun g hg => by
    rw [hk.2.2.1 g hg]
    exact congrArg nI (cn_congr 144 (fun i _ => (b _).symm))
  have e := R_c6_n (L := L) 720 0
  have e0 : cn_of (fun c => ¬ jn L 58 c = 0) 0 = 0 := rfl
  rw [e0] at e
  rw [e, show 0 + 720 = 0 + 144 + 144 + 144 + 144 + 144 by rfl, cn_add, cn_add, cn_add, cn_add, cn_add, e0]
  unfold K_total
  rw [K_tl, K_tl, K_tl, K_tl, K_tl, K_tl, g 0 (by decide), g (0 + 1) (by decide), g (0 + 1 + 1) (by decide), g (0 + 1 + 1 + 1) (by decide), g (0 + 1 + 1 + 1 + 1) (by decide), nI_add, nI_add, nI_add, nI_add, nI_add]
theorem T_count {h : am_H} {J L : Nat → Nat → Int32} {nn cc : Nat} {what : Int32} (hJ : am_ty2 J) (hL : am_ty2 L) (ho : Oth h J L nn cc) (e17 : J 33 17 = L 73 9) (e4 : L 73 4 = J 33 16) : D_count J what = R_count L what := by
  obtain ⟨⟨r1, r2, r3, r4⟩, r5, r6, r7, r8, r9, r10, r11, r12⟩ := ho
  unfold D_count R_count
  by_cases z0 : what = nI 0
  · rw [am_ite_t z0, am_ite_t z0]
    have e := R_c0_n (L := L) 12 0
    rw [show cn_of (fun c => ¬ jn L 37 c = 0) 0 = 0 from rfl] at e
    rw [e]; exact r11
  rw [am_ite_f z0, am_ite_f z0]
  by_cases z1 : what = nI 1
  · rw [am_ite_t z1, am_ite_t z1]
    show nI (J 10 5).toNatClampNeg = nI (L 36 37).toNatClampNeg
    rw [r2.2.2.2.2.1]
  rw [am_ite_f z1, am_ite_f z1]
  by_cases z2 : what = nI 2
  · rw [am_ite_t z2, am_ite_t z2]
    have e := R_c2_n (L := L) 16 0
    rw [show cn_of (fun c => ¬ L 50 c < 0) 0 = 0 from rfl] at e
    rw [e]
    show J 15 6 = _
    rw [r4.2.2.2]
    refine congrArg nI (cn_congr 16 (fun i _ => ?_))
    rw [← r4.1.2.1]
    rcases m17 hJ i with q | ⟨g, hg, q⟩
    · rw [q]; decide
    · rw [q]; exact ⟨fun _ => nI_pos (by omega), fun _ => nI_n1 (by omega)⟩
  rw [am_ite_f z2, am_ite_f z2]
  by_cases z6 : what = nI 6
  · rw [am_ite_t z6, z6, am_ite_f (by decide), am_ite_f (by decide), am_ite_f (by decide), am_ite_t rfl]
    exact c6_e hL r8
  rw [am_ite_f z6 (a := R_c6 720 0 L 0)]
  by_cases z3 : what = nI 3
  · rw [am_ite_t z3, z3, am_ite_t (show r_is (nI 3) (nI 0) (nI 9) by rw [rl_is]; exact w_in_nI (by decide) (by decide)), jx_nI (by decide)]
    show J 31 3 = _
    rw [r5.2.1, r5.1]
  rw [am_ite_f z3]
  by_cases z4 : what = nI 4
  · rw [am_ite_t z4, z4, am_ite_t (show r_is (nI 4) (nI 0) (nI 9) by rw [rl_is]; exact w_in_nI (by decide) (by decide)), jx_nI (by decide)]
    exact e4.symm
  rw [am_ite_f z4]
  by_cases z5 : what = nI 5
  · rw [am_ite_t z5, z5, am_ite_t (show r_is (nI 5) (nI 0) (nI 9) by rw [rl_is]; exact w_in_nI (by decide) (by decide)), jx_nI (by decide)]
    exact r9
  rw [am_ite_f z5, am_ite_f z6]
  by_cases z7 : what = nI 7
  · rw [am_ite_t z7, z7, am_ite_t (show r_is (nI 7) (nI 0) (nI 9) by rw [rl_is]; exact w_in_nI (by decide) (by decide)), jx_nI (by decide)]
    exact r2.2.2.2.2.2.1
  rw [am_ite_f z7]
  by_cases z8 : what = nI 8
  · rw [am_ite_t z8, z8, am_ite_t (show r_is (nI 8) (nI 0) (nI 9) by rw [rl_is]; exact w_in_nI (by decide) (by decide)), jx_nI (by decide)]
    exact r10
  rw [am_ite_f z8]
  by_cases z9 : what = nI 9
  · rw [am_ite_t z9, z9, am_ite_t (show r_is (nI 9) (nI 0) (nI 9) by rw [rl_is]; exact w_in_nI (by decide) (by decide)), jx_nI (by decide)]
    exact e17
  rw [am_ite_f z9, am_ite_f (fun q => ?_)]
  rw [rl_is] at q
  have g := jx_eq (by decide) q
  have g1 := g.1
  have gn : ∀ k, jx what = k → what = nI k := fun k e => by rw [← e]; exact g1
  have c : jx what = 0 ∨ jx what = 1 ∨ jx what = 2 ∨ jx what = 3 ∨ jx what = 4 ∨ jx what = 5 ∨ jx what = 6 ∨ jx what = 7 ∨ jx what = 8 ∨ jx what = 9 := by
    have := g.2
    omega
  rcases c with c | c | c | c | c | c | c | c | c | c
  · exact z0 (gn _ c)
  · exact z1 (gn _ c)
  · exact z2 (gn _ c)
  · exact z3 (gn _ c)
  · exact z4 (gn _ c)
  · exact z5 (gn _ c)
  · exact z6 (gn _ c)
  · exact z7 (gn _ c)
  · exact z8 (gn _ c)
  · exact z9 (gn _ c)
theorem R_reach_73 {L : Nat → Nat → Int32} {i nm : Int32} {j : Nat} (hj : ¬ j = 7) : (R_reach L i nm).2 73 j = L 73 j := by
  unfold R_reach
  refine am_ite_p (fun x : Int32 × (Nat → Nat → Int32) => x.2 73 j = L 73 j) ?_ rfl
  refine am_ite_p (fun x : Int32 × (Nat → Nat → Int32) => x.2 73 j = L 73 j) ?_ rfl
  exact am_ite_p (fun x : Int32 × (Nat → Nat → Int32) => x.2 73 j = L 73 j) (R_tch.2 j hj) (R_tch.2 j hj)
theorem R_get_73 {L : Nat → Nat → Int32} {i nm : Int32} {j : Nat} (hj : ¬ j = 7) : (R_get L i nm).2 73 j = L 73 j := by
  have r := R_reach_73 (L := L) (i := i) (nm := nm) hj
  have f : ∀ x, (R_fail (R_reach L i nm).2 x).2 73 j = L 73 j := fun x => (congrFun (fr_u (J := (R_reach L i nm).2) (c := 36) (i := 40) (v := x) (q := 73) (by decide)) j).trans r
  unfold R_get
  refine am_ite_p (fun x : Int64 × (Nat → Nat → Int32) => x.2 73 j = L 73 j) ?_ (f _)
  refine am_ite_p (fun x : Int64 × (Nat → Nat → Int32) => x.2 73 j = L 73 j) r ?_
  exact am_ite_p (fun x : Int64 × (Nat → Nat → Int32) => x.2 73 j = L 73 j) r (f _)
theorem R_put_73 {L : Nat → Nat → Int32} {i nm v : Int32} {j : Nat} (hj : ¬ j = 7) : (R_put L i nm v).2 73 j = L 73 j := by
  have r := R_reach_73 (L := L) (i := i) (nm := nm) hj
  have f : ∀ x, (R_fail (R_reach L i nm).2 x).2 73 j = L 73 j := fun x => (congrFun (fr_u (J := (R_reach L i nm).2) (c := 36) (i := 40) (v := x) (q := 73) (by decide)) j).trans r
  unfold R_put
  refine am_ite_p (fun x : Int64 × (Nat → Nat → Int32) => x.2 73 j = L 73 j) ?_ (f _)
  refine am_ite_p (fun x : Int64 × (Nat → Nat → Int32) => x.2 73 j = L 73 j) ?_ ?_
  · dsimp only
    rw [fr_u (by decide)]; exact r
  · dsimp only
    rw [fr_u (by decide), fr_u (by decide)]; exact r
theorem R_unb_73 {L : Nat → Nat → Int32} {i nm : Int32} {j : Nat} (hj : ¬ j = 7) : (R_unbind L i nm).2 73 j = L 73 j := by
  have r := R_reach_73 (L := L) (i := i) (nm := nm) hj
  have f : ∀ x, (R_fail (R_reach L i nm).2 x).2 73 j = L 73 j := fun x => (congrFun (fr_u (J := (R_reach L i nm).2) (c := 36) (i := 40) (v := x) (q := 73) (by decide)) j).trans r
  unfold R_unbind
  refine am_ite_p (fun x : Int64 × (Nat → Nat → Int32) => x.2 73 j = L 73 j) ?_ (f _)
  refine am_ite_p (fun x : Int64 × (Nat → Nat → Int32) => x.2 73 j = L 73 j) (f _) ?_
  dsimp only
  rw [fr_u (by decide)]; exact r
theorem R_bec_73 {L : Nat → Nat → Int32} {i c : Int32} {j : Nat} (hj : ¬ j = 7) : (R_become L i c).2 73 j = L 73 j := by
  unfold R_become
  refine am_ite_p (fun x : Int32 × (Nat → Nat → Int32) => x.2 73 j = L 73 j) ?_ rfl
  refine am_ite_p (fun x : Int32 × (Nat → Nat → Int32) => x.2 73 j = L 73 j) ?_ rfl
  show R_touch _ _ 73 j = _
  rw [R_tch.2 j hj, fr_u (by decide), R_tch.2 j hj]
theorem T_slot {h : am_H} {J L : Nat → Nat → Int32} {lab : Nat → Nat} {nn cc : Nat} {c nm how v : Int32} (hB : am_B h) (hJ : am_ty2 J) (hL : am_ty2 L) (ho : Oth h J L nn cc) (ev : cc % 2 = 0) (hcc : cc < 2 ^ 30) (hW : am_W h J lab) : (D_slot J c nm how v).1 = (R_slot L c nm how v).1 ∧ Oth h (D_slot J c nm how v).2 (R_slot L c nm how v).2 nn (cc + 2) := by
  obtain ⟨⟨r1, r2, r3, r4⟩, r5, r6, rest⟩ := id ho
  have fc : ∀ q, ¬ (q = 6 ∨ q = 7) → ¬ (10 ≤ q ∧ q ≤ 14) → ¬ (28 ≤ q ∧ q ≤ 30) → (D_slot J c nm how v).2 q = J q := fun q a b c => fr_D_slot q (by omega)
  have fl : ∀ q, ¬ q = 36 → ¬ (43 ≤ q ∧ q ≤ 48) → ¬ (55 ≤ q ∧ q ≤ 57) → ¬ q = 73 → (R_slot L c nm how v).2 q = L q := fun q a b c d => fr_R_slot q (by omega)
  have e := eq_slot hL r1 (c := c) (nm := nm) (how := how) (v := v)
  exact ⟨e.1, Oth_u ho ev hW e.2 (rl_I_cg2 r2 (fun q a b => fr_D_slot q (by omega)) (fun q a b => fr_R_slot q (by omega)) (by rw [fr_R_slot 36 (by omega)]) (by rw [fr_R_slot 73 (by omega)])) (rl_B_cg2 r3 (fun q a b => fr_D_slot q (by omega)) (fun q a b => fr_R_slot q (by omega))) (opv_cg r6 (fr_R_slot 55 (by omega)) (fr_R_slot 56 (by omega))) fc fl (fun j _ => by rw [fr_R_slot 73 (by omega)])⟩
theorem T_make {h : am_H} {J L : Nat → Nat → Int32} {lab : Nat → Nat} {nn cc : Nat} {c : Int32} (hB : am_B h) (hJ : am_ty2 J) (hL : am_ty2 L) (ho : Oth h J L nn cc) (ev : cc % 2 = 0) (hcc : cc < 2 ^ 30) (hW : am_W h J lab) : (D_make J c).1 = (R_make L c).1 ∧ Oth h (D_make J c).2 (R_make L c).2 nn (cc + 2) := by
  obtain ⟨⟨r1, r2, r3, r4⟩, r5, r6, rest⟩ := id ho
  have fc : ∀ q, ¬ (q = 6 ∨ q = 7) → ¬ (10 ≤ q ∧ q ≤ 14) → ¬ (28 ≤ q ∧ q ≤ 30) → (D_make J c).2 q = J q := fun q a b c => fr_D_make q (by omega)
  have fl : ∀ q, ¬ q = 36 → ¬ (43 ≤ q ∧ q ≤ 48) → ¬ (55 ≤ q ∧ q ≤ 57) → ¬ q = 73 → (R_make L c).2 q = L q := fun q a b c d => fr_R_make q (by omega)
  have e := eq_make hJ hL r1 r2 (c := c)
  exact ⟨e.1, Oth_u ho ev hW e.2.1 e.2.2 (rl_B_cg2 r3 (fun q a b => fr_D_make q (by omega)) (fun q a b => fr_R_make q (by omega))) (opv_cg r6 (fr_R_make 55 (by omega)) (fr_R_make 56 (by omega))) fc fl (fun j _ => by rw [fr_R_make 73 (by omega)])⟩
theorem T_become {h : am_H} {J L : Nat → Nat → Int32} {lab : Nat → Nat} {nn cc : Nat} {i c : Int32} (hB : am_B h) (hJ : am_ty2 J) (hL : am_ty2 L) (ho : Oth h J L nn cc) (ev : cc % 2 = 0) (hcc : cc < 2 ^ 30) (hW : am_W h J lab) : (D_become J i c).1 = (R_become L i c).1 ∧ Oth h (D_become J i c).2 (R_become L i c).2 nn (cc + 2) := by
  obtain ⟨⟨r1, r2, r3, r4⟩, r5, r6, rest⟩ := id ho
  have fc : ∀ q, ¬ (q = 6 ∨ q = 7) → ¬ (10 ≤ q ∧ q ≤ 14) → ¬ (28 ≤ q ∧ q ≤ 30) → (D_become J i c).2 q = J q := fun q a b c => fr_D_become q (by omega)
  have fl : ∀ q, ¬ q = 36 → ¬ (43 ≤ q ∧ q ≤ 48) → ¬ (55 ≤ q ∧ q ≤ 57) → ¬ q = 73 → (R_become L i c).2 q = L q := fun q a b c d => fr_R_become q (by omega)
  have e := eq_become h hB hJ hL r1 r2 (i := i) (c := c)
  exact ⟨e.1, Oth_u ho ev hW e.2.1 e.2.2 (rl_B_cg2 r3 (fun q a b => fr_D_become q (by omega)) (fun q a b => fr_R_become q (by omega))) (opv_cg r6 (fr_R_become 55 (by omega)) (fr_R_become 56 (by omega))) fc fl (fun j hj => R_bec_73 hj)⟩
theorem T_get {h : am_H} {J L : Nat → Nat → Int32} {lab : Nat → Nat} {nn cc : Nat} {i nm : Int32} (hB : am_B h) (hJ : am_ty2 J) (hL : am_ty2 L) (ho : Oth h J L nn cc) (ev : cc % 2 = 0) (hcc : cc < 2 ^ 30) (hW : am_W h J lab) : (D_get J i nm).1 = (R_get L i nm).1 ∧ Oth h (D_get J i nm).2 (R_get L i nm).2 nn (cc + 2) := by
  obtain ⟨⟨r1, r2, r3, r4⟩, r5, r6, rest⟩ := id ho
  have fc : ∀ q, ¬ (q = 6 ∨ q = 7) → ¬ (10 ≤ q ∧ q ≤ 14) → ¬ (28 ≤ q ∧ q ≤ 30) → (D_get J i nm).2 q = J q := fun q a b c => fr_D_get q (by omega)
  have fl : ∀ q, ¬ q = 36 → ¬ (43 ≤ q ∧ q ≤ 48) → ¬ (55 ≤ q ∧ q ≤ 57) → ¬ q = 73 → (R_get L i nm).2 q = L q := fun q a b c d => fr_R_get q (by omega)
  have e := eq_get hJ r1 r2 (i := i) (nm := nm)
  exact ⟨e.1, Oth_u ho ev hW e.2.1 e.2.2 (rl_B_cg2 r3 (fun q a b => fr_D_get q (by omega)) (fun q a b => fr_R_get q (by omega))) (opv_cg r6 (fr_R_get 55 (by omega)) (fr_R_get 56 (by omega))) fc fl (fun j hj => R_get_73 hj)⟩
theorem T_put {h : am_H} {J L : Nat → Nat → Int32} {lab : Nat → Nat} {nn cc : Nat} {i nm v : Int32} (hB : am_B h) (hJ : am_ty2 J) (hL : am_ty2 L) (ho : Oth h J L nn cc) (ev : cc % 2 = 0) (hcc : cc < 2 ^ 30) (hW : am_W h J lab) : (D_put J i nm v).1 = (R_put L i nm v).1 ∧ Oth h (D_put J i nm v).2 (R_put L i nm v).2 nn (cc + 2) := by
  obtain ⟨⟨r1, r2, r3, r4⟩, r5, r6, rest⟩ := id ho
  have fc : ∀ q, ¬ (q = 6 ∨ q = 7) → ¬ (10 ≤ q ∧ q ≤ 14) → ¬ (28 ≤ q ∧ q ≤ 30) → (D_put J i nm v).2 q = J q := fun q a b c => fr_D_put q (by omega)
  have fl : ∀ q, ¬ q = 36 → ¬ (43 ≤ q ∧ q ≤ 48) → ¬ (55 ≤ q ∧ q ≤ 57) → ¬ q = 73 → (R_put L i nm v).2 q = L q := fun q a b c d => fr_R_put q (by omega)
  have e := eq_put hJ r1 r2 (i := i) (nm := nm) (v := v)
  exact ⟨e.1, Oth_u ho ev hW e.2.1 e.2.2 (rl_B_cg2 r3 (fun q a b => fr_D_put q (by omega)) (fun q a b => fr_R_put q (by omega))) (opv_cg r6 (fr_R_put 55 (by omega)) (fr_R_put 56 (by omega))) fc fl (fun j hj => R_put_73 hj)⟩
theorem T_unbind {h : am_H} {J L : Nat → Nat → Int32} {lab : Nat → Nat} {nn cc : Nat} {i nm : Int32} (hB : am_B h) (hJ : am_ty2 J) (hL : am_ty2 L) (ho : Oth h J L nn cc) (ev : cc % 2 = 0) (hcc : cc < 2 ^ 30) (hW : am_W h J lab) : (D_unbind J i nm).1 = (R_unbind L i nm).1 ∧ Oth h (D_unbind J i nm).2 (R_unbind L i nm).2 nn (cc + 2) := by
  obtain ⟨⟨r1, r2, r3, r4⟩, r5, r6, rest⟩ := id ho
  have fc : ∀ q, ¬ (q = 6 ∨ q = 7) → ¬ (10 ≤ q ∧ q ≤ 14) → ¬ (28 ≤ q ∧ q ≤ 30) → (D_unbind J i nm).2 q = J q := fun q a b c => fr_D_unbind q (by omega)
  have fl : ∀ q, ¬ q = 36 → ¬ (43 ≤ q ∧ q ≤ 48) → ¬ (55 ≤ q ∧ q ≤ 57) → ¬ q = 73 → (R_unbind L i nm).2 q = L q := fun q a b c d => fr_R_unbind q (by omega)
  have e := eq_unbind hJ r1 r2 (i := i) (nm := nm)
  exact ⟨e.1, Oth_u ho ev hW e.2.1 e.2.2 (rl_B_cg2 r3 (fun q a b => fr_D_unbind q (by omega)) (fun q a b => fr_R_unbind q (by omega))) (opv_cg r6 (fr_R_unbind 55 (by omega)) (fr_R_unbind 56 (by omega))) fc fl (fun j hj => R_unb_73 hj)⟩
theorem T_clear {h : am_H} {J L : Nat → Nat → Int32} {lab : Nat → Nat} {nn cc : Nat} {b : Int32} (hB : am_B h) (hJ : am_ty2 J) (hL : am_ty2 L) (ho : Oth h J L nn cc) (ev : cc % 2 = 0) (hcc : cc < 2 ^ 30) (hW : am_W h J lab) : (D_clear J b).1 = (R_clear L b).1 ∧ Oth h (D_clear J b).2 (R_clear L b).2 nn (cc + 2) := by
  obtain ⟨⟨r1, r2, r3, r4⟩, r5, r6, rest⟩ := id ho
  have fc : ∀ q, ¬ (q = 6 ∨ q = 7) → ¬ (10 ≤ q ∧ q ≤ 14) → ¬ (28 ≤ q ∧ q ≤ 30) → (D_clear J b).2 q = J q := fun q a b c => fr_D_clear q (by omega)
  have fl : ∀ q, ¬ q = 36 → ¬ (43 ≤ q ∧ q ≤ 48) → ¬ (55 ≤ q ∧ q ≤ 57) → ¬ q = 73 → (R_clear L b).2 q = L q := fun q a b c d => fr_R_clear q (by omega)
  have e := eq_clear r3 (b := b)
  exact ⟨e.1, Oth_u ho ev hW (rl_C_cg2 r1 (fun q a b => fr_D_clear q (by omega)) (fun q a b => fr_R_clear q (by omega))) (rl_I_cg2 r2 (fun q a b => fr_D_clear q (by omega)) (fun q a b => fr_R_clear q (by omega)) (by rw [fr_R_clear 36 (by omega)]) (by rw [fr_R_clear 73 (by omega)])) e.2 (opv_cg r6 (fr_R_clear 55 (by omega)) (fr_R_clear 56 (by omega))) fc fl (fun j _ => by rw [fr_R_clear 73 (by omega)])⟩
theorem opv_step {J L L' : Nat → Nat → Int32} {b op a : Int32} (hJ : am_ty2 J) (r3 : rl_B J L) (r6 : opv L) (e : rl_B (D_step J b op a).2 L') : opv L' := by
  have eq9 : ∀ j, jn L 55 j = jn J 29 j := fun j => jn_e r3.2.1
  have eq9' : ∀ j, jn L' 55 j = jn (D_step J b op a).2 29 j := fun j => jn_e e.2.1
  have base : ∀ j, (jn J 29 j = 2 ∨ jn J 29 j = 3 → J 30 j = nI (jx (J 30 j)) ∧ jx (J 30 j) < 6) ∧ (jn J 29 j = 7 → J 30 j = nI (jx (J 30 j)) ∧ jx (J 30 j) < 5) := fun j => by
    have g := r6 j
    rw [eq9, ← r3.2.2] at g
    exact g
  intro j
  rw [eq9', ← e.2.2]
  unfold D_step
  by_cases z1 : w_body b
  · rw [am_ite_t z1]
    by_cases z2 : w_in op (nI 0) (nI 9)
    · rw [am_ite_t z2]
      have o1 := jx_eq (by decide) z2
      by_cases z3 : w_opd (nI (jx op)) a
      · rw [am_ite_t z3]
        dsimp only
        unfold B_append
        by_cases z4 : jn J 28 (jx b) = 8
        · rw [am_ite_t z4]; exact base j
        · rw [am_ite_f z4]
          dsimp only
          have j29 : ∀ x, jn (am_u2 (am_u2 (am_u2 J 29 ((jx b * 8) + (jn J 28 (jx b))) (nI (jx op))) 30 ((jx b * 8) + (jn J 28 (jx b))) a) 28 (jx b) (nI ((jn J 28 (jx b)) + 1))) 29 x = jn (am_u2 J 29 ((jx b * 8) + (jn J 28 (jx b))) (nI (jx op))) 29 x := fun x => jn_cg (by rw [fr_u (by decide), fr_u (by decide)])
          rw [j29, fr_u (q := 30) (by decide)]
          by_cases zj : j = (jx b * 8) + (jn J 28 (jx b))
          · rw [zj, am_u2_s]
            have jo : jn (am_u2 J 29 ((jx b * 8) + (jn J 28 (jx b))) (nI (jx op))) 29 ((jx b * 8) + (jn J 28 (jx b))) = jx op := by
              show (am_u2 J 29 _ _ 29 _).toNatClampNeg = _
              rw [am_u2_s]; exact nI_clamp (by omega)
            rw [jo]
            unfold w_opd at z3
            refine ⟨fun q => ?_, fun q => ?_⟩
            · have wn : w_in a (nI 0) (nI 5) := by
                rcases q with q | q
                · rw [q, am_ite_t rfl] at z3; exact z3
                · rw [q, am_ite_f (by decide), am_ite_t rfl] at z3; exact z3
              have g := jx_eq (by decide) wn
              exact ⟨g.1, by omega⟩
            · have wn : w_in a (nI 0) (nI 4) := by
                rw [q, am_ite_f (by decide), am_ite_f (by decide), am_ite_t rfl] at z3; exact z3
              have g := jx_eq (by decide) wn
              exact ⟨g.1, by omega⟩
          · have jo : jn (am_u2 J 29 ((jx b * 8) + (jn J 28 (jx b))) (nI (jx op))) 29 j = jn J 29 j := by
              show (am_u2 J 29 _ _ 29 _).toNatClampNeg = _
              rw [u2_ne zj]; rfl
            rw [jo, u2_ne zj, fr_u (by decide)]
            exact base j
      · rw [am_ite_f z3]; exact base j
    · rw [am_ite_f z2]; exact base j
  · rw [am_ite_f z1]; exact base j
theorem T_step {h : am_H} {J L : Nat → Nat → Int32} {lab : Nat → Nat} {nn cc : Nat} {b op x : Int32} (hB : am_B h) (hJ : am_ty2 J) (hL : am_ty2 L) (ho : Oth h J L nn cc) (ev : cc % 2 = 0) (hcc : cc < 2 ^ 30) (hW : am_W h J lab) : (D_step J b op x).1 = (R_step L b op x).1 ∧ Oth h (D_step J b op x).2 (R_step L b op x).2 nn (cc + 2) := by
  obtain ⟨⟨r1, r2, r3, r4⟩, r5, r6, rest⟩ := id ho
  have fc : ∀ q, ¬ (q = 6 ∨ q = 7) → ¬ (10 ≤ q ∧ q ≤ 14) → ¬ (28 ≤ q ∧ q ≤ 30) → (D_step J b op x).2 q = J q := fun q a b c => fr_D_step q (by omega)
  have fl : ∀ q, ¬ q = 36 → ¬ (43 ≤ q ∧ q ≤ 48) → ¬ (55 ≤ q ∧ q ≤ 57) → ¬ q = 73 → (R_step L b op x).2 q = L q := fun q a b c d => fr_R_step q (by omega)
  have e := eq_step r3 (b := b) (op := op) (a := x)
  exact ⟨e.1, Oth_u ho ev hW (rl_C_cg2 r1 (fun q a b => fr_D_step q (by omega)) (fun q a b => fr_R_step q (by omega))) (rl_I_cg2 r2 (fun q a b => fr_D_step q (by omega)) (fun q a b => fr_R_step q (by omega)) (by rw [fr_R_step 36 (by omega)]) (by rw [fr_R_step 73 (by omega)])) e.2 (opv_step hJ r3 r6 e.2) fc fl (fun j _ => by rw [fr_R_step 73 (by omega)])⟩
