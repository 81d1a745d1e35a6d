/-! What findAnew leaves: the methods in their order. -/
theorem K_ak_enm {e u kind s0 B : Nat} (hne : ¬ e = u) (h74 : 74 ≤ e) (h75 : 74 ≤ u) (hB9 : B ≤ 16) : ∀ m k J, k + m = 16 → ef_ok J e u → cz J e kind k B → s0 ≤ jn J e 1 → (∀ m m', m < 16 → m' < 16 → ¬ m = m' → 0 ≤ J 26 m → 0 ≤ J 26 m' → jn J 18 m = kind → jn J 18 m' = kind → ¬ J 26 m = J 26 m') → enm (fun i => jn J u i) s0 (jn J e 1) (fun m => m < k ∧ 0 ≤ J 26 m ∧ jn J 18 m = kind) (ltk (J 26) kind) → enm (fun i => jn (K_ak e u kind s0 m k J) u i) s0 (jn (K_ak e u kind s0 m k J) e 1) (fun m => m < 16 ∧ 0 ≤ J 26 m ∧ jn J 18 m = kind) (ltk (J 26) kind) ∧ ∀ i, i < s0 → K_ak e u kind s0 m k J u i = J u i := by
  intro m
  induction m with
  | zero =>
    intro k J hk hc0 hc1 hc2 hd he
    rw [K_ak]
    have ek : k = 16 := by omega
    subst ek
    exact ⟨he, fun _ _ => rfl⟩
  | succ m ih =>
    intro k J hk hc0 hc1 hc2 hd he
    rw [K_ak]
    have skip : (¬ (0 ≤ J 26 k ∧ jn J 18 k = kind)) → enm (fun i => jn (K_ak e u kind s0 m (k + 1) J) u i) s0 (jn (K_ak e u kind s0 m (k + 1) J) e 1) (fun m => m < 16 ∧ 0 ≤ J 26 m ∧ jn J 18 m = kind) (ltk (J 26) kind) ∧ ∀ i, i < s0 → K_ak e u kind s0 m (k + 1) J u i = J u i := fun hz => ih (k + 1) J (by omega) hc0 (cz_sk hc1) hc2 hd (enm_P he (fun x => ⟨fun q => ⟨by
      have := q.1
      have : ¬ x = k := fun z => hz (by rw [← z]; exact q.2)
      omega, q.2⟩, fun q => ⟨by omega, q.2⟩⟩))
    by_cases z1 : J 26 k < 0
    · rw [am_ite_t z1]
      exact skip (fun q => by
        have q := q.1
        rw [Int32.lt_iff_toInt_lt] at z1
        rw [Int32.le_iff_toInt_le] at q
        omega)
    · rw [am_ite_f z1]
      by_cases z35 : jn J 18 k = kind
      · rw [am_ite_t z35]
        have k0 : 0 ≤ J 26 k := by
          rw [Int32.lt_iff_toInt_lt] at z1
          rw [Int32.le_iff_toInt_le]
          omega
        have l := cz_lt hc1 hB9 (by omega) z35
        obtain ⟨p, p1, p2, p3, p4, p5⟩ := K_pf_c (J := J) (e := e) (u := u) (w := k) (s0 := s0) (kd := kind) ((jn J e 1) - s0) s0 (by omega)
        have eI : (am_ite (kind = 2) (K_ak e u kind s0 m (k + 1) (E_ins J e u k (jx (K_place J e u k s0 1)))) (K_ak e u kind s0 m (k + 1) (E_ins J e u k (jx (K_place J e u k s0 0))))) = K_ak e u kind s0 m (k + 1) (E_ins J e u k p) := by
          unfold K_place
          by_cases z2 : kind = 2
          · rw [am_ite_t z2]; rw [if_pos z2] at p3; rw [p3, jx_nI (by omega)]
          · rw [am_ite_f z2]; rw [if_neg z2] at p3; rw [p3, jx_nI (by omega)]
        rw [eI]
        -- the order around the place
        have dist : ∀ i, s0 ≤ i → i < jn J e 1 → ¬ J 26 (jn J u i) = J 26 k := fun i a b => by
          have q := he.2.1 i a b
          exact hd _ _ (hc0.2 i).2 (by omega) (fun z => absurd (show jn J u i < k from q.1) (by rw [z]; exact Nat.lt_irrefl k)) q.2.1 k0 q.2.2 z35
        have h1 : ∀ i, s0 ≤ i → i < p → ltk (J 26) kind (jn J u i) k := fun i a b => ⟨fun y => i_lene ((p4 i a b).1 y) (fun z => dist i a (by omega) z.symm), fun y => i_lele ((p4 i a b).2 y)⟩
        have h2 : ∀ i, p ≤ i → i < jn J e 1 → ltk (J 26) kind k (jn J u i) := fun i a b => by
          have hp : ltk (J 26) kind k (jn J u p) := ⟨fun y => i_lele ((p5 (by omega)).1 y), fun y => i_lene ((p5 (by omega)).2 y) (fun z => dist p p1 (by omega) z.symm)⟩
          by_cases z : i = p
          · rw [z]; exact hp
          · exact ltk_tr hp (he.2.2.2 p i p1 (by omega) b)
        have g := E_in_e (w := k) (p := p) hne ((jn J e 1) - p) J l
        have gu := E_in_u (w := k) (p := p) hne ((jn J e 1) - p) J (fun j => (hc0.2 j).1)
        have fr := fr_E_ins (J := J) (e := e) (u := u) (w := k) (p := p)
        have f26 : E_ins J e u k p 26 = J 26 := fr 26 (by omega)
        have f18 : E_ins J e u k p 18 = J 18 := fr 18 (by omega)
        have g1 : jn (E_ins J e u k p) e 1 = jn J e 1 + 1 := g.1
        have en : enm (fun i => jn (E_ins J e u k p) u i) s0 (jn (E_ins J e u k p) e 1) (fun m => m < k + 1 ∧ 0 ≤ J 26 m ∧ jn J 18 m = kind) (ltk (J 26) kind) := by
          rw [g1]
          refine enm_ins he p1 p2 h1 h2 (fun i a b => ?_) ?_ (fun i a b => ?_) (fun x => ?_)
          · show (E_in e u k p ((jn J e 1) - p) J u i).toNatClampNeg = _
            rw [(gu i).1 b]; rfl
          · show (E_in e u k p ((jn J e 1) - p) J u p).toNatClampNeg = _
            rw [(gu p).2.1 rfl]; exact nI_clamp (by omega)
          · show (E_in e u k p ((jn J e 1) - p) J u i).toNatClampNeg = _
            rw [(gu i).2.2.1 a (by omega)]; rfl
          · constructor
            · intro q
              by_cases z : x = k
              · exact Or.inr z
              · exact Or.inl ⟨by have := q.1; omega, q.2⟩
            · rintro (q | q)
              · exact ⟨by have := q.1; omega, q.2⟩
              · rw [q]; exact ⟨by omega, k0, z35⟩
        have r := ih (k + 1) (E_ins J e u k p) (by omega) (E_in_ok hne (by omega) _ _ l hc0) (cz_in hc1 (by omega) z35 g1 f18) (by omega) (fun a b c d e' f' g' h' i' => by rw [f26] at f' g' ⊢; rw [jn_cg f18] at h' i'; exact hd a b c d e' f' g' h' i') (by rw [f26]; exact enm_P en (fun x => by rw [jn_cg f18]))
        rw [f26] at r
        refine ⟨enm_P r.1 (fun x => by rw [jn_cg f18]), fun i hi => (r.2 i hi).trans ((gu i).1 (by omega))⟩
      · rw [am_ite_f z35]
        exact skip (fun q => z35 q.2)
/-- one kind is added -/
theorem K_add_enm {J : Nat → Nat → Int32} {e u kind B : Nat} (hne : ¬ e = u) (h74 : 74 ≤ e) (h75 : 74 ≤ u) (hB9 : B ≤ 16) (hE : ef_ok J e u) (hz : cz J e kind 0 B) (hd : ∀ m m', m < 16 → m' < 16 → ¬ m = m' → 0 ≤ J 26 m → 0 ≤ J 26 m' → jn J 18 m = kind → jn J 18 m' = kind → ¬ J 26 m = J 26 m') : seg (K_add J e u kind) u (J 26) kind (jn J e 1) (jn (K_add J e u kind) e 1) ∧ (∀ i, i < jn J e 1 → K_add J e u kind u i = J u i) ∧ ef_ok (K_add J e u kind) e u ∧ jn (K_add J e u kind) e 1 ≤ B ∧ (∀ j, ¬ j = 1 → K_add J e u kind e j = J e j) ∧ ∀ q, ¬ q = e → ¬ q = u → K_add J e u kind q = J q := by
  have a := K_ak_enm (s0 := jn J e 1) hne h74 h75 hB9 16 0 J (by omega) hE hz (Nat.le_refl _) hd (enm_0 (fun m q => by have := q.1; omega))
  have b := K_ak_inv (s0 := jn J e 1) hne h74 h75 hB9 16 0 J (by omega) hE hz (Nat.le_refl _)
  have fr : ∀ q, ¬ q = e → ¬ q = u → K_add J e u kind q = J q := fun q x y => fr_K_add q (by omega)
  refine ⟨?_, a.2, b.1, b.2.1, b.2.2, fr⟩
  unfold seg
  exact enm_P a.1 (fun x => by rw [jn_cg (fr 18 (by omega) (by omega))])
theorem cn_up {J K : Nat → Nat → Int32} {e kd B B2 : Nat} (h18 : K 18 = J 18) (hs : jn K e 1 ≤ B) (hb : B + cn_of (fun i => jn J 18 i = kd) 16 ≤ B2) : cz K e kd 0 B2 := cz_0 h18 (by omega)
/-- what findAnew leaves in the effective -/
theorem K_fs_cont {J : Nat → Nat → Int32} {e u : Nat} (hne : ¬ e = u) (h74 : 74 ≤ e) (h75 : 74 ≤ u) (hE : ef_ok J e u) (hd : ∀ kd m m', m < 16 → m' < 16 → ¬ m = m' → 0 ≤ J 26 m → 0 ≤ J 26 m' → jn J 18 m = kd → jn J 18 m' = kd → ¬ J 26 m = J 26 m') : cont (K_fs e u J) e u (J 26) ∧ ef_ok (K_fs e u J) e u ∧ (∀ q, ¬ q = e → ¬ q = u → K_fs e u J q = J q) ∧ K_fs e u J e 5 = J e 5 := by
  have c4 := cn_4 (f := fun i => jn J 18 i) 16
  unfold K_fs
  -- the arounds
  have q0 : ∀ q, ¬ q = e → am_u2 J e 1 (nI 0) q = J q := fun q hq => fr_u hq
  have E0 : ef_ok (am_u2 J e 1 (nI 0)) e u := ef_we hE hne (by omega)
  have s0 : jn (am_u2 J e 1 (nI 0)) e 1 = 0 := jn_u (by decide)
  have d0 : am_u2 J e 1 (nI 0) e 5 = J e 5 := u2_ne (by decide)
  have n26 : ¬ 26 = e := fun z => by omega
  have n18 : ¬ 18 = e := fun z => by omega
  have n26u : ¬ 26 = u := fun z => by omega
  have n18u : ¬ 18 = u := fun z => by omega
  have nue : ¬ u = e := fun z => hne z.symm
  generalize am_u2 J e 1 (nI 0) = A0 at *
  obtain ⟨g1, g2, g3, g4, g5, g6⟩ := K_add_enm (J := A0) (kind := 3) (B := cn_of (fun i => jn J 18 i = 3) 16) hne h74 h75 (by omega) E0 (cz_0 (J := J) (q0 18 n18) (by omega)) (fun m m' a b c d e' f' g' => by rw [q0 26 n26] at d e' ⊢; rw [jn_cg (q0 18 n18)] at f' g'; exact hd 3 m m' a b c d e' f' g')
  rw [s0, q0 26 n26] at g1
  have k0 : ∀ q, ¬ q = e → ¬ q = u → K_add A0 e u 3 q = J q := fun q a b => (g6 q a b).trans (q0 q a)
  have r5 : K_add A0 e u 3 e 5 = J e 5 := (g5 5 (by decide)).trans d0
  generalize K_add A0 e u 3 = A1 at *
  -- the befores
  have q1 : ∀ q, ¬ q = e → am_u2 A1 e 2 (nI (jn A1 e 1)) q = A1 q := fun q hq => fr_u hq
  have E1 : ef_ok (am_u2 A1 e 2 (nI (jn A1 e 1))) e u := ef_we g3 hne (g3.1 1 (by decide) (by decide)).2
  have s1 : jn (am_u2 A1 e 2 (nI (jn A1 e 1))) e 1 = jn A1 e 1 := congrArg Int32.toNatClampNeg (u2_ne (by decide))
  have t1 : am_u2 A1 e 2 (nI (jn A1 e 1)) e 2 = nI (jn A1 e 1) := am_u2_s
  have d1 : am_u2 A1 e 2 (nI (jn A1 e 1)) e 5 = A1 e 5 := u2_ne (by decide)
  have p1 := (g3.1 1 (by decide) (by decide)).2
  generalize am_u2 A1 e 2 (nI (jn A1 e 1)) = A2 at *
  have k1 : ∀ q, ¬ q = e → ¬ q = u → A2 q = J q := fun q a b => (q1 q a).trans (k0 q a b)
  obtain ⟨h1, h2, h3, h4, h5, h6⟩ := K_add_enm (J := A2) (kind := 1) (B := cn_of (fun i => jn J 18 i = 3) 16 + cn_of (fun i => jn J 18 i = 1) 16) hne h74 h75 (by omega) E1 (cn_up (J := J) (k1 18 n18 n18u) (by rw [s1]; exact g4) (Nat.le_refl _)) (fun m m' a b c d e' f' g' => by rw [k1 26 n26 n26u] at d e' ⊢; rw [jn_cg (k1 18 n18 n18u)] at f' g'; exact hd 1 m m' a b c d e' f' g')
  rw [s1, k1 26 n26 n26u] at h1
  have r5b : K_add A2 e u 1 e 5 = J e 5 := ((h5 5 (by decide)).trans d1).trans r5
  have r2 : K_add A2 e u 1 e 2 = nI (jn A1 e 1) := (h5 2 (by decide)).trans t1
  have k2 : ∀ q, ¬ q = e → ¬ q = u → K_add A2 e u 1 q = J q := fun q a b => (h6 q a b).trans (k1 q a b)
  have u2 : ∀ i, i < jn A1 e 1 → K_add A2 e u 1 u i = A1 u i := fun i hi => (h2 i (by rw [s1]; exact hi)).trans (congrFun (q1 u nue) i)
  generalize K_add A2 e u 1 = A3 at *
  -- the primaries
  have q3 : ∀ q, ¬ q = e → am_u2 A3 e 3 (nI (jn A3 e 1)) q = A3 q := fun q hq => fr_u hq
  have E3 : ef_ok (am_u2 A3 e 3 (nI (jn A3 e 1))) e u := ef_we h3 hne (h3.1 1 (by decide) (by decide)).2
  have s3 : jn (am_u2 A3 e 3 (nI (jn A3 e 1))) e 1 = jn A3 e 1 := congrArg Int32.toNatClampNeg (u2_ne (by decide))
  have t3 : am_u2 A3 e 3 (nI (jn A3 e 1)) e 3 = nI (jn A3 e 1) := am_u2_s
  have t2 : am_u2 A3 e 3 (nI (jn A3 e 1)) e 2 = nI (jn A1 e 1) := (u2_ne (by decide)).trans r2
  have d3 : am_u2 A3 e 3 (nI (jn A3 e 1)) e 5 = A3 e 5 := u2_ne (by decide)
  have p3 := (h3.1 1 (by decide) (by decide)).2
  have le1 : jn A1 e 1 ≤ jn A3 e 1 := h1.1
  generalize am_u2 A3 e 3 (nI (jn A3 e 1)) = A4 at *
  have k3 : ∀ q, ¬ q = e → ¬ q = u → A4 q = J q := fun q a b => (q3 q a).trans (k2 q a b)
  obtain ⟨i1, i2, i3, i4, i5, i6⟩ := K_add_enm (J := A4) (kind := 0) (B := cn_of (fun i => jn J 18 i = 3) 16 + cn_of (fun i => jn J 18 i = 1) 16 + cn_of (fun i => jn J 18 i = 0) 16) hne h74 h75 (by omega) E3 (cn_up (J := J) (k3 18 n18 n18u) (by rw [s3]; exact h4) (Nat.le_refl _)) (fun m m' a b c d e' f' g' => by rw [k3 26 n26 n26u] at d e' ⊢; rw [jn_cg (k3 18 n18 n18u)] at f' g'; exact hd 0 m m' a b c d e' f' g')
  rw [s3, k3 26 n26 n26u] at i1
  have r5c : K_add A4 e u 0 e 5 = J e 5 := ((i5 5 (by decide)).trans d3).trans r5b
  have r2c : K_add A4 e u 0 e 2 = nI (jn A1 e 1) := (i5 2 (by decide)).trans t2
  have r3c : K_add A4 e u 0 e 3 = nI (jn A3 e 1) := (i5 3 (by decide)).trans t3
  have k4 : ∀ q, ¬ q = e → ¬ q = u → K_add A4 e u 0 q = J q := fun q a b => (i6 q a b).trans (k3 q a b)
  have u4 : ∀ i, i < jn A3 e 1 → K_add A4 e u 0 u i = A3 u i := fun i hi => (i2 i (by rw [s3]; exact hi)).trans (congrFun (q3 u nue) i)
  generalize K_add A4 e u 0 = A5 at *
  -- the afters
  have q5 : ∀ q, ¬ q = e → am_u2 A5 e 4 (nI (jn A5 e 1)) q = A5 q := fun q hq => fr_u hq
  have E5 : ef_ok (am_u2 A5 e 4 (nI (jn A5 e 1))) e u := ef_we i3 hne (i3.1 1 (by decide) (by decide)).2
  have s5 : jn (am_u2 A5 e 4 (nI (jn A5 e 1))) e 1 = jn A5 e 1 := congrArg Int32.toNatClampNeg (u2_ne (by decide))
  have t4 : am_u2 A5 e 4 (nI (jn A5 e 1)) e 4 = nI (jn A5 e 1) := am_u2_s
  have w2 : am_u2 A5 e 4 (nI (jn A5 e 1)) e 2 = nI (jn A1 e 1) := (u2_ne (by decide)).trans r2c
  have w3 : am_u2 A5 e 4 (nI (jn A5 e 1)) e 3 = nI (jn A3 e 1) := (u2_ne (by decide)).trans r3c
  have d5 : am_u2 A5 e 4 (nI (jn A5 e 1)) e 5 = A5 e 5 := u2_ne (by decide)
  have p5 := (i3.1 1 (by decide) (by decide)).2
  have le3 : jn A3 e 1 ≤ jn A5 e 1 := i1.1
  generalize am_u2 A5 e 4 (nI (jn A5 e 1)) = A6 at *
  have k5 : ∀ q, ¬ q = e → ¬ q = u → A6 q = J q := fun q a b => (q5 q a).trans (k4 q a b)
  obtain ⟨m1, m2, m3, m4, m5, m6⟩ := K_add_enm (J := A6) (kind := 2) (B := 16) hne h74 h75 (by omega) E5 (cn_up (J := J) (k5 18 n18 n18u) (by rw [s5]; exact i4) (by omega)) (fun m m' a b c d e' f' g' => by rw [k5 26 n26 n26u] at d e' ⊢; rw [jn_cg (k5 18 n18 n18u)] at f' g'; exact hd 2 m m' a b c d e' f' g')
  rw [s5, k5 26 n26 n26u] at m1
  have k6 : ∀ q, ¬ q = e → ¬ q = u → K_add A6 e u 2 q = J q := fun q a b => (m6 q a b).trans (k5 q a b)
  have u6 : ∀ i, i < jn A5 e 1 → K_add A6 e u 2 u i = A5 u i := fun i hi => (m2 i (by rw [s5]; exact hi)).trans (congrFun (q5 u nue) i)
  have j2 : jn (K_add A6 e u 2) e 2 = jn A1 e 1 := by show (K_add A6 e u 2 e 2).toNatClampNeg = _; rw [m5 2 (by decide), w2]; exact nI_clamp (by omega)
  have j3 : jn (K_add A6 e u 2) e 3 = jn A3 e 1 := by show (K_add A6 e u 2 e 3).toNatClampNeg = _; rw [m5 3 (by decide), w3]; exact nI_clamp (by omega)
  have j4 : jn (K_add A6 e u 2) e 4 = jn A5 e 1 := by show (K_add A6 e u 2 e 4).toNatClampNeg = _; rw [m5 4 (by decide), t4]; exact nI_clamp (by omega)
  have r18 : ∀ m, jn (K_add A6 e u 2) 18 m = jn J 18 m := fun m => jn_cg (k6 18 n18 n18u)
  refine ⟨?_, m3, k6, (m5 5 (by decide)).trans (d5.trans r5c)⟩
  unfold cont
  rw [j2, j3, j4]
  unfold seg at g1 h1 i1 m1 ⊢
  have jn_of : ∀ {X Y : Nat → Nat → Int32} {i : Nat}, X u i = Y u i → jn X u i = jn Y u i := fun h => by unfold jn; rw [h]
  refine ⟨enm_a (enm_P g1 (fun m => by rw [r18, jn_cg (k0 18 n18 n18u)])) (fun i _ hi => jn_of ((u6 i (by omega)).trans ((u4 i (by omega)).trans (u2 i hi)))) (fun _ _ q => q), enm_a (enm_P h1 (fun m => by rw [r18, jn_cg (k2 18 n18 n18u)])) (fun i _ hi => jn_of ((u6 i (by omega)).trans (u4 i hi))) (fun _ _ q => q), enm_a (enm_P i1 (fun m => by rw [r18, jn_cg (k4 18 n18 n18u)])) (fun i _ hi => jn_of (u6 i hi)) (fun _ _ q => q), m1⟩
