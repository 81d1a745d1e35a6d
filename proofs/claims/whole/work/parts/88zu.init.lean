/-! At the start, all that is kept holds. -/
theorem zr {xs : Nat → Int32} {q : Nat} (h0 : ¬ q = 0) (h2 : ¬ q = 2) (h3 : ¬ q = 3) (h5 : ¬ q = 5) (h17 : ¬ q = 17) (h33 : ¬ q = 33) (h37 : ¬ q = 37) (h40 : ¬ q = 40) (h50 : ¬ q = 50) (h38 : ¬ q = 38) : Z9 xs q = fun _ => 0 := by
  unfold Z9 Z8 Z7 Z6 Z5 Z4 Z3 Z2 Z1 fil
  rw [fr_r h38, fr_r h50, fr_u h40, fr_u h37, fr_u h33, fr_r h17, fr_u h5, fr_r h3, fr_u h2]
  exact if_neg h0
theorem z3 {xs : Nat → Int32} {j : Nat} (hj : j < 36) : Z9 xs 3 j = -1 := by
  unfold Z9 Z8 Z7 Z6 Z5 Z4 Z3 Z2 fil
  rw [fr_r (by decide), fr_r (by decide), fr_u (by decide), fr_u (by decide), fr_u (by decide), fr_r (by decide), fr_u (by decide)]
  show (if 3 = 3 then (if j < 36 then (-1 : Int32) else 0) else _) = -1
  rw [if_pos rfl, if_pos hj]
theorem z33 {xs : Nat → Int32} : Z9 xs 3 = Z9 xs 38 := funext fun j => by
  have a : Z9 xs 3 j = if j < 36 then (-1 : Int32) else 0 := by
    unfold Z9 Z8 Z7 Z6 Z5 Z4 Z3 Z2 fil
    rw [fr_r (by decide), fr_r (by decide), fr_u (by decide), fr_u (by decide), fr_u (by decide), fr_r (by decide), fr_u (by decide)]
    exact if_pos rfl
  have b : Z9 xs 38 j = if j < 36 then (-1 : Int32) else 0 := by
    unfold Z9 fil
    exact if_pos rfl
  rw [a, b]
theorem z17 {xs : Nat → Int32} {j : Nat} : Z9 xs 17 j = if j < 16 then (-1 : Int32) else 0 := by
  unfold Z9 Z8 Z7 Z6 Z5 Z4 fil
  rw [fr_r (by decide), fr_r (by decide), fr_u (by decide), fr_u (by decide), fr_u (by decide)]
  exact if_pos rfl
theorem z50 {xs : Nat → Int32} {j : Nat} : Z9 xs 50 j = if j < 16 then (-1 : Int32) else 0 := by
  unfold Z9 Z8 fil
  rw [fr_r (by decide)]
  exact if_pos rfl
theorem z5 {xs : Nat → Int32} {j : Nat} : Z9 xs 5 j = if j = 0 then nI 1 else 0 := by
  unfold Z9 Z8 Z7 Z6 Z5 Z4 Z3 fil
  rw [fr_r (by decide), fr_r (by decide), fr_u (by decide), fr_u (by decide), fr_u (by decide), fr_r (by decide)]
  by_cases z : j = 0
  · rw [z, am_u2_s, if_pos rfl]
  · rw [u2_ne z, if_neg z]
    unfold Z2 Z1 fil
    rw [fr_r (by decide), fr_u (by decide)]
    exact congrFun (if_neg (by decide) : Z0 xs 5 = fun _ => 0) j
theorem z40 {xs : Nat → Int32} {j : Nat} : Z9 xs 40 j = if j = 0 then nI 1 else 0 := by
  unfold Z9 Z8 Z7 fil
  rw [fr_r (by decide), fr_r (by decide)]
  by_cases z : j = 0
  · rw [z, am_u2_s, if_pos rfl]
  · rw [u2_ne z, if_neg z]
    unfold Z6 Z5 Z4 Z3 Z2 Z1 fil
    rw [fr_u (by decide), fr_u (by decide), fr_r (by decide), fr_u (by decide), fr_r (by decide), fr_u (by decide)]
    exact congrFun (if_neg (by decide) : Z0 xs 40 = fun _ => 0) j
theorem z37 {xs : Nat → Int32} {j : Nat} : Z9 xs 37 j = if j = 0 then nI 1 else 0 := by
  unfold Z9 Z8 Z7 Z6 fil
  rw [fr_r (by decide), fr_r (by decide), fr_u (by decide)]
  by_cases z : j = 0
  · rw [z, am_u2_s, if_pos rfl]
  · rw [u2_ne z, if_neg z]
    unfold Z5 Z4 Z3 Z2 Z1 fil
    rw [fr_u (by decide), fr_r (by decide), fr_u (by decide), fr_r (by decide), fr_u (by decide)]
    exact congrFun (if_neg (by decide) : Z0 xs 37 = fun _ => 0) j
theorem z33j {xs : Nat → Int32} {j : Nat} (hj : ¬ j = 13) : Z9 xs 33 j = 0 := by
  unfold Z9 Z8 Z7 Z6 Z5 fil
  rw [fr_r (by decide), fr_r (by decide), fr_u (by decide), fr_u (by decide), u2_ne hj]
  unfold Z4 Z3 Z2 Z1 fil
  rw [fr_r (by decide), fr_u (by decide), fr_r (by decide), fr_u (by decide)]
  exact congrFun (if_neg (by decide) : Z0 xs 33 = fun _ => 0) j
theorem z2 {xs : Nat → Int32} : Z9 xs 2 5 = nI 1 := by
  unfold Z9 Z8 Z7 Z6 Z5 Z4 Z3 Z2 Z1 fil
  rw [fr_r (by decide), fr_r (by decide), fr_u (by decide), fr_u (by decide), fr_u (by decide), fr_r (by decide), fr_u (by decide), fr_r (by decide), am_u2_s]
theorem zz {xs : Nat → Int32} {q : Nat} (hq : decide (¬ q = 0 ∧ ¬ q = 2 ∧ ¬ q = 3 ∧ ¬ q = 5 ∧ ¬ q = 17 ∧ ¬ q = 33 ∧ ¬ q = 37 ∧ ¬ q = 40 ∧ ¬ q = 50 ∧ ¬ q = 38) = true) : Z9 xs q = fun _ => 0 := by
  have h := of_decide_eq_true hq
  exact zr h.1 h.2.1 h.2.2.1 h.2.2.2.1 h.2.2.2.2.1 h.2.2.2.2.2.1 h.2.2.2.2.2.2.1 h.2.2.2.2.2.2.2.1 h.2.2.2.2.2.2.2.2.1 h.2.2.2.2.2.2.2.2.2
theorem Z_ty {xs : Nat → Int32} : am_ty2 (Z9 xs) := by
  have p1 : ∀ t ∈ am_tn, 0 < t.2 ∧ ((t.1 = 5 ∨ t.1 = 37 ∨ t.1 = 40) → 1 < t.2) ∧ ((t.1 = 5 ∨ t.1 = 37 ∨ t.1 = 40) ∨ (¬ t.1 = 0 ∧ ¬ t.1 = 2 ∧ ¬ t.1 = 3 ∧ ¬ t.1 = 5 ∧ ¬ t.1 = 17 ∧ ¬ t.1 = 33 ∧ ¬ t.1 = 37 ∧ ¬ t.1 = 40 ∧ ¬ t.1 = 50 ∧ ¬ t.1 = 38)) := by decide
  have p2 : ∀ t ∈ am_tm, 0 < t.2 ∧ ((t.1 = 3 ∨ t.1 = 17 ∨ t.1 = 38 ∨ t.1 = 50) ∨ (¬ t.1 = 0 ∧ ¬ t.1 = 2 ∧ ¬ t.1 = 3 ∧ ¬ t.1 = 5 ∧ ¬ t.1 = 17 ∧ ¬ t.1 = 33 ∧ ¬ t.1 = 37 ∧ ¬ t.1 = 40 ∧ ¬ t.1 = 50 ∧ ¬ t.1 = 38)) := by decide
  have p3 : ∀ t ∈ am_tf, 0 < t.2.2 ∧ ((t.1 = 33 ∧ ¬ t.2.1 = 13) ∨ (¬ t.1 = 0 ∧ ¬ t.1 = 2 ∧ ¬ t.1 = 3 ∧ ¬ t.1 = 5 ∧ ¬ t.1 = 17 ∧ ¬ t.1 = 33 ∧ ¬ t.1 = 37 ∧ ¬ t.1 = 40 ∧ ¬ t.1 = 50 ∧ ¬ t.1 = 38)) := by decide
  have oz : ∀ {B : Nat} {x : Int32} {j : Nat}, 1 < B → (x = if j = 0 then nI 1 else 0) → ∃ n, n < B ∧ x = nI n := fun {B x j} hB e => by
    by_cases z : j = 0
    · rw [if_pos z] at e; exact ⟨1, hB, e⟩
    · rw [if_neg z] at e; exact ⟨0, by omega, e⟩
  have mz : ∀ {B N : Nat} {x : Int32} {j : Nat}, 0 < B → (x = if j < N then (-1 : Int32) else 0) → x = -1 ∨ ∃ n, n < B ∧ x = nI n := fun {B N x j} hB e => by
    by_cases z : j < N
    · rw [if_pos z] at e; exact Or.inl e
    · rw [if_neg z] at e; exact Or.inr ⟨0, hB, e⟩
  refine ⟨fun t ht j => ?_, fun t ht j => ?_, fun t ht => ?_⟩
  · obtain ⟨a, b, c⟩ := p1 t ht
    rcases c with c | c
    · have b := b c
      rcases c with c | c | c
      · rw [c]; exact oz b z5
      · rw [c]; exact oz b z37
      · rw [c]; exact oz b z40
    · exact ⟨0, a, congrFun (zz (decide_eq_true c)) j⟩
  · obtain ⟨a, c⟩ := p2 t ht
    rcases c with c | c
    · have e3 : Z9 xs 38 j = if j < 36 then (-1 : Int32) else 0 := by
        unfold Z9 fil
        exact if_pos rfl
      rcases c with c | c | c | c
      · rw [c, z33]; exact mz a e3
      · rw [c]; exact mz a z17
      · rw [c]; exact mz a e3
      · rw [c]; exact mz a z50
    · exact Or.inr ⟨0, a, congrFun (zz (decide_eq_true c)) j⟩
  · obtain ⟨a, c⟩ := p3 t ht
    rcases c with c | c
    · rw [c.1]; exact ⟨0, a, z33j c.2⟩
    · exact ⟨0, a, congrFun (zz (decide_eq_true c)) _⟩
theorem Z_B {L : Nat} {xs : Nat → Int32} : am_B (hb L 74 6723 (Z9 xs) 81) := by
  refine ⟨Nat.le_refl 74, fun q a b => b_sh (decide_eq_true ⟨a, b⟩), ?_⟩
  show ∀ t ∈ am_bp, hP 81 t.1 t.2.1 = some t.2.2
  decide
theorem Z_p {L : Nat} {xs : Nat → Int32} {q j : Nat} (h : (am_po.take 81).all (fun t => !(t.1 == q)) = true) : am_P (hb L 74 6723 (Z9 xs) 81) q j = none := hP_o (fun t ht z => by
  have g := List.all_eq_true.mp h t ht
  rw [z.1] at g
  simp at g)
theorem Z_dir {xs : Nat → Int32} {d e : Nat} (hd : d < 12) : ¬ dir (Z9 xs 3) d e := by
  rintro ⟨k, hk, n, _⟩
  exact n (z3 (by omega))
theorem Z_Rea {xs : Nat → Int32} {x : Nat} (h : Rea (Z9 xs 3) 0 x) : x = 0 := h (fun y => y = 0) rfl (fun y e p q => by
  rw [p] at q
  exact absurd q (Z_dir (by decide)))
theorem Z_Cv {xs : Nat → Int32} : Cv (Z9 xs) := by
  refine ⟨fun d e hd q => absurd q (Z_dir hd), fun d e hd q => absurd q (Z_dir hd), fun d hd n => ?_⟩
  have hA : tyA (Z9 xs 3) := ty_A Z_ty (by decide)
  have d0 : d = 0 := Classical.byContradiction (fun z => n (by
    show (Z9 xs 5 d).toNatClampNeg = 0
    rw [z5, if_neg z]; rfl))
  rw [d0]
  have j5 : jn (Z9 xs) 5 0 = 1 := by
    show (Z9 xs 5 0).toNatClampNeg = 1
    rw [z5, if_pos rfl]; rfl
  have j4 : (fun i => jn (Z9 xs) 4 (12 * 0 + i)) = fun _ => 0 := funext fun i => by
    show (Z9 xs 4 (12 * 0 + i)).toNatClampNeg = 0
    rw [zz (by decide)]; rfl
  rw [j5, j4]
  have one : ∀ K : Nat → Nat → Int32, K 3 = Z9 xs 3 → (C_draw K 0).1 = nI 1 := fun K e => by
    have ab := above_c (J := K) (by rw [e]; exact hA) (show 0 < 12 by decide)
    unfold C_draw
    have z : (C_above K 0) &&& (((nI 1) <<< ((nI 0) &&& 31)) ^^^ ((-1))) = 0 := hs_0 (fun x q => by
      rw [hs_clr (by decide), ab, e] at q
      exact q.2 (Z_Rea q.1))
    rw [z, C_dw, am_ite_t rfl]
  rcases dr_or hA (show 0 < 12 by decide) (fun e r q => Z_dir (by rw [Z_Rea r]; decide) q) with ⟨n', r, D⟩ | D
  · have e1 := (D.2.2.2.1 (Z9 xs) rfl).1
    rw [one _ rfl] at e1
    have := D.1
    have en : 1 = n' := (nI_eq (by decide) (by omega)).mp e1
    subst en
    refine Dr_r D (fun i hi => ?_)
    exact (Z_Rea ((D.2.2.1 (r i)).mpr ⟨i, hi, rfl⟩)).symm
  · have e1 := D.1 (Z9 xs) rfl
    rw [one _ rfl] at e1
    exact absurd ((nI_eq (by decide) (by decide)).mp e1) (by decide)
theorem Z_cn0 {p : Nat → Prop} : ∀ n, (∀ i, i < n → ¬ p i) → cn_of p n = 0 := by
  intro n
  induction n with
  | zero => intro _; rfl
  | succ n ih => intro h; rw [cn_f (h n (Nat.lt_succ_self n))]; exact ih (fun i hi => h i (by omega))
theorem Z_Oth {L : Nat} {xs : Nat → Int32} : Oth (hb L 74 6723 (Z9 xs) 81) (Z9 xs) (Z9 xs) 0 0 := by
  have n23 : ∀ k, am_P (hb L 74 6723 (Z9 xs) 81) 23 k = none := fun k => Z_p (by decide)
  have c : ∀ q j, decide (¬ q = 0 ∧ ¬ q = 2 ∧ ¬ q = 3 ∧ ¬ q = 5 ∧ ¬ q = 17 ∧ ¬ q = 33 ∧ ¬ q = 37 ∧ ¬ q = 40 ∧ ¬ q = 50 ∧ ¬ q = 38) = true → Z9 xs q j = 0 := fun q j h => congrFun (zz h) j
  have e2 : ∀ q q', decide (¬ q = 0 ∧ ¬ q = 2 ∧ ¬ q = 3 ∧ ¬ q = 5 ∧ ¬ q = 17 ∧ ¬ q = 33 ∧ ¬ q = 37 ∧ ¬ q = 40 ∧ ¬ q = 50 ∧ ¬ q = 38) = true → decide (¬ q' = 0 ∧ ¬ q' = 2 ∧ ¬ q' = 3 ∧ ¬ q' = 5 ∧ ¬ q' = 17 ∧ ¬ q' = 33 ∧ ¬ q' = 37 ∧ ¬ q' = 40 ∧ ¬ q' = 50 ∧ ¬ q' = 38) = true → Z9 xs q = Z9 xs q' := fun q q' h h' => by rw [zz h, zz h']
  have jz : ∀ q j, decide (¬ q = 0 ∧ ¬ q = 2 ∧ ¬ q = 3 ∧ ¬ q = 5 ∧ ¬ q = 17 ∧ ¬ q = 33 ∧ ¬ q = 37 ∧ ¬ q = 40 ∧ ¬ q = 50 ∧ ¬ q = 38) = true → jn (Z9 xs) q j = 0 := fun q j h => by
    show (Z9 xs q j).toNatClampNeg = 0
    rw [zz h]; rfl
  have j1 : ∀ q x, (Z9 xs q x = if x = 0 then nI 1 else 0) → (jn (Z9 xs) q x = 1 ↔ x = 0) ∧ (jn (Z9 xs) q x = 0 ↔ ¬ x = 0) := fun q x e => by
    by_cases z : x = 0
    · have : jn (Z9 xs) q x = 1 := by
        show (Z9 xs q x).toNatClampNeg = 1
        rw [e, if_pos z]; rfl
      omega
    · have : jn (Z9 xs) q x = 0 := by
        show (Z9 xs q x).toNatClampNeg = 0
        rw [e, if_neg z]; rfl
      omega
  refine ⟨⟨⟨e2 6 43 (by decide) (by decide), e2 7 44 (by decide) (by decide), funext fun j => by rw [z5, z40], e2 4 39 (by decide) (by decide), z33, fun x => ?_⟩, ⟨e2 11 45 (by decide) (by decide), e2 12 46 (by decide) (by decide), e2 13 47 (by decide) (by decide), e2 14 48 (by decide) (by decide), by rw [c 10 5 (by decide), c 36 37 (by decide)], by rw [c 10 6 (by decide), c 73 7 (by decide)], fun i n _ _ => ?_, fun i _ => ⟨c 12 i (by decide), c 13 i (by decide)⟩⟩, ⟨e2 28 57 (by decide) (by decide), e2 29 55 (by decide) (by decide), e2 30 56 (by decide) (by decide)⟩, ⟨⟨e2 16 49 (by decide) (by decide), funext fun j => by rw [z17, z50], e2 18 51 (by decide) (by decide), e2 19 52 (by decide) (by decide), e2 21 54 (by decide) (by decide)⟩, fun m hm g hg q => ?_, fun m m' hm hm' q => ?_, ?_⟩⟩, ⟨c 73 3 (by decide), c 31 3 (by decide), jz 31 2 (by decide), fun k hk => absurd hk (by rw [Nat.zero_min]; exact Nat.not_lt_zero k)⟩, fun j => ⟨fun q => ?_, fun q => ?_⟩, ⟨?_, ?_⟩, ⟨fun g hg => ⟨0, Nat.le_refl 0, c 24 g (by decide), fun k hk e q => ?_⟩, fun g hg k hk => ?_, fun g hg => ?_, fun g c1 c2 e u _ _ _ q => ?_⟩, by rw [c 22 7 (by decide), c 73 5 (by decide)], by rw [c 1 7 (by decide), c 73 8 (by decide)], ?_, fun q => absurd q (by decide)⟩
  · rw [(j1 37 x z37).1, (j1 5 x z5).2]
    exact ⟨fun a b => b a, fun a => Classical.byContradiction a⟩
  · rw [c 13 i (by decide)]
    exact hs_0 (fun d q => hs_z (hs_and.mp q).1)
  · rw [z17, if_pos hm] at q
    exact absurd q (nI_m1 (by omega))
  · rw [z17, if_pos hm] at q
    exact absurd rfl q
  · rw [c 15 6 (by decide), Z_cn0 16 (fun i hi q => q (by rw [z17, if_pos hi]))]
    rfl
  · rw [jz 55 j (by decide)] at q
    omega
  · rw [jz 55 j (by decide)] at q
    omega
  · exact Nat.le_trans (Nat.le_refl 74) (by omega)
  · exact Nat.le_trans (show 6723 ≤ 20000 by decide) (by omega)
  · rw [n23] at q; cases q
  · rw [jz 58 _ (by decide)]
    exact ⟨fun q => absurd q (by decide), fun ⟨e, q, _⟩ => by rw [n23] at q; cases q⟩
  · rw [c 25 g (by decide), Z_cn0 144 (fun i hi q => by rw [jz 58 _ (by decide)] at q; exact absurd q (by decide))]
    rfl
  · rw [n23] at q; cases q
  · rw [z2]
    refine congrArg nI ?_
    have g := cn_set (p := fun _ => False) (q := fun x => ¬ jn (Z9 xs) 37 x = 0) (j := 0) (fun q => q) (by
      show ¬ jn (Z9 xs) 37 0 = 0
      rw [(j1 37 0 z37).2]
      exact fun q => q rfl) 12 (by decide) (fun i _ ni => by
      show False ↔ ¬ jn (Z9 xs) 37 i = 0
      rw [(j1 37 i z37).2]
      exact ⟨fun q => q.elim, fun q => q ni⟩)
    rw [g, Z_cn0 12 (fun i _ q => q)]
theorem Z_Inv {L : Nat} {xs : Nat → Int32} : Inv (hb L 74 6723 (Z9 xs) 81) (Z9 xs) 0 0 := by
  have n23 : ∀ k, am_P (hb L 74 6723 (Z9 xs) 81) 23 k = none := fun k => Z_p (by decide)
  have n34 : ∀ k, am_P (hb L 74 6723 (Z9 xs) 81) 34 k = none := fun k => Z_p (by decide)
  have n35 : ∀ k, am_P (hb L 74 6723 (Z9 xs) 81) 35 k = none := fun k => Z_p (by decide)
  refine ⟨fun _ => 0, ⟨⟨Z_B, Z_ty, Z_ty, fun k _ e q => ?_, fun l _ w q => ?_, fun i _ f q => ?_⟩, Z_Oth, ?_, ?_⟩, Z_Cv, rfl⟩
  · rw [n23] at q; cases q
  · rw [n34] at q; cases q
  · rw [n35] at q; cases q
  · rw [z33j (by decide), zz (q := 73) (by decide)]
  · rw [z33j (by decide), zz (q := 73) (by decide)]
theorem Z_vh {L : Nat} {xs : Nat → Int32} : am_vh (hb L 74 6723 (Z9 xs) 81) := by
  refine ⟨by show 0 < 74; decide, fun k j q hq => ?_⟩
  have hq : hP 81 k j = some q := hq
  unfold hP at hq
  obtain ⟨t, ht, e⟩ := Option.map_eq_some_iff.mp hq
  have m := List.mem_of_find?_eq_some ht
  have b : ∀ t ∈ am_po.take 81, t.2.2 < 74 := by decide
  rw [← e]
  exact b t m
theorem h0_hb {L : Nat} {xs : Nat → Int32} : ((1, 0, fun _ => (1, 0, L), fun k => if k = 0 then xs else fun _ => 0, fun _ _ => none) : am_H) = hb L 1 0 (Z0 xs) 0 := by
  have e : (fun _ => (1, 0, L) : Nat → am_S) = fun q => if 0 < q ∧ q < 1 then am_bs.getD q (9, 0, 0) else (1, 0, L) := funext fun q => by rw [if_neg (by omega)]
  rw [e]
  rfl
set_option maxRecDepth 20000 in
theorem am_law0 {L : Nat} {xs : Nat → Int32} (hL : L ≤ 3072) : am_wp (11, 434) 0 0 [some (.ref 0), none, none, none] [] (1, 0, fun _ => (1, 0, L), fun k => if k = 0 then xs else fun _ => 0, fun _ _ => none) (fun r h' => r = some (.int 1) ∧ am_n h' ≤ 600001 ∧ am_sl h' ≤ 7302250) := by
  rw [h0_hb]
  refine c_new (n1 := 2) (s1 := 8) k0_0 (by decide) rfl rfl rfl rfl rfl ?_
  refine r_dup rfl k0_3 ?_
  refine j_call (ml := 1) k0_4 rfl (by decide) (by decide) ⟨Nat.le_of_ble_eq_true rfl, Nat.le_of_ble_eq_true rfl, b_ob rfl, Nat.le_of_ble_eq_true rfl⟩ rfl (rest := [.ref 1]) rfl (c_1 (by decide) (by decide)) (fun r h1 hq => ?_)
  obtain ⟨rfl, rfl⟩ := hq
  show am_wp _ _ _ [some (.ref 0), none, none, none] [.ref 1] _ _
  refine r_astore (L' := [some (.ref 0), some (.ref 1), none, none]) k0_7 (Nat.le_of_ble_eq_true rfl) rfl ?_
  refine c_new (n1 := 37) (s1 := 1765) k0_8 (by decide) rfl rfl rfl rfl rfl ?_
  refine r_dup rfl k0_11 ?_
  refine j_call (ml := 2) k0_12 rfl (by decide) (by decide) ⟨Nat.le_of_ble_eq_true rfl, Nat.le_of_ble_eq_true rfl, b_ob rfl, Nat.le_of_ble_eq_true rfl⟩ rfl (rest := [.ref 36]) rfl (c_30 (by decide) (by decide)) (fun r h1 hq => ?_)
  obtain ⟨rfl, rfl⟩ := hq
  show am_wp _ _ _ [some (.ref 0), some (.ref 1), none, none] [.ref 36] _ _
  refine r_astore (L' := [some (.ref 0), some (.ref 1), some (.ref 36), none]) k0_15 (Nat.le_of_ble_eq_true rfl) rfl ?_
  refine r_pushn (v := nI 0) k0_16 rfl ?_
  refine r_istore (L' := [some (.ref 0), some (.ref 1), some (.ref 36), some (.int (nI (6 * 0)))]) k0_17 (Nat.le_of_ble_eq_true rfl) rfl ?_
  exact law_lp (n := L) hL (fun h K hR => ⟨rfl, R_room hR⟩) L 0 (hb L 74 6723 (Z9 xs) 81) (Z9 xs) 0 0 (by omega) (by omega) Z_Inv (by omega) (by omega) Z_vh rfl
