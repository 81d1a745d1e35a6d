/-! Every operation, on one store: the class, then the reference. -/
theorem Oth_cc {h : am_H} {J J' L L' : Nat → Nat → Int32} {lab : Nat → Nat} {nn cc : Nat} (ho : Oth h J L nn cc) (hW : am_W h J lab) (hJ : ∀ q, q < 36 ∨ 74 ≤ q → J' q = J q) (hL : ∀ q, 36 ≤ q → q < 74 → L' q = L q) (ev : cc % 2 = 0) : Oth h J' L' nn cc := by
  obtain ⟨⟨r1, r2, r3, r4⟩, r5, r6, r7, r8, r9, r10, r11, r12⟩ := ho
  have j : ∀ q, q < 36 → J' q = J q := fun q a => hJ q (Or.inl a)
  refine ⟨⟨rl_C_cg2 r1 (fun q a b => j q (by omega)) (fun q a b => hL q (by omega) (by omega)), rl_I_cg2 r2 (fun q a b => j q (by omega)) (fun q a b => hL q (by omega) (by omega)) (by rw [hL 36 (by decide) (by decide)]) (by rw [hL 73 (by decide) (by decide)]), rl_B_cg2 r3 (fun q a b => j q (by omega)) (fun q a b => hL q (by omega) (by omega)), rl_M_cg r4 (by rw [j 15 (by decide)]) (fun q a b => j q (by omega)) (fun q a b => hL q (by omega) (by omega))⟩, rl_N_cg2 r5 (fun q a b => j q (by omega)) (by rw [hL 73 (by decide) (by decide)]) (hL 72 (by decide) (by decide)), opv_cg r6 (hL 55 (by decide) (by decide)) (hL 56 (by decide) (by decide)), r7, rl_K_cg r8 (fun _ => rfl) (W_he hW (fun q a => hJ q (Or.inr a))) (fun q hq => j q (by omega)) (hL 58 (by decide) (by decide)), by rw [j 22 (by decide), hL 73 (by decide) (by decide)]; exact r9, by rw [j 1 (by decide), hL 73 (by decide) (by decide)]; exact r10, ?_, fun q => by omega⟩
  rw [j 2 (by decide), r11]
  exact congrArg nI (cn_congr 12 (fun c _ => by rw [jn_cg (hL 37 (by decide) (by decide))]))
/-- between two calls -/
def Inv (h : am_H) (K : Nat → Nat → Int32) (nn cc : Nat) : Prop := ∃ lab, Fin h K K lab nn cc ∧ Cv K ∧ cc % 2 = 0
/-- one operation of the class, and the reference's beside it -/
def Op (lg : Nat) (d1 d2 : am_D) (h : am_H) (K : Nat → Nat → Int32) (nn cc mc : Nat) (Lc : am_L) (mr : Nat) (Lr : am_L) : Prop := ∃ (v : Value) (h1 : am_H) (J1 L2 : Nat → Nat → Int32) (nn' : Nat), ((lg = 0 → ∃ x, v = .int x) ∧ (lg = 1 → ∃ x, v = .long x)) ∧ nn' ≤ nn + 42200 ∧ Inv h1 L2 nn' (cc + 2) ∧ am_wp d1 mc 0 Lc [] (am_si h K) (fun r hh => r = some v ∧ hh = am_si h1 J1) ∧ (am_B h1 ∧ am_B h) ∧ am_wp d2 mr 0 Lr [] (am_si h1 J1) (fun r hh => r = some v ∧ hh = am_si h1 L2)
theorem Op_mk {lg : Nat} {d1 d2 : am_D} {h : am_H} {K J1 L2 : Nat → Nat → Int32} {nn cc mc mr : Nat} {Lc Lr : am_L} {v : Value} (hv : (lg = 0 → ∃ x, v = .int x) ∧ (lg = 1 → ∃ x, v = .long x)) (hI : Inv h K nn cc) (w1 : am_wp d1 mc 0 Lc [] (am_si h K) (fun r hh => r = some v ∧ hh = am_si h J1)) (f1 : ∀ q, 36 ≤ q → J1 q = K q) (w2 : am_wp d2 mr 0 Lr [] (am_si h J1) (fun r hh => r = some v ∧ hh = am_si h L2)) (T2 : am_ty2 L2) (f2 : ∀ q, q < 36 ∨ 74 ≤ q → L2 q = J1 q) (ho : Oth h J1 L2 nn (cc + 2)) (hV : Cv J1) (e17 : J1 33 17 = L2 73 9) (e4 : L2 73 4 = J1 33 16) : Op lg d1 d2 h K nn cc mc Lc mr Lr := by
  obtain ⟨lab, F, V, ev⟩ := hI
  have W1 : am_W h J1 lab := W_cg F.1.2.2.2 (fun q a => f1 q (by omega))
  have W2 : am_W h L2 lab := W_cg W1 (fun q a => f2 q (Or.inr a))
  have ev2 : (cc + 2) % 2 = 0 := by omega
  refine ⟨v, h, J1, L2, nn, hv, Nat.le_add_right nn _, ⟨lab, ⟨⟨F.1.1, T2, T2, W2⟩, Oth_cc ho W1 f2 (fun _ _ _ => rfl) ev2, ?_, ?_⟩, Cv_cg hV (f2 3 (Or.inl (by decide))) (f2 4 (Or.inl (by decide))) (f2 5 (Or.inl (by decide))), ev2⟩, w1, ⟨F.1.1, F.1.1⟩, w2⟩
  · rw [f2 33 (Or.inl (by decide))]; exact e17
  · rw [f2 33 (Or.inl (by decide))]; exact e4
theorem wp_x {d : am_D} {mi pc : Nat} {L : am_L} {st : List Value} {h : am_H} {v : Option Value} {X : am_H} {P : Prop} (w : am_wp d mi pc L st h (fun r hh => r = v ∧ hh = X ∧ P)) : am_wp d mi pc L st h (fun r hh => r = v ∧ hh = X) ∧ P := by
  obtain ⟨n, r, h', a, b, c, e⟩ := w
  exact ⟨⟨n, r, h', a, b, c⟩, e⟩
theorem O_slot {d1 d2 : am_D} {h : am_H} {K : Nat → Nat → Int32} {nn cc : Nat} {c nm how v : Int32} (hI : Inv h K nn cc) (hcc : cc < 2 ^ 30) (hd1 : 8 ≤ d1.1) (hw1 : 200 ≤ d1.2) (hd2 : 8 ≤ d2.1) (hw2 : 200 ≤ d2.2) : Op 0 d1 d2 h K nn cc 3 [some (.ref 1), some (.int c), some (.int nm), some (.int how), some (.int v)] 38 [some (.ref 36), some (.int c), some (.int nm), some (.int how), some (.int v)] := by
  obtain ⟨lab, F, V, ev⟩ := id hI
  obtain ⟨w1, T1⟩ := wp_x (by
    have w := s_D_slot (d := d1) F.1.1 F.1.2.1 c nm how v (by omega) (by omega)
    exact wp_mono w (fun r hh q => (⟨q.1, q.2.1, q.2.2⟩ : _ ∧ _ ∧ am_ty2 (D_slot K c nm how v).2)))
  have f1 : ∀ q, 36 ≤ q → (D_slot K c nm how v).2 q = K q := fun q a => fr_D_slot q (by omega)
  have O1 : Oth h K (D_slot K c nm how v).2 nn cc := Oth_cc F.2.1 F.1.2.2.2 (fun _ _ => rfl) (fun q a b => f1 q a) ev
  have tr0 := T_slot F.1.1 F.1.2.1 T1 O1 ev hcc F.1.2.2.2 (c := c) (nm := nm) (how := how) (v := v)
  obtain ⟨w2, T2⟩ := wp_x (by
    have w := s_R_slot (d := d2) F.1.1 T1 c nm how v (by omega) (by omega)
    exact wp_mono w (fun r hh q => (⟨q.1, q.2.1, q.2.2⟩ : _ ∧ _ ∧ am_ty2 (R_slot (D_slot K c nm how v).2 c nm how v).2)))
  rw [← tr0.1] at w2
  refine Op_mk ⟨fun _ => ⟨_, rfl⟩, fun q => absurd q (by decide)⟩ hI w1 f1 w2 T2 (fun q a => fr_R_slot q (by omega)) tr0.2 (Cv_cg V (fr_D_slot 3 (by omega)) (fr_D_slot 4 (by omega)) (fr_D_slot 5 (by omega))) ?_ ?_
  · rw [fr_D_slot 33 (by omega), fr_R_slot 73 (by omega), f1 73 (by decide)]; exact F.2.2.1
  · rw [fr_D_slot 33 (by omega), fr_R_slot 73 (by omega), f1 73 (by decide)]; exact F.2.2.2
theorem O_make {d1 d2 : am_D} {h : am_H} {K : Nat → Nat → Int32} {nn cc : Nat} {c : Int32} (hI : Inv h K nn cc) (hcc : cc < 2 ^ 30) (hd1 : 8 ≤ d1.1) (hw1 : 200 ≤ d1.2) (hd2 : 8 ≤ d2.1) (hw2 : 200 ≤ d2.2) : Op 0 d1 d2 h K nn cc 4 [some (.ref 1), some (.int c)] 43 [some (.ref 36), some (.int c), none] := by
  obtain ⟨lab, F, V, ev⟩ := id hI
  obtain ⟨w1, T1⟩ := wp_x (by
    have w := s_D_make (d := d1) F.1.1 F.1.2.1 c (by omega) (by omega)
    exact wp_mono w (fun r hh q => (⟨q.1, q.2.1, q.2.2⟩ : _ ∧ _ ∧ am_ty2 (D_make K c).2)))
  have f1 : ∀ q, 36 ≤ q → (D_make K c).2 q = K q := fun q a => fr_D_make q (by omega)
  have O1 : Oth h K (D_make K c).2 nn cc := Oth_cc F.2.1 F.1.2.2.2 (fun _ _ => rfl) (fun q a b => f1 q a) ev
  have tr0 := T_make F.1.1 F.1.2.1 T1 O1 ev hcc F.1.2.2.2 (c := c)
  obtain ⟨w2, T2⟩ := wp_x (by
    have w := s_R_make (d := d2) F.1.1 T1 c (by omega) (by omega)
    exact wp_mono w (fun r hh q => (⟨q.1, q.2.1, q.2.2⟩ : _ ∧ _ ∧ am_ty2 (R_make (D_make K c).2 c).2)))
  rw [← tr0.1] at w2
  refine Op_mk ⟨fun _ => ⟨_, rfl⟩, fun q => absurd q (by decide)⟩ hI w1 f1 w2 T2 (fun q a => fr_R_make q (by omega)) tr0.2 (Cv_cg V (fr_D_make 3 (by omega)) (fr_D_make 4 (by omega)) (fr_D_make 5 (by omega))) ?_ ?_
  · rw [fr_D_make 33 (by omega), fr_R_make 73 (by omega), f1 73 (by decide)]; exact F.2.2.1
  · rw [fr_D_make 33 (by omega), fr_R_make 73 (by omega), f1 73 (by decide)]; exact F.2.2.2
theorem O_become {d1 d2 : am_D} {h : am_H} {K : Nat → Nat → Int32} {nn cc : Nat} {i c : Int32} (hI : Inv h K nn cc) (hcc : cc < 2 ^ 30) (hd1 : 8 ≤ d1.1) (hw1 : 200 ≤ d1.2) (hd2 : 8 ≤ d2.1) (hw2 : 200 ≤ d2.2) : Op 0 d1 d2 h K nn cc 5 [some (.ref 1), some (.int i), some (.int c)] 44 [some (.ref 36), some (.int i), some (.int c)] := by
  obtain ⟨lab, F, V, ev⟩ := id hI
  obtain ⟨w1, T1⟩ := wp_x (by
    have w := s_D_become (d := d1) F.1.1 F.1.2.1 i c (by omega) (by omega)
    exact wp_mono w (fun r hh q => (⟨q.1, q.2.1, q.2.2⟩ : _ ∧ _ ∧ am_ty2 (D_become K i c).2)))
  have f1 : ∀ q, 36 ≤ q → (D_become K i c).2 q = K q := fun q a => fr_D_become q (by omega)
  have O1 : Oth h K (D_become K i c).2 nn cc := Oth_cc F.2.1 F.1.2.2.2 (fun _ _ => rfl) (fun q a b => f1 q a) ev
  have tr0 := T_become F.1.1 F.1.2.1 T1 O1 ev hcc F.1.2.2.2 (i := i) (c := c)
  obtain ⟨w2, T2⟩ := wp_x (by
    have w := s_R_become (d := d2) F.1.1 T1 i c (by omega) (by omega)
    exact wp_mono w (fun r hh q => (⟨q.1, q.2.1, q.2.2⟩ : _ ∧ _ ∧ am_ty2 (R_become (D_become K i c).2 i c).2)))
  rw [← tr0.1] at w2
  refine Op_mk ⟨fun _ => ⟨_, rfl⟩, fun q => absurd q (by decide)⟩ hI w1 f1 w2 T2 (fun q a => fr_R_become q (by omega)) tr0.2 (Cv_cg V (fr_D_become 3 (by omega)) (fr_D_become 4 (by omega)) (fr_D_become 5 (by omega))) ?_ ?_
  · rw [fr_D_become 33 (by omega), R_bec_73 (by decide), f1 73 (by decide)]; exact F.2.2.1
  · rw [fr_D_become 33 (by omega), R_bec_73 (by decide), f1 73 (by decide)]; exact F.2.2.2
theorem O_get {d1 d2 : am_D} {h : am_H} {K : Nat → Nat → Int32} {nn cc : Nat} {i nm : Int32} (hI : Inv h K nn cc) (hcc : cc < 2 ^ 30) (hd1 : 8 ≤ d1.1) (hw1 : 200 ≤ d1.2) (hd2 : 8 ≤ d2.1) (hw2 : 200 ≤ d2.2) : Op 1 d1 d2 h K nn cc 6 [some (.ref 1), some (.int i), some (.int nm), none] 47 [some (.ref 36), some (.int i), some (.int nm), none] := by
  obtain ⟨lab, F, V, ev⟩ := id hI
  obtain ⟨w1, T1⟩ := wp_x (by
    have w := s_D_get (d := d1) F.1.1 F.1.2.1 i nm (by omega) (by omega)
    exact wp_mono w (fun r hh q => (⟨q.1, q.2.1, q.2.2⟩ : _ ∧ _ ∧ am_ty2 (D_get K i nm).2)))
  have f1 : ∀ q, 36 ≤ q → (D_get K i nm).2 q = K q := fun q a => fr_D_get q (by omega)
  have O1 : Oth h K (D_get K i nm).2 nn cc := Oth_cc F.2.1 F.1.2.2.2 (fun _ _ => rfl) (fun q a b => f1 q a) ev
  have tr0 := T_get F.1.1 F.1.2.1 T1 O1 ev hcc F.1.2.2.2 (i := i) (nm := nm)
  obtain ⟨w2, T2⟩ := wp_x (by
    have w := s_R_get (d := d2) F.1.1 T1 i nm (by omega) (by omega)
    exact wp_mono w (fun r hh q => (⟨q.1, q.2.1, q.2.2⟩ : _ ∧ _ ∧ am_ty2 (R_get (D_get K i nm).2 i nm).2)))
  rw [← tr0.1] at w2
  refine Op_mk ⟨fun q => absurd q (by decide), fun _ => ⟨_, rfl⟩⟩ hI w1 f1 w2 T2 (fun q a => fr_R_get q (by omega)) tr0.2 (Cv_cg V (fr_D_get 3 (by omega)) (fr_D_get 4 (by omega)) (fr_D_get 5 (by omega))) ?_ ?_
  · rw [fr_D_get 33 (by omega), R_get_73 (by decide), f1 73 (by decide)]; exact F.2.2.1
  · rw [fr_D_get 33 (by omega), R_get_73 (by decide), f1 73 (by decide)]; exact F.2.2.2
theorem O_put {d1 d2 : am_D} {h : am_H} {K : Nat → Nat → Int32} {nn cc : Nat} {i nm v : Int32} (hI : Inv h K nn cc) (hcc : cc < 2 ^ 30) (hd1 : 8 ≤ d1.1) (hw1 : 200 ≤ d1.2) (hd2 : 8 ≤ d2.1) (hw2 : 200 ≤ d2.2) : Op 1 d1 d2 h K nn cc 7 [some (.ref 1), some (.int i), some (.int nm), some (.int v), none] 48 [some (.ref 36), some (.int i), some (.int nm), some (.int v), none] := by
  obtain ⟨lab, F, V, ev⟩ := id hI
  obtain ⟨w1, T1⟩ := wp_x (by
    have w := s_D_put (d := d1) F.1.1 F.1.2.1 i nm v (by omega) (by omega)
    exact wp_mono w (fun r hh q => (⟨q.1, q.2.1, q.2.2⟩ : _ ∧ _ ∧ am_ty2 (D_put K i nm v).2)))
  have f1 : ∀ q, 36 ≤ q → (D_put K i nm v).2 q = K q := fun q a => fr_D_put q (by omega)
  have O1 : Oth h K (D_put K i nm v).2 nn cc := Oth_cc F.2.1 F.1.2.2.2 (fun _ _ => rfl) (fun q a b => f1 q a) ev
  have tr0 := T_put F.1.1 F.1.2.1 T1 O1 ev hcc F.1.2.2.2 (i := i) (nm := nm) (v := v)
  obtain ⟨w2, T2⟩ := wp_x (by
    have w := s_R_put (d := d2) F.1.1 T1 i nm v (by omega) (by omega)
    exact wp_mono w (fun r hh q => (⟨q.1, q.2.1, q.2.2⟩ : _ ∧ _ ∧ am_ty2 (R_put (D_put K i nm v).2 i nm v).2)))
  rw [← tr0.1] at w2
  refine Op_mk ⟨fun q => absurd q (by decide), fun _ => ⟨_, rfl⟩⟩ hI w1 f1 w2 T2 (fun q a => fr_R_put q (by omega)) tr0.2 (Cv_cg V (fr_D_put 3 (by omega)) (fr_D_put 4 (by omega)) (fr_D_put 5 (by omega))) ?_ ?_
  · rw [fr_D_put 33 (by omega), R_put_73 (by decide), f1 73 (by decide)]; exact F.2.2.1
  · rw [fr_D_put 33 (by omega), R_put_73 (by decide), f1 73 (by decide)]; exact F.2.2.2
theorem O_unbind {d1 d2 : am_D} {h : am_H} {K : Nat → Nat → Int32} {nn cc : Nat} {i nm : Int32} (hI : Inv h K nn cc) (hcc : cc < 2 ^ 30) (hd1 : 8 ≤ d1.1) (hw1 : 200 ≤ d1.2) (hd2 : 8 ≤ d2.1) (hw2 : 200 ≤ d2.2) : Op 1 d1 d2 h K nn cc 8 [some (.ref 1), some (.int i), some (.int nm), none] 49 [some (.ref 36), some (.int i), some (.int nm), none, none] := by
  obtain ⟨lab, F, V, ev⟩ := id hI
  obtain ⟨w1, T1⟩ := wp_x (by
    have w := s_D_unbind (d := d1) F.1.1 F.1.2.1 i nm (by omega) (by omega)
    exact wp_mono w (fun r hh q => (⟨q.1, q.2.1, q.2.2⟩ : _ ∧ _ ∧ am_ty2 (D_unbind K i nm).2)))
  have f1 : ∀ q, 36 ≤ q → (D_unbind K i nm).2 q = K q := fun q a => fr_D_unbind q (by omega)
  have O1 : Oth h K (D_unbind K i nm).2 nn cc := Oth_cc F.2.1 F.1.2.2.2 (fun _ _ => rfl) (fun q a b => f1 q a) ev
  have tr0 := T_unbind F.1.1 F.1.2.1 T1 O1 ev hcc F.1.2.2.2 (i := i) (nm := nm)
  obtain ⟨w2, T2⟩ := wp_x (by
    have w := s_R_unbind (d := d2) F.1.1 T1 i nm (by omega) (by omega)
    exact wp_mono w (fun r hh q => (⟨q.1, q.2.1, q.2.2⟩ : _ ∧ _ ∧ am_ty2 (R_unbind (D_unbind K i nm).2 i nm).2)))
  rw [← tr0.1] at w2
  refine Op_mk ⟨fun q => absurd q (by decide), fun _ => ⟨_, rfl⟩⟩ hI w1 f1 w2 T2 (fun q a => fr_R_unbind q (by omega)) tr0.2 (Cv_cg V (fr_D_unbind 3 (by omega)) (fr_D_unbind 4 (by omega)) (fr_D_unbind 5 (by omega))) ?_ ?_
  · rw [fr_D_unbind 33 (by omega), R_unb_73 (by decide), f1 73 (by decide)]; exact F.2.2.1
  · rw [fr_D_unbind 33 (by omega), R_unb_73 (by decide), f1 73 (by decide)]; exact F.2.2.2
theorem O_generic {d1 d2 : am_D} {h : am_H} {K : Nat → Nat → Int32} {nn cc : Nat} {g n : Int32} (hI : Inv h K nn cc) (hcc : cc < 2 ^ 30) (hd1 : 8 ≤ d1.1) (hw1 : 200 ≤ d1.2) (hd2 : 8 ≤ d2.1) (hw2 : 200 ≤ d2.2) : Op 0 d1 d2 h K nn cc 9 [some (.ref 1), some (.int g), some (.int n)] 51 [some (.ref 36), some (.int g), some (.int n), none, none] := by
  obtain ⟨lab, F, V, ev⟩ := id hI
  obtain ⟨w1, T1⟩ := wp_x (by
    have w := s_D_generic (d := d1) F.1.1 F.1.2.1 g n (by omega) (by omega)
    exact wp_mono w (fun r hh q => (⟨q.1, q.2.1, q.2.2⟩ : _ ∧ _ ∧ am_ty2 (D_generic K g n).2)))
  have f1 : ∀ q, 36 ≤ q → (D_generic K g n).2 q = K q := fun q a => fr_D_generic q (by omega)
  have O1 : Oth h K (D_generic K g n).2 nn cc := Oth_cc F.2.1 F.1.2.2.2 (fun _ _ => rfl) (fun q a b => f1 q a) ev
  have tr0 := T_generic F.1.2.1 O1 ev hcc F.1.2.2.2 (g := g) (n := n)
  obtain ⟨w2, T2⟩ := wp_x (by
    have w := s_R_generic (d := d2) F.1.1 T1 g n (by omega) (by omega)
    exact wp_mono w (fun r hh q => (⟨q.1, q.2.1, q.2.2⟩ : _ ∧ _ ∧ am_ty2 (R_generic (D_generic K g n).2 g n).2)))
  rw [← tr0.1] at w2
  refine Op_mk ⟨fun _ => ⟨_, rfl⟩, fun q => absurd q (by decide)⟩ hI w1 f1 w2 T2 (fun q a => fr_R_generic q (by omega)) tr0.2 (Cv_cg V (fr_D_generic 3 (by omega)) (fr_D_generic 4 (by omega)) (fr_D_generic 5 (by omega))) ?_ ?_
  · rw [fr_D_generic 33 (by omega), fr_R_generic 73 (by omega), f1 73 (by decide)]; exact F.2.2.1
  · rw [fr_D_generic 33 (by omega), fr_R_generic 73 (by omega), f1 73 (by decide)]; exact F.2.2.2
theorem O_method {d1 d2 : am_D} {h : am_H} {K : Nat → Nat → Int32} {nn cc : Nat} {g kind s t body : Int32} (hI : Inv h K nn cc) (hcc : cc < 2 ^ 30) (hd1 : 8 ≤ d1.1) (hw1 : 200 ≤ d1.2) (hd2 : 8 ≤ d2.1) (hw2 : 200 ≤ d2.2) : Op 0 d1 d2 h K nn cc 10 [some (.ref 1), some (.int g), some (.int kind), some (.int s), some (.int t), some (.int body), none, none, none] 54 [some (.ref 36), some (.int g), some (.int kind), some (.int s), some (.int t), some (.int body), none, none, none] := by
  obtain ⟨lab, F, V, ev⟩ := id hI
  obtain ⟨w1, T1⟩ := wp_x (by
    have w := s_D_method (d := d1) F.1.1 F.1.2.1 g kind s t body (by omega) (by omega)
    exact wp_mono w (fun r hh q => (⟨q.1, q.2.1, q.2.2⟩ : _ ∧ _ ∧ am_ty2 (D_method K g kind s t body).2)))
  have f1 : ∀ q, 36 ≤ q → (D_method K g kind s t body).2 q = K q := fun q a => fr_D_method q (by omega)
  have O1 : Oth h K (D_method K g kind s t body).2 nn cc := Oth_cc F.2.1 F.1.2.2.2 (fun _ _ => rfl) (fun q a b => f1 q a) ev
  have tr0 := T_method F.1.2.1 T1 O1 ev hcc F.1.2.2.2 (g := g) (kind := kind) (s := s) (t := t) (body := body)
  obtain ⟨w2, T2⟩ := wp_x (by
    have w := s_R_method (d := d2) F.1.1 T1 g kind s t body (by omega) (by omega)
    exact wp_mono w (fun r hh q => (⟨q.1, q.2.1, q.2.2⟩ : _ ∧ _ ∧ am_ty2 (R_method (D_method K g kind s t body).2 g kind s t body).2)))
  rw [← tr0.1] at w2
  refine Op_mk ⟨fun _ => ⟨_, rfl⟩, fun q => absurd q (by decide)⟩ hI w1 f1 w2 T2 (fun q a => fr_R_method q (by omega)) tr0.2 (Cv_cg V (fr_D_method 3 (by omega)) (fr_D_method 4 (by omega)) (fr_D_method 5 (by omega))) ?_ ?_
  · rw [fr_D_method 33 (by omega), fr_R_method 73 (by omega), f1 73 (by decide)]; exact F.2.2.1
  · rw [fr_D_method 33 (by omega), fr_R_method 73 (by omega), f1 73 (by decide)]; exact F.2.2.2
theorem O_remove {d1 d2 : am_D} {h : am_H} {K : Nat → Nat → Int32} {nn cc : Nat} {m : Int32} (hI : Inv h K nn cc) (hcc : cc < 2 ^ 30) (hd1 : 8 ≤ d1.1) (hw1 : 200 ≤ d1.2) (hd2 : 8 ≤ d2.1) (hw2 : 200 ≤ d2.2) : Op 0 d1 d2 h K nn cc 11 [some (.ref 1), some (.int m), none] 55 [some (.ref 36), some (.int m), none] := by
  obtain ⟨lab, F, V, ev⟩ := id hI
  obtain ⟨w1, T1⟩ := wp_x (by
    have w := s_D_remove (d := d1) F.1.1 F.1.2.1 m (by omega) (by omega)
    exact wp_mono w (fun r hh q => (⟨q.1, q.2.1, q.2.2⟩ : _ ∧ _ ∧ am_ty2 (D_remove K m).2)))
  have f1 : ∀ q, 36 ≤ q → (D_remove K m).2 q = K q := fun q a => fr_D_remove q (by omega)
  have O1 : Oth h K (D_remove K m).2 nn cc := Oth_cc F.2.1 F.1.2.2.2 (fun _ _ => rfl) (fun q a b => f1 q a) ev
  have tr0 := T_remove F.1.2.1 O1 ev hcc F.1.2.2.2 (m := m)
  obtain ⟨w2, T2⟩ := wp_x (by
    have w := s_R_remove (d := d2) F.1.1 T1 m (by omega) (by omega)
    exact wp_mono w (fun r hh q => (⟨q.1, q.2.1, q.2.2⟩ : _ ∧ _ ∧ am_ty2 (R_remove (D_remove K m).2 m).2)))
  rw [← tr0.1] at w2
  refine Op_mk ⟨fun _ => ⟨_, rfl⟩, fun q => absurd q (by decide)⟩ hI w1 f1 w2 T2 (fun q a => fr_R_remove q (by omega)) tr0.2 (Cv_cg V (fr_D_remove 3 (by omega)) (fr_D_remove 4 (by omega)) (fr_D_remove 5 (by omega))) ?_ ?_
  · rw [fr_D_remove 33 (by omega), fr_R_remove 73 (by omega), f1 73 (by decide)]; exact F.2.2.1
  · rw [fr_D_remove 33 (by omega), fr_R_remove 73 (by omega), f1 73 (by decide)]; exact F.2.2.2
theorem O_step {d1 d2 : am_D} {h : am_H} {K : Nat → Nat → Int32} {nn cc : Nat} {b op x : Int32} (hI : Inv h K nn cc) (hcc : cc < 2 ^ 30) (hd1 : 8 ≤ d1.1) (hw1 : 200 ≤ d1.2) (hd2 : 8 ≤ d2.1) (hw2 : 200 ≤ d2.2) : Op 0 d1 d2 h K nn cc 12 [some (.ref 1), some (.int b), some (.int op), some (.int x)] 56 [some (.ref 36), some (.int b), some (.int op), some (.int x)] := by
  obtain ⟨lab, F, V, ev⟩ := id hI
  obtain ⟨w1, T1⟩ := wp_x (by
    have w := s_D_step (d := d1) F.1.1 F.1.2.1 b op x (by omega) (by omega)
    exact wp_mono w (fun r hh q => (⟨q.1, q.2.1, q.2.2⟩ : _ ∧ _ ∧ am_ty2 (D_step K b op x).2)))
  have f1 : ∀ q, 36 ≤ q → (D_step K b op x).2 q = K q := fun q a => fr_D_step q (by omega)
  have O1 : Oth h K (D_step K b op x).2 nn cc := Oth_cc F.2.1 F.1.2.2.2 (fun _ _ => rfl) (fun q a b => f1 q a) ev
  have tr0 := T_step F.1.1 F.1.2.1 T1 O1 ev hcc F.1.2.2.2 (b := b) (op := op) (x := x)
  obtain ⟨w2, T2⟩ := wp_x (by
    have w := s_R_step (d := d2) F.1.1 T1 b op x (by omega) (by omega)
    exact wp_mono w (fun r hh q => (⟨q.1, q.2.1, q.2.2⟩ : _ ∧ _ ∧ am_ty2 (R_step (D_step K b op x).2 b op x).2)))
  rw [← tr0.1] at w2
  refine Op_mk ⟨fun _ => ⟨_, rfl⟩, fun q => absurd q (by decide)⟩ hI w1 f1 w2 T2 (fun q a => fr_R_step q (by omega)) tr0.2 (Cv_cg V (fr_D_step 3 (by omega)) (fr_D_step 4 (by omega)) (fr_D_step 5 (by omega))) ?_ ?_
  · rw [fr_D_step 33 (by omega), fr_R_step 73 (by omega), f1 73 (by decide)]; exact F.2.2.1
  · rw [fr_D_step 33 (by omega), fr_R_step 73 (by omega), f1 73 (by decide)]; exact F.2.2.2
theorem O_clear {d1 d2 : am_D} {h : am_H} {K : Nat → Nat → Int32} {nn cc : Nat} {b : Int32} (hI : Inv h K nn cc) (hcc : cc < 2 ^ 30) (hd1 : 8 ≤ d1.1) (hw1 : 200 ≤ d1.2) (hd2 : 8 ≤ d2.1) (hw2 : 200 ≤ d2.2) : Op 0 d1 d2 h K nn cc 13 [some (.ref 1), some (.int b)] 57 [some (.ref 36), some (.int b), none] := by
  obtain ⟨lab, F, V, ev⟩ := id hI
  obtain ⟨w1, T1⟩ := wp_x (by
    have w := s_D_clear (d := d1) F.1.1 F.1.2.1 b (by omega) (by omega)
    exact wp_mono w (fun r hh q => (⟨q.1, q.2.1, q.2.2⟩ : _ ∧ _ ∧ am_ty2 (D_clear K b).2)))
  have f1 : ∀ q, 36 ≤ q → (D_clear K b).2 q = K q := fun q a => fr_D_clear q (by omega)
  have O1 : Oth h K (D_clear K b).2 nn cc := Oth_cc F.2.1 F.1.2.2.2 (fun _ _ => rfl) (fun q a b => f1 q a) ev
  have tr0 := T_clear F.1.1 F.1.2.1 T1 O1 ev hcc F.1.2.2.2 (b := b)
  obtain ⟨w2, T2⟩ := wp_x (by
    have w := s_R_clear (d := d2) F.1.1 T1 b (by omega) (by omega)
    exact wp_mono w (fun r hh q => (⟨q.1, q.2.1, q.2.2⟩ : _ ∧ _ ∧ am_ty2 (R_clear (D_clear K b).2 b).2)))
  rw [← tr0.1] at w2
  refine Op_mk ⟨fun _ => ⟨_, rfl⟩, fun q => absurd q (by decide)⟩ hI w1 f1 w2 T2 (fun q a => fr_R_clear q (by omega)) tr0.2 (Cv_cg V (fr_D_clear 3 (by omega)) (fr_D_clear 4 (by omega)) (fr_D_clear 5 (by omega))) ?_ ?_
  · rw [fr_D_clear 33 (by omega), fr_R_clear 73 (by omega), f1 73 (by decide)]; exact F.2.2.1
  · rw [fr_D_clear 33 (by omega), fr_R_clear 73 (by omega), f1 73 (by decide)]; exact F.2.2.2
theorem O_prec {d1 d2 : am_D} {h : am_H} {K : Nat → Nat → Int32} {nn cc : Nat} {c k : Int32} (hI : Inv h K nn cc) (hcc : cc < 2 ^ 30) (hnn : nn < 2 ^ 30) (hd1 : 8 ≤ d1.1) (hw1 : 200 ≤ d1.2) (hd2 : 8 ≤ d2.1) (hw2 : 200 ≤ d2.2) : Op 0 d1 d2 h K nn cc 15 [some (.ref 1), some (.int c), some (.int k)] 71 [some (.ref 36), some (.int c), some (.int k)] := by
  obtain ⟨lab, F, V, ev⟩ := id hI
  have w1 := s_D_prec (d := d1) F.1.1 F.1.2.1 c k (by omega) (by omega)
  have w2 := s_R_prec (d := d2) F.1.1 F.1.2.1 c k (by omega) (by omega)
  obtain ⟨⟨r1, r2, r3, r4⟩, r5, r6, rest⟩ := id F.2.1
  have e : D_prec K c k = R_prec K c k := eq_prec F.1.2.1 r1
  rw [← e] at w2
  refine Op_mk ⟨fun _ => ⟨_, rfl⟩, fun q => absurd q (by decide)⟩ hI w1 (fun _ _ => rfl) w2 F.1.2.1 (fun _ _ => rfl) (Oth_u F.2.1 ev F.1.2.2.2 r1 r2 r3 r6 (fun _ _ _ _ => rfl) (fun _ _ _ _ _ => rfl) (fun _ _ => rfl)) V F.2.2.1 F.2.2.2
theorem O_has {d1 d2 : am_D} {h : am_H} {K : Nat → Nat → Int32} {nn cc : Nat} {c nm : Int32} (hI : Inv h K nn cc) (hcc : cc < 2 ^ 30) (hnn : nn < 2 ^ 30) (hd1 : 8 ≤ d1.1) (hw1 : 200 ≤ d1.2) (hd2 : 8 ≤ d2.1) (hw2 : 200 ≤ d2.2) : Op 0 d1 d2 h K nn cc 16 [some (.ref 1), some (.int c), some (.int nm)] 72 [some (.ref 36), some (.int c), some (.int nm), none] := by
  obtain ⟨lab, F, V, ev⟩ := id hI
  have w1 := s_D_has (d := d1) F.1.1 F.1.2.1 c nm (by omega) (by omega)
  have w2 := s_R_has (d := d2) F.1.1 F.1.2.1 c nm (by omega) (by omega)
  obtain ⟨⟨r1, r2, r3, r4⟩, r5, r6, rest⟩ := id F.2.1
  have e : D_has K c nm = R_has K c nm := eq_has F.1.2.1 F.1.2.1 r1
  rw [← e] at w2
  refine Op_mk ⟨fun _ => ⟨_, rfl⟩, fun q => absurd q (by decide)⟩ hI w1 (fun _ _ => rfl) w2 F.1.2.1 (fun _ _ => rfl) (Oth_u F.2.1 ev F.1.2.2.2 r1 r2 r3 r6 (fun _ _ _ _ => rfl) (fun _ _ _ _ _ => rfl) (fun _ _ => rfl)) V F.2.2.1 F.2.2.2
theorem O_look {d1 d2 : am_D} {h : am_H} {K : Nat → Nat → Int32} {nn cc : Nat} {i what : Int32} (hI : Inv h K nn cc) (hcc : cc < 2 ^ 30) (hnn : nn < 2 ^ 30) (hd1 : 8 ≤ d1.1) (hw1 : 200 ≤ d1.2) (hd2 : 8 ≤ d2.1) (hw2 : 200 ≤ d2.2) : Op 0 d1 d2 h K nn cc 17 [some (.ref 1), some (.int i), some (.int what)] 73 [some (.ref 36), some (.int i), some (.int what)] := by
  obtain ⟨lab, F, V, ev⟩ := id hI
  have w1 := s_D_look (d := d1) F.1.1 F.1.2.1 i what (by omega) (by omega)
  have w2 := s_R_look (d := d2) F.1.1 F.1.2.1 i what (by omega) (by omega)
  obtain ⟨⟨r1, r2, r3, r4⟩, r5, r6, rest⟩ := id F.2.1
  have e : D_look K i what = R_look K i what := eq_look r2
  rw [← e] at w2
  refine Op_mk ⟨fun _ => ⟨_, rfl⟩, fun q => absurd q (by decide)⟩ hI w1 (fun _ _ => rfl) w2 F.1.2.1 (fun _ _ => rfl) (Oth_u F.2.1 ev F.1.2.2.2 r1 r2 r3 r6 (fun _ _ _ _ => rfl) (fun _ _ _ _ _ => rfl) (fun _ _ => rfl)) V F.2.2.1 F.2.2.2
theorem O_noted {d1 d2 : am_D} {h : am_H} {K : Nat → Nat → Int32} {nn cc : Nat} {k : Int32} (hI : Inv h K nn cc) (hcc : cc < 2 ^ 30) (hnn : nn < 2 ^ 30) (hd1 : 8 ≤ d1.1) (hw1 : 200 ≤ d1.2) (hd2 : 8 ≤ d2.1) (hw2 : 200 ≤ d2.2) : Op 0 d1 d2 h K nn cc 18 [some (.ref 1), some (.int k)] 74 [some (.ref 36), some (.int k)] := by
  obtain ⟨lab, F, V, ev⟩ := id hI
  have w1 := s_D_noted (d := d1) F.1.1 F.1.2.1 k (by omega) (by omega)
  have w2 := s_R_noted (d := d2) F.1.1 F.1.2.1 k (by omega) (by omega)
  obtain ⟨⟨r1, r2, r3, r4⟩, r5, r6, rest⟩ := id F.2.1
  have e : D_noted K k = R_noted K k := eq_noted hnn r5
  rw [← e] at w2
  refine Op_mk ⟨fun _ => ⟨_, rfl⟩, fun q => absurd q (by decide)⟩ hI w1 (fun _ _ => rfl) w2 F.1.2.1 (fun _ _ => rfl) (Oth_u F.2.1 ev F.1.2.2.2 r1 r2 r3 r6 (fun _ _ _ _ => rfl) (fun _ _ _ _ _ => rfl) (fun _ _ => rfl)) V F.2.2.1 F.2.2.2
theorem O_count {d1 d2 : am_D} {h : am_H} {K : Nat → Nat → Int32} {nn cc : Nat} {what : Int32} (hI : Inv h K nn cc) (hcc : cc < 2 ^ 30) (hnn : nn < 2 ^ 30) (hd1 : 8 ≤ d1.1) (hw1 : 200 ≤ d1.2) (hd2 : 8 ≤ d2.1) (hw2 : 200 ≤ d2.2) : Op 0 d1 d2 h K nn cc 19 [some (.ref 1), some (.int what)] 75 [some (.ref 36), some (.int what), none, none] := by
  obtain ⟨lab, F, V, ev⟩ := id hI
  have w1 := s_D_count (d := d1) F.1.1 F.1.2.1 what (by omega) (by omega)
  have w2 := s_R_count (d := d2) F.1.1 F.1.2.1 what (by omega) (by omega)
  obtain ⟨⟨r1, r2, r3, r4⟩, r5, r6, rest⟩ := id F.2.1
  have e : D_count K what = R_count K what := T_count F.1.2.1 F.1.2.1 F.2.1 F.2.2.1 F.2.2.2
  rw [← e] at w2
  refine Op_mk ⟨fun _ => ⟨_, rfl⟩, fun q => absurd q (by decide)⟩ hI w1 (fun _ _ => rfl) w2 F.1.2.1 (fun _ _ => rfl) (Oth_u F.2.1 ev F.1.2.2.2 r1 r2 r3 r6 (fun _ _ _ _ => rfl) (fun _ _ _ _ _ => rfl) (fun _ _ => rfl)) V F.2.2.1 F.2.2.2
theorem O_none {h : am_H} {K : Nat → Nat → Int32} {nn cc : Nat} (hI : Inv h K nn cc) : Inv h K nn (cc + 2) := by
  obtain ⟨lab, F, V, ev⟩ := hI
  obtain ⟨⟨r1, r2, r3, r4⟩, r5, r6, rest⟩ := id F.2.1
  exact ⟨lab, ⟨F.1, Oth_u F.2.1 ev F.1.2.2.2 r1 r2 r3 r6 (fun _ _ _ _ => rfl) (fun _ _ _ _ _ => rfl) (fun _ _ => rfl), F.2.2⟩, V, by omega⟩
theorem O_define {d1 d2 : am_D} {h : am_H} {K : Nat → Nat → Int32} {nn cc : Nat} {c s t u : Int32} (hI : Inv h K nn cc) (hcc : cc < 2 ^ 30) (hd1 : 8 ≤ d1.1) (hw1 : 200 ≤ d1.2) (hd2 : 8 ≤ d2.1) (hw2 : 200 ≤ d2.2) : Op 0 d1 d2 h K nn cc 2 [some (.ref 1), some (.int c), some (.int s), some (.int t), some (.int u), none] 37 [some (.ref 36), some (.int c), some (.int s), some (.int t), some (.int u), none, none, none] := by
  obtain ⟨lab, F, V, ev⟩ := id hI
  obtain ⟨w1, T1⟩ := wp_x (by
    have w := s_D_define (d := d1) F.1.1 F.1.2.1 c s t u (by omega) (by omega)
    exact wp_mono w (fun r hh q => (⟨q.1, q.2.1, q.2.2⟩ : _ ∧ _ ∧ am_ty2 (D_define K c s t u).2)))
  have f1 : ∀ q, 36 ≤ q → (D_define K c s t u).2 q = K q := fun q a => fr_D_define q (by omega)
  have O1 : Oth h K (D_define K c s t u).2 nn cc := Oth_cc F.2.1 F.1.2.2.2 (fun _ _ => rfl) (fun q a b => f1 q a) ev
  obtain ⟨n, r, hh, ex, L2, er, eh, T2, D⟩ := w_def (d := d2) (c := c) (s := s) (t := t) (u := u) F.1.1 F.1.2.1 T1 O1.1.1 V (by omega) (by omega)
  have w2 : am_wp d2 37 0 [some (.ref 36), some (.int c), some (.int s), some (.int t), some (.int u), none, none, none] [] (am_si h (D_define K c s t u).2) (fun r hh => r = some (.int (D_define K c s t u).1) ∧ hh = am_si h L2) := ⟨n, r, hh, ex, er, eh⟩
  have fl : ∀ q, ¬ (37 ≤ q ∧ q ≤ 42) → ¬ q = 58 → L2 q = (D_define K c s t u).2 q := fun q a b => by
    rcases D.2.2.2 with ⟨_, x⟩ | ⟨_, _, _, x, _⟩
    · exact x q (by omega) (by omega)
    · exact x q a b
  refine Op_mk ⟨fun _ => ⟨_, rfl⟩, fun q => absurd q (by decide)⟩ hI w1 f1 w2 T2 (fun q a => fl q (by omega) (by omega)) (Oth_d O1 ev hcc F.1.2.2.2 D) D.2.1 ?_ ?_
  · rw [fr_D_define 33 (by omega), fl 73 (by omega) (by decide), f1 73 (by decide)]; exact F.2.2.1
  · rw [fr_D_define 33 (by omega), fl 73 (by omega) (by decide), f1 73 (by decide)]; exact F.2.2.2
