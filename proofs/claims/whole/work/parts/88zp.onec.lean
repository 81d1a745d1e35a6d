/-! call, on one store. -/
theorem Rend_fr2 {q : Nat} (hq : q < 36 ∨ 74 ≤ q ∨ (37 ≤ q ∧ q ≤ 43)) : ∀ n g L g' L', Rend n g L g' L' → L' q = L q := by
  intro n
  induction n with
  | zero => intro g L g' L' hr; rw [hr.2.2]
  | succ n ih =>
    intro g L g' L' hr
    rcases hr with hr | ⟨z, rw0, hr⟩
    · rw [hr.2.2]
    · rw [ih _ _ _ _ hr, fr_R_work q (by omega)]
theorem Rcal_fr {q : Nat} {L L' : Nat → Nat → Int32} {g x y : Int32} {v : Int64} (hq : q < 36 ∨ 74 ≤ q ∨ (37 ≤ q ∧ q ≤ 43)) (h : Rcal L g x y v L') : L' q = L q := by
  rcases h with ⟨_, _, e⟩ | ⟨_, y', n, g', L1, _, re, out⟩
  · rw [e]
  · have a := Rend_fr2 hq n _ _ _ _ re
    have b : (R_enter (Rc_0 L) (jx g) (jx x) y').2 q = L q := by
      rw [fr_R_enter q (by omega)]
      unfold Rc_0
      rw [fr_u (by omega), fr_u (by omega), fr_u (by omega)]
    rcases out with ⟨_, _, e⟩ | ⟨_, _, e⟩
    · rw [e, fr_u (by omega), a, b]
    · rw [e, a, b]
theorem wp_two {d : am_D} {mi pc : Nat} {L : am_L} {st : List Value} {h : am_H} {Q1 Q2 : Option Value → am_H → Prop} (w1 : am_wp d mi pc L st h Q1) (w2 : am_wp d mi pc L st h Q2) : ∃ r hh, Q1 r hh ∧ Q2 r hh := by
  obtain ⟨n1, r1, h1, e1, q1⟩ := w1
  obtain ⟨n2, r2, h2, e2, q2⟩ := w2
  have a := am_ex_k e1 n2
  have b := am_ex_k e2 n1
  rw [Nat.add_comm] at b
  rw [a] at b
  obtain ⟨x, y⟩ := Prod.mk.inj (Option.some.inj b)
  exact ⟨r1, h1, q1, by rw [x, y]; exact q2⟩
/-- the reference's cells are copied above 1000 -/
def K_cp (K : Nat → Nat → Int32) : Nat → Nat → Int32 := fun q => if 1036 ≤ q ∧ q < 1074 then K (q - 1000) else K q
theorem K_cp_o {K : Nat → Nat → Int32} {q : Nat} (h : q < 1036) : K_cp K q = K q := if_neg (by omega)
theorem K_cp_n {K : Nat → Nat → Int32} {q : Nat} (h1 : 36 ≤ q) (h2 : q < 74) : K_cp K (q + 1000) = K q := by
  unfold K_cp
  rw [if_pos (by omega), show q + 1000 - 1000 = q by omega]
theorem K_cp_ty {K : Nat → Nat → Int32} (h : am_ty2 K) : am_ty2 (K_cp K) := by
  have a : ∀ t ∈ am_tn, t.1 < 1036 := by decide
  have b : ∀ t ∈ am_tm, t.1 < 1036 := by decide
  have c : ∀ t ∈ am_tf, t.1 < 1036 := by decide
  refine ⟨fun t ht j => ?_, fun t ht j => ?_, fun t ht => ?_⟩
  · rw [K_cp_o (a t ht)]; exact h.1 t ht j
  · rw [K_cp_o (b t ht)]; exact h.2.1 t ht j
  · rw [K_cp_o (c t ht)]; exact h.2.2 t ht
theorem O_call {d1 d2 : am_D} {h : am_H} {K : Nat → Nat → Int32} {nn cc : Nat} {g x y : Int32} (hI : Inv h K nn cc) (hd1 : 8 ≤ d1.1) (hw1 : 200 ≤ d1.2) (hd2 : 8 ≤ d2.1) (hw2 : 200 ≤ d2.2) : Op 1 d1 d2 h K nn cc 14 [some (.ref 1), some (.int g), some (.int x), some (.int y), none, none, none] 70 [some (.ref 36), some (.int g), some (.int x), some (.int y), none] := by
  obtain ⟨lab, F, V, ev⟩ := hI
  have O0 : Oth h K (K_cp K) nn (cc + 1) := by
    obtain ⟨a, b, c, d, e, f, i, j, _⟩ := Oth_cc (L' := K_cp K) F.2.1 F.1.2.2.2 (fun _ _ => rfl) (fun q _ a => K_cp_o (by omega)) ev
    exact ⟨a, b, c, d, rl_K_mono e (by omega), f, i, j, fun _ q a b => (K_cp_n a b).symm⟩
  have F0 : Fin h K (K_cp K) lab nn (cc + 1) := ⟨⟨F.1.1, F.1.2.1, K_cp_ty F.1.2.1, F.1.2.2.2⟩, O0, by rw [K_cp_o (by decide)]; exact F.2.2.1, by rw [K_cp_o (by decide)]; exact F.2.2.2⟩
  have w1 := w_call (d := d1) (g := g) (x := x) (y := y) F0 (by omega) (by omega)
  obtain ⟨n, r, hh, ex, h1, J1, v1, L1, lab1, nn1, nb1, er, eh, R1, F1⟩ := id w1
  have f1 : ∀ q, 36 ≤ q → q < 74 → J1 q = K q := fun q a b => by
    have z := F1.2.1.2.2.2.2.2.2.2.2 (by omega) q a b
    rw [z, Rcal_fr (by omega) R1, K_cp_n a b]
  have FJ : Fin h K J1 lab nn cc := ⟨⟨F.1.1, F.1.2.1, F1.1.2.1, F.1.2.2.2⟩, Oth_cc F.2.1 F.1.2.2.2 (fun _ _ => rfl) (fun q a b => f1 q a b) ev, by rw [f1 73 (by decide) (by decide)]; exact F.2.2.1, by rw [f1 73 (by decide) (by decide)]; exact F.2.2.2⟩
  have w2 := w_call (d := d1) (g := g) (x := x) (y := y) FJ (by omega) (by omega)
  have w3 : am_wp d1 14 0 [some (.ref 1), some (.int g), some (.int x), some (.int y), none, none, none] [] (am_si h K) (fun r' h' => r' = r ∧ h' = hh) := ⟨n, r, hh, ex, rfl, rfl⟩
  obtain ⟨r', hh', ⟨q1, q2⟩, h2, J2, v2, L2, lab2, nn2, nb2, er2, eh2, R2, F2⟩ := wp_two w3 w2
  have eJ : J2 = J1 := by
    have z : am_si h2 J2 = am_si h1 J1 := by rw [← eh2, q2, eh]
    exact congrArg (fun a : am_H => a.2.2.2.1) z
  rw [eJ] at F2 eh2
  obtain ⟨w4, T2⟩ := wp_x (by
    have w := s_Rcal (d := d2) F2.1.1 F2.1.2.1 (by omega) (by omega) R2
    exact wp_mono w (fun r hh q => (⟨q.1, q.2.1, q.2.2⟩ : _ ∧ _ ∧ am_ty2 L2)))
  have f2 : ∀ q, q < 36 ∨ 74 ≤ q → L2 q = J1 q := fun q a => Rcal_fr (by omega) R2
  have hC := F2.2.1.1.1
  have hK := F.2.1.1.1
  have l : ∀ q, 37 ≤ q → q ≤ 43 → L2 q = K q := fun q a b => by rw [Rcal_fr (by omega) R2, f1 q (by omega) (by omega)]
  have V2 : Cv L2 := Cv_cg V (by rw [f2 3 (by omega), hC.2.2.2.2.1, l 38 (by decide) (by decide), hK.2.2.2.2.1]) (by rw [f2 4 (by omega), hC.2.2.2.1, l 39 (by decide) (by decide), hK.2.2.2.1]) (by rw [f2 5 (by omega), hC.2.2.1, l 40 (by decide) (by decide), hK.2.2.1])
  have FL : Fin h2 L2 L2 lab2 nn2 cc := ⟨⟨F2.1.1, T2, T2, W_cg F2.1.2.2.2 (fun q a => f2 q (Or.inr a))⟩, Oth_cc F2.2.1 F2.1.2.2.2 f2 (fun _ _ _ => rfl) ev, by rw [f2 33 (by omega)]; exact F2.2.2.1, by rw [f2 33 (by omega)]; exact F2.2.2.2⟩
  refine ⟨.long v2, h2, J1, L2, nn2, ⟨fun q => absurd q (by decide), fun _ => ⟨_, rfl⟩⟩, nb2, O_none ⟨lab2, FL, V2, ev⟩, wp_mono w3 (fun a b c => ⟨by rw [c.1, ← q1]; exact er2, by rw [c.2, ← q2]; exact eh2⟩), ⟨F2.1.1, F.1.1⟩, w4⟩
