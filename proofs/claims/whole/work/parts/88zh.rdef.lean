/-! define in the reference, beside the class. -/
theorem rl_C_cg3 {J L L' : Nat → Nat → Int32} (h : rl_C J L) (hL : ∀ q, 37 ≤ q → q ≤ 44 → ¬ q = 41 → ¬ q = 42 → L' q = L q) : rl_C J L' := by
  unfold rl_C jn at h ⊢
  rw [hL 43 (by decide) (by decide) (by decide) (by decide), hL 44 (by decide) (by decide) (by decide) (by decide), hL 40 (by decide) (by decide) (by decide) (by decide), hL 39 (by decide) (by decide) (by decide) (by decide), hL 38 (by decide) (by decide) (by decide) (by decide), hL 37 (by decide) (by decide) (by decide) (by decide)]
  exact h
theorem th_n {K L : Nat → Nat → Int32} (hL : am_ty2 L) (hC : rl_C K L) {a : Nat} : ¬ jn L 37 a = 0 ↔ ¬ jn K 5 a = 0 := by
  rw [← hC.2.2.2.2.2 a]
  have := (ty_n hL (q := 37) (B := 2) (by decide) (by decide) a).2
  omega
/-- what can be reached from a class that is there is there -/
theorem Rea_th {K : Nat → Nat → Int32} (hV : Cv K) (hA : tyA (K 3)) {a x : Nat} (ha : a < 12) (ht : ¬ jn K 5 a = 0) (r : Rea (K 3) a x) : ¬ jn K 5 x = 0 := by
  have g : x < 12 ∧ ¬ jn K 5 x = 0 := r (fun y => y < 12 ∧ ¬ jn K 5 y = 0) ⟨ha, ht⟩ (fun y e p q => ⟨dir_12 hA q, (hV.1 y e p.1 q).2⟩)
  exact g.2
theorem named_n {K L : Nat → Nat → Int32} (hL : am_ty2 L) (hC : rl_C K L) {c a : Nat} (hc : c < 12) (ha : a < 12) : C_named K c (nI a) ↔ a = c ∨ ¬ jn L 37 a = 0 := by
  unfold C_named
  rw [am_ite_f (nI_n1 (by omega)), th_n hL hC]
  by_cases z : a = c
  · rw [am_ite_t (by rw [z])]; exact ⟨fun _ => Or.inl z, fun _ => True.intro⟩
  · rw [am_ite_f (fun q => z ((nI_eq (by omega) (by omega)).mp q))]
    by_cases z2 : C_there K (nI a)
    · rw [am_ite_t z2]; rw [there_n ha] at z2; exact ⟨fun _ => Or.inr z2, fun _ => True.intro⟩
    · rw [am_ite_f z2]; rw [there_n ha] at z2; exact ⟨fun q => q.elim, fun q => q.elim z z2⟩
theorem named_m {K : Nat → Nat → Int32} {c : Nat} : C_named K c (-1) := by
  unfold C_named
  rw [am_ite_t rfl]
  trivial
theorem below_m {K : Nat → Nat → Int32} {c : Nat} (hc : c < 12) : ¬ C_below K (-1) c := by
  unfold C_below
  rw [am_ite_f (fun q => nI_n1 (show c < 2 ^ 31 by omega) q.symm)]
  have n : ¬ C_there K (-1) := by
    unfold C_there
    rw [am_ite_f (by rw [w_in_iff]; decide)]
    exact fun q => q
  rw [am_ite_f n]
  exact fun q => q
/-- one of the supers is looked at: is it below c? -/
theorem rd_it {d : am_D} {h : am_H} {K L : Nat → Nat → Int32} {Q : Option Value → am_H → Prop} {c s k : Nat} {t u v x : Int32} {l : Option Value} (hB : am_B h) (hL : am_ty2 L) (hK : am_ty2 K) (hC : rl_C K L) (hV : Cv K) (hc : c < 12) (hx : x = -1 ∨ ∃ a, a < 12 ∧ x = nI a) (hn : C_named K c x) (hd : 2 ≤ d.1) (hw : 45 ≤ d.2) (K1 : C_below K x c → Q (some (.int (-4))) (am_si h L)) (K2 : ¬ C_below K x c → am_wp d 37 199 [some (.ref 36), some (.int (nI (c))), some (.int (nI (s))), some (.int (t)), some (.int (u)), some (.int (v)), some (.int (nI (k))), none] [] (am_si h L) Q) : am_wp d 37 164 [some (.ref 36), some (.int (nI (c))), some (.int (nI (s))), some (.int (t)), some (.int (u)), some (.int (v)), some (.int (nI (k))), l] [.int x] (am_si h L) Q := by
  refine wp_L (L := [some (.ref 36), some (.int (nI (c))), some (.int (nI (s))), some (.int (t)), some (.int (u)), some (.int (v)), some (.int (nI (k))), none]) ⟨Or.inr rfl, Or.inr rfl, Or.inr rfl, Or.inr rfl, Or.inr rfl, Or.inr rfl, Or.inr rfl, Or.inl rfl, True.intro⟩ ?_
  have dn : ∀ y, am_wp d 37 199 [some (.ref 36), some (.int (nI (c))), some (.int (nI (s))), some (.int (t)), some (.int (u)), some (.int (v)), some (.int (nI (k))), none] [] (am_si h L) Q → am_wp d 37 199 [some (.ref 36), some (.int (nI (c))), some (.int (nI (s))), some (.int (t)), some (.int (u)), some (.int (v)), some (.int (nI (k))), y] [] (am_si h L) Q := fun y g => wp_L (L := [some (.ref 36), some (.int (nI (c))), some (.int (nI (s))), some (.int (t)), some (.int (u)), some (.int (v)), some (.int (nI (k))), none]) ⟨Or.inr rfl, Or.inr rfl, Or.inr rfl, Or.inr rfl, Or.inr rfl, Or.inr rfl, Or.inr rfl, Or.inl rfl, True.intro⟩ g
  rcases hx with rfl | ⟨a, ha, rfl⟩
  · refine r_istore (L' := [some (.ref 36), some (.int (nI (c))), some (.int (nI (s))), some (.int (t)), some (.int (u)), some (.int (v)), some (.int (nI (k))), some (.int (-1))]) k37_164 (Nat.le_of_ble_eq_true rfl) rfl ?_
    refine r_iload k37_166 rfl ?_
    refine r_iflt k37_168 (fun _ => dn _ (K2 (below_m hc))) (fun z => absurd (by decide) z)
  · have bl := below_c (J := K) hc ha
    have hn' := (named_n hL hC hc ha).mp hn
    refine l_Q_dk hB hL c s k a t u v hc ha hd hw (fun z _ => K1 (bl.mpr (Or.inl z))) (fun z z2 _ => dn _ (K2 (fun q => ?_))) (fun z z2 z3 _ => dn _ (K2 (fun q => ?_))) (fun z z2 z3 _ => K1 (bl.mpr (Or.inr ⟨(th_n hL hC).mp (hn'.resolve_left z), (R_sub_C hC).mp z3⟩)))
    · rcases bl.mp q with q | ⟨q1, q2⟩
      · exact z q
      · have r := (C_place_R hK hV ha hc q1).mp q2
        exact (th_n hL hC).mpr (Rea_th hV (ty_A hK (by decide)) ha q1 r) z2
    · rcases bl.mp q with q | ⟨q1, q2⟩
      · exact z q
      · exact z3 ((R_sub_C hC).mpr q2)
/-- from the check of the names to the check of the order -/
theorem rd_134 {d : am_D} {h : am_H} {K L : Nat → Nat → Int32} {Q : Option Value → am_H → Prop} {c s : Nat} {t u v : Int32} (hB : am_B h) (hL : am_ty2 L) (hK : am_ty2 K) (hC : rl_C K L) (hV : Cv K) (hc : c < 12) (hs : s < 12) (ht : t = -1 ∨ ∃ a, a < 12 ∧ t = nI a) (hv : v = -1 ∨ ∃ a, a < 12 ∧ v = nI a) (hn : C_named K c (nI s) ∧ C_named K c t ∧ C_named K c v) (hd : 2 ≤ d.1) (hw : 45 ≤ d.2) (K1 : (C_below K (nI s) c ∨ C_below K t c ∨ C_below K v c) → Q (some (.int (-4))) (am_si h L)) (K2 : ¬ C_below K (nI s) c → ¬ C_below K t c → ¬ C_below K v c → am_wp d 37 205 [some (.ref 36), some (.int (nI (c))), some (.int (nI (s))), some (.int (t)), some (.int (u)), some (.int (v)), none, none] [] (am_si h L) Q) : am_wp d 37 134 [some (.ref 36), some (.int (nI (c))), some (.int (nI (s))), some (.int (t)), some (.int (u)), some (.int (v)), none, none] [] (am_si h L) Q := by
  refine l_Q_k0 hB hL c s t u v hc hd hw (fun z => absurd z (by decide)) (fun _ _ => ?_)
  refine rd_it (k := 0) hB hL hK hC hV hc (Or.inr ⟨s, hs, rfl⟩) hn.1 hd hw (fun z => K1 (Or.inl z)) (fun b1 => ?_)
  refine l_Q_k1 hB hL c s t u v hc hd hw (fun z => absurd z (by decide)) (fun _ _ z => absurd rfl z) (fun _ _ _ _ => ?_) (fun _ z => absurd z (by decide))
  refine rd_it (k := 0 + 1) hB hL hK hC hV hc ht hn.2.1 hd hw (fun z => K1 (Or.inr (Or.inl z))) (fun b2 => ?_)
  refine l_Q_k2 hB hL c s t u v hc hd hw (fun z => absurd z (by decide)) (fun _ _ _ _ => ?_) (fun _ _ z => absurd z (by decide)) (fun _ z => absurd z (by decide))
  refine rd_it (k := 1 + 1) hB hL hK hC hV hc hv hn.2.2 hd hw (fun z => K1 (Or.inr (Or.inr z))) (fun b3 => ?_)
  refine l_Q_k3 hB hL c s t u v hc hd hw (fun _ _ => ?_) (fun z => absurd (by decide) z) (fun z => absurd (by decide) z) (fun z => absurd (by decide) z)
  exact wp_L (L := [some (.ref 36), some (.int (nI (c))), some (.int (nI (s))), some (.int (t)), some (.int (u)), some (.int (v)), none, none]) ⟨Or.inr rfl, Or.inr rfl, Or.inr rfl, Or.inr rfl, Or.inr rfl, Or.inr rfl, Or.inl rfl, Or.inl rfl, True.intro⟩ (K2 b1 b2 b3)
theorem w_sup_A {s : Nat} {u : Int32} (hs : s < 12) (hu : w_in u (-1) (nI 11)) : w_sup (nI s) (-1) u := by
  unfold w_sup
  rw [am_ite_t (w_in_nI (show s ≤ 11 by omega) (by decide)), am_ite_t (by rw [w_in_iff]; decide), am_ite_t hu, am_ite_t rfl]
  trivial
theorem w_sup_B {s t : Nat} {u : Int32} (hs : s < 12) (ht : t < 12) (hu : w_in u (-1) (nI 11)) : w_sup (nI s) (nI t) u ↔ ¬ s = t ∧ ¬ nI s = u ∧ ¬ nI t = u := by
  have wt : w_in (nI t) (-1) (nI 11) := by
    rw [w_in_iff, nI_toInt (by omega), nI_toInt (by decide)]
    refine ⟨?_, by omega⟩
    have : (-1 : Int32).toInt = -1 := by decide
    omega
  unfold w_sup
  rw [am_ite_t (w_in_nI (show s ≤ 11 by omega) (by decide)), am_ite_t wt, am_ite_t hu, am_ite_f (nI_n1 (by omega)), jx_nI (by omega)]
  by_cases z : s = t
  · rw [am_ite_t (by rw [z])]; exact ⟨fun q => q.elim, fun q => q.1 z⟩
  · rw [am_ite_f (fun q => z ((nI_eq (by omega) (by omega)).mp q))]
    by_cases z2 : nI s = u
    · rw [am_ite_t z2]; exact ⟨fun q => q.elim, fun q => q.2.1 z2⟩
    · rw [am_ite_f z2]
      by_cases z3 : nI t = u
      · rw [am_ite_t z3]; exact ⟨fun q => q.elim, fun q => q.2.2 z3⟩
      · rw [am_ite_f z3]; exact ⟨fun _ => ⟨z, z2, z3⟩, fun _ => True.intro⟩
theorem nI_oi {x : Int32} (h : 0 ≤ x.toInt) : ∃ j, j < 2 ^ 31 ∧ x = nI j := nI_of (fun q => by
  rw [Int32.lt_iff_toInt_lt] at q
  have e : (0 : Int32).toInt = 0 := by decide
  omega)
/-- the third super that counts -/
noncomputable def d_v (t u : Int32) : Int32 := am_ite (t = -1) (-1) u
theorem rng_m {x : Int32} (h : w_in x (-1) (nI 11)) : x = -1 ∨ ∃ a, a < 12 ∧ x = nI a := by
  rw [w_in_iff] at h
  by_cases z : x = -1
  · exact Or.inl z
  · right
    have e1 : (-1 : Int32).toInt = -1 := by decide
    have e2 : (nI 11).toInt = 11 := nI_toInt (by decide)
    have n0 : ¬ x.toInt = -1 := fun q => z (by apply Int32.toInt_inj.mp; rw [q]; rfl)
    obtain ⟨j, hj, rfl⟩ := nI_oi (show 0 ≤ x.toInt by omega)
    rw [nI_toInt hj] at h
    exact ⟨j, by omega, rfl⟩
/-- the front of define -/
theorem rd_0 {d : am_D} {h : am_H} {K L : Nat → Nat → Int32} {Q : Option Value → am_H → Prop} {c s t u : Int32} (hB : am_B h) (hL : am_ty2 L) (hK : am_ty2 K) (hC : rl_C K L) (hV : Cv K) (hd : 2 ≤ d.1) (hw : 45 ≤ d.2) (K1 : ¬ (w_in c (nI 1) (nI 11) ∧ w_sup s t u) → Q (some (.int (-1))) (am_si h L)) (K2 : w_in c (nI 1) (nI 11) → w_sup s t u → ¬ (C_named K (jx c) s ∧ C_named K (jx c) t ∧ C_named K (jx c) (d_v t u)) → Q (some (.int (-2))) (am_si h L)) (K3 : w_in c (nI 1) (nI 11) → w_sup s t u → C_named K (jx c) s ∧ C_named K (jx c) t ∧ C_named K (jx c) (d_v t u) → (C_below K s (jx c) ∨ C_below K t (jx c) ∨ C_below K (d_v t u) (jx c)) → Q (some (.int (-4))) (am_si h L)) (K4 : ∀ (c' s' : Nat), c = nI c' → 0 < c' → c' < 12 → s = nI s' → s' < 12 → (t = -1 ∨ ∃ a, a < 12 ∧ t = nI a) → (d_v t u = -1 ∨ ∃ a, a < 12 ∧ d_v t u = nI a) → w_sup s t u → C_named K c' s ∧ C_named K c' t ∧ C_named K c' (d_v t u) → ¬ C_below K s c' → ¬ C_below K t c' → ¬ C_below K (d_v t u) c' → am_wp d 37 205 [some (.ref 36), some (.int (nI c')), some (.int (nI s')), some (.int t), some (.int u), some (.int (d_v t u)), none, none] [] (am_si h L) Q) : am_wp d 37 0 [some (.ref 36), some (.int c), some (.int s), some (.int t), some (.int u), none, none, none] [] (am_si h L) Q := by
  have sup_r : w_sup s t u → w_in s (nI 0) (nI 11) ∧ w_in t (-1) (nI 11) ∧ w_in u (-1) (nI 11) := fun q => by
    unfold w_sup at q
    by_cases z1 : w_in s (nI 0) (nI 11)
    · rw [am_ite_t z1] at q
      by_cases z2 : w_in t (-1) (nI 11)
      · rw [am_ite_t z2] at q
        by_cases z3 : w_in u (-1) (nI 11)
        · exact ⟨z1, z2, z3⟩
        · rw [am_ite_f z3] at q; exact q.elim
      · rw [am_ite_f z2] at q; exact q.elim
    · rw [am_ite_f z1] at q; exact q.elim
  refine l_Q_d0 hB hL c s t u hd hw (fun z _ => K1 (fun q => z q.1)) (fun _ z _ => K1 (fun q => z (sup_r q.2).1)) (fun _ _ z _ => K1 (fun q => z (sup_r q.2).2.1)) (fun z1 z2 z3 z4 _ => ?_) (fun _ _ _ z _ => K1 (fun q => z (sup_r q.2).2.2))
  have wc : w_in c (nI 1) (nI 11) := z1
  have wc' := w_in_iff.mp wc
  rw [nI_toInt (by decide), nI_toInt (by decide)] at wc'
  obtain ⟨c', hc', rfl⟩ := nI_oi (show 0 ≤ c.toInt by omega)
  rw [nI_toInt hc'] at wc'
  have ws' := w_in_iff.mp z2
  rw [nI_toInt (by decide), nI_toInt (by decide)] at ws'
  obtain ⟨s', hs', rfl⟩ := nI_oi (show 0 ≤ s.toInt by omega)
  rw [nI_toInt hs'] at ws'
  have hc : c' < 12 := by omega
  have hs : s' < 12 := by omega
  have tr := rng_m z3
  have ur := rng_m z4
  have wu : w_in u (-1) (nI 11) := z4
  have jc : jx (nI c') = c' := jx_nI (by omega)
  have js : jx (nI s') = s' := jx_nI (by omega)
  rw [jc, js]
  rw [jc] at K2 K3
  have vr : d_v t u = -1 ∨ ∃ a, a < 12 ∧ d_v t u = nI a := by
    unfold d_v
    by_cases z : t = -1
    · rw [am_ite_t z]; exact Or.inl rfl
    · rw [am_ite_f z]; exact ur
  have ns := named_n (K := K) hL hC hc hs
  -- behind the names
  have go : ∀ v, v = d_v t u → w_sup (nI s') t u → C_named K c' (nI s') ∧ C_named K c' t ∧ C_named K c' (d_v t u) → am_wp d 37 134 [some (.ref 36), some (.int (nI c')), some (.int (nI s')), some (.int t), some (.int u), some (.int v), none, none] [] (am_si h L) Q := fun v ev wsp hn => by
    rw [ev]
    exact rd_134 hB hL hK hC hV hc hs tr vr hn hd hw (fun z => K3 wc wsp hn z) (fun b1 b2 b3 => K4 c' s' rfl (by omega) hc rfl hs tr vr wsp hn b1 b2 b3)
  rcases tr with rfl | ⟨t', ht, rfl⟩
  · have wsp := w_sup_A hs wu
    have ev : (-1 : Int32) = d_v (-1) u := by unfold d_v; rw [am_ite_t rfl]
    have nv : C_named K c' (d_v (-1) u) := by rw [← ev]; exact named_m
    refine l_Q_dA hB hL c' s' u hc hs hd hw (fun z => absurd z (nI_n1 (by omega))) (fun _ z _ => go _ ev wsp ⟨ns.mpr (Or.inl z), named_m, nv⟩) (fun _ z z2 _ => K2 wc wsp (fun q => ?_)) (fun _ z z2 _ => go _ ev wsp ⟨ns.mpr (Or.inr z2), named_m, nv⟩)
    rcases ns.mp q.1 with w | w
    · exact z w
    · exact w z2
  · have ev : u = d_v (nI t') u := by unfold d_v; rw [am_ite_f (nI_n1 (by omega))]
    have nt := named_n (K := K) hL hC hc ht
    have ws := w_sup_B hs ht wu
    have bad1 : ¬ w_sup (nI s') (nI t') u → Q (some (.int (-1))) (am_si h L) := fun q => K1 (fun w => q w.2)
    rw [← ev] at K2 go
    rcases ur with rfl | ⟨u', hu, rfl⟩
    · have n1 : ¬ nI s' = -1 := nI_n1 (by omega)
      have n2 : ¬ nI t' = -1 := nI_n1 (by omega)
      have wsp : ¬ s' = t' → w_sup (nI s') (nI t') (-1) := fun z => ws.mpr ⟨z, n1, n2⟩
      have b2 : ¬ s' = t' → ¬ (C_named K c' (nI s') ∧ C_named K c' (nI t')) → Q (some (.int (-2))) (am_si h L) := fun z q => K2 wc (wsp z) (fun w => q ⟨w.1, w.2.1⟩)
      refine l_Q_dB hB hL c' s' t' hc hs ht hd hw (fun z _ => bad1 (fun q => (ws.mp q).1 z)) (fun _ z _ => absurd z n2) (fun z _ _ a b _ => go _ rfl (wsp z) ⟨ns.mpr (Or.inl a), nt.mpr (Or.inl b), named_m⟩) (fun z _ _ a b e _ => b2 z (fun q => ?_)) (fun z _ _ a b e _ => go _ rfl (wsp z) ⟨ns.mpr (Or.inl a), nt.mpr (Or.inr e), named_m⟩) (fun z _ _ a b _ => b2 z (fun q => ?_)) (fun z _ _ a b e _ => go _ rfl (wsp z) ⟨ns.mpr (Or.inr b), nt.mpr (Or.inl e), named_m⟩) (fun z _ _ a b e f _ => b2 z (fun q => ?_)) (fun z _ _ a b e f _ => go _ rfl (wsp z) ⟨ns.mpr (Or.inr b), nt.mpr (Or.inr f), named_m⟩) (fun _ _ z _ => absurd z n1)
      · rcases nt.mp q.2 with w | w
        · exact b w
        · exact w e
      · rcases ns.mp q.1 with w | w
        · exact a w
        · exact w b
      · rcases nt.mp q.2 with w | w
        · exact e w
        · exact w f
    · have nu := named_n (K := K) hL hC hc hu
      have ie : ∀ {a b : Nat}, a < 12 → b < 12 → (nI a = nI b ↔ a = b) := fun a b => nI_eq (by omega) (by omega)
      rw [ie hs hu, ie ht hu] at ws
      have g2 : ¬ s' = t' → ¬ t' = u' → ¬ s' = u' → (C_named K c' (nI s') → C_named K c' (nI t') → C_named K c' (nI u') → False) → Q (some (.int (-2))) (am_si h L) := fun a b e q => K2 wc (ws.mpr ⟨a, e, b⟩) (fun w => q w.1 w.2.1 w.2.2)
      have g3 : ¬ s' = t' → ¬ t' = u' → ¬ s' = u' → (s' = c' ∨ ¬ jn L 37 s' = 0) → (t' = c' ∨ ¬ jn L 37 t' = 0) → (u' = c' ∨ ¬ jn L 37 u' = 0) → am_wp d 37 134 [some (.ref 36), some (.int (nI c')), some (.int (nI s')), some (.int (nI t')), some (.int (nI u')), some (.int (nI u')), none, none] [] (am_si h L) Q := fun a b e x y z => go _ rfl (ws.mpr ⟨a, e, b⟩) ⟨ns.mpr x, nt.mpr y, nu.mpr z⟩
      have no : ∀ {a : Nat}, (C_named K c' (nI a) ↔ a = c' ∨ ¬ jn L 37 a = 0) → ¬ a = c' → jn L 37 a = 0 → ¬ C_named K c' (nI a) := fun e z1 z2 q => by
        rcases e.mp q with w | w
        · exact z1 w
        · exact w z2
      refine l_Q_dC hB hL c' s' t' u' hc hs ht hu hd hw (fun z0 _ => bad1 (fun q => (ws.mp q).1 z0)) (fun z0 z1 _ => bad1 (fun q => (ws.mp q).2.2 z1)) (fun z0 z1 z2 z3 z4 z5 _ => g3 z0 z1 z2 (Or.inl z3) (Or.inl z4) (Or.inl z5)) (fun z0 z1 z2 z3 z4 z5 z6 _ => g3 z0 z1 z2 (Or.inl z3) (Or.inl z4) (Or.inr z6)) (fun z0 z1 z2 z3 z4 z5 z6 _ => g2 z0 z1 z2 (fun qs qt qu => no nu z5 z6 qu)) (fun z0 z1 z2 z3 z4 z5 _ => g2 z0 z1 z2 (fun qs qt qu => no nt z4 z5 qt)) (fun z0 z1 z2 z3 z4 z5 z6 _ => g3 z0 z1 z2 (Or.inl z3) (Or.inr z5) (Or.inl z6)) (fun z0 z1 z2 z3 z4 z5 z6 z7 _ => g3 z0 z1 z2 (Or.inl z3) (Or.inr z5) (Or.inr z7)) (fun z0 z1 z2 z3 z4 z5 z6 z7 _ => g2 z0 z1 z2 (fun qs qt qu => no nu z6 z7 qu)) (fun z0 z1 z2 z3 z4 _ => g2 z0 z1 z2 (fun qs qt qu => no ns z3 z4 qs)) (fun z0 z1 z2 z3 z4 z5 z6 _ => g3 z0 z1 z2 (Or.inr z4) (Or.inl z5) (Or.inl z6)) (fun z0 z1 z2 z3 z4 z5 z6 z7 _ => g3 z0 z1 z2 (Or.inr z4) (Or.inl z5) (Or.inr z7)) (fun z0 z1 z2 z3 z4 z5 z6 z7 _ => g2 z0 z1 z2 (fun qs qt qu => no nu z6 z7 qu)) (fun z0 z1 z2 z3 z4 z5 z6 _ => g2 z0 z1 z2 (fun qs qt qu => no nt z5 z6 qt)) (fun z0 z1 z2 z3 z4 z5 z6 z7 _ => g3 z0 z1 z2 (Or.inr z4) (Or.inr z6) (Or.inl z7)) (fun z0 z1 z2 z3 z4 z5 z6 z7 z8 _ => g3 z0 z1 z2 (Or.inr z4) (Or.inr z6) (Or.inr z8)) (fun z0 z1 z2 z3 z4 z5 z6 z7 z8 _ => g2 z0 z1 z2 (fun qs qt qu => no nu z7 z8 qu)) (fun z0 z1 z2 _ => bad1 (fun q => (ws.mp q).2.1 z2))
