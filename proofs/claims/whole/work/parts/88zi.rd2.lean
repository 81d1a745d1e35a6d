/-! define in the reference: from the copy of the supers to its end. -/
theorem R_fg_v {g : Nat} : ∀ m k J p, R_fg g m k J 58 p = if 144 * g + k ≤ p ∧ p < 144 * g + k + m then nI 0 else J 58 p := by
  intro m
  induction m with
  | zero => intro k J p; rw [R_fg, if_neg (by omega)]
  | succ m ih =>
    intro k J p
    rw [R_fg, ih]
    by_cases z : p = 144 * g + k
    · rw [if_neg (by omega), if_pos (by omega), z, am_u2_s]
    · rw [u2_ne z]
      by_cases z2 : 144 * g + (k + 1) ≤ p ∧ p < 144 * g + (k + 1) + m
      · rw [if_pos z2, if_pos (by omega)]
      · rw [if_neg z2, if_neg (by omega)]
theorem R_fg_0 {J : Nat → Nat → Int32} {g i : Nat} (hi : i < 144) : R_forget J g 58 (144 * g + i) = nI 0 := by
  unfold R_forget
  rw [R_fg_v, if_pos (by omega)]
theorem R_fg_n {J : Nat → Nat → Int32} {g p : Nat} (h : ∀ i, i < 144 → ¬ p = 144 * g + i) : R_forget J g 58 p = J 58 p := by
  unfold R_forget
  rw [R_fg_v, if_neg (fun q => h (p - 144 * g) (by omega) (by omega))]
theorem nI_0le {n : Nat} (h : n < 2 ^ 31) : (0 : Int32) ≤ nI n := Int32.not_lt.mp (nI_pos h)
theorem rd_l1 {d : am_D} {h : am_H} {Q : Option Value → am_H → Prop} {c s : Nat} {t u v : Int32} (hB : am_B h) {L : Nat → Nat → Int32} (hd : 2 ≤ d.1) (hw : 45 ≤ d.2) (K1 : ∀ L2, am_ty2 L2 → (∀ q, ¬ q = 41 → L2 q = L q) → (∀ j, j < 36 → L2 41 j = L 38 j) → am_wp d 37 235 [some (.ref 36), some (.int (nI c)), some (.int (nI s)), some (.int t), some (.int u), some (.int v), none, none] [] (am_si h L2) Q) : ∀ m k L1, k + m = 36 → am_ty2 L1 → (∀ q, ¬ q = 41 → L1 q = L q) → (∀ j, j < k → L1 41 j = L 38 j) → am_wp d 37 208 [some (.ref 36), some (.int (nI c)), some (.int (nI s)), some (.int t), some (.int u), some (.int v), (some (.int (nI (k)))), none] [] (am_si h L1) Q := by
  intro m
  induction m with
  | zero =>
    intro k L1 hk hT hf hj
    refine l_Q_l1 hB hT c s k t u v (by omega) hd hw (fun _ _ => ?_) (fun z => absurd (by omega) z)
    exact wp_L (L := [some (.ref 36), some (.int (nI c)), some (.int (nI s)), some (.int t), some (.int u), some (.int v), none, none]) ⟨Or.inr rfl, Or.inr rfl, Or.inr rfl, Or.inr rfl, Or.inr rfl, Or.inr rfl, Or.inl rfl, Or.inl rfl, True.intro⟩ (K1 L1 hT hf (fun j q => hj j (by omega)))
  | succ m ih =>
    intro k L1 hk hT hf hj
    refine l_Q_l1 hB hT c s k t u v (by omega) hd hw (fun z => by omega) (fun _ hT2 => ?_)
    refine ih (k + 1) _ (by omega) hT2 (fun q n => by rw [fr_u n]; exact hf q n) (fun j q => ?_)
    by_cases z : j = k
    · rw [z, am_u2_s, hf 38 (by decide)]
    · rw [u2_ne z]; exact hj j (by omega)
theorem rd_l3 {d : am_D} {h : am_H} {Q : Option Value → am_H → Prop} {c s : Nat} {t u v : Int32} (hB : am_B h) {L : Nat → Nat → Int32} (hd : 2 ≤ d.1) (hw : 45 ≤ d.2) (K1 : ∀ L2, am_ty2 L2 → (∀ q, ¬ q = 38 → L2 q = L q) → (∀ j, j < 36 → L2 38 j = L 41 j) → (∀ j, 36 ≤ j → L2 38 j = L 38 j) → am_wp d 37 367 [some (.ref 36), some (.int (nI c)), some (.int (nI s)), some (.int t), some (.int u), some (.int v), none, none] [] (am_si h L2) Q) : ∀ m k L1, k + m = 36 → am_ty2 L1 → (∀ q, ¬ q = 38 → L1 q = L q) → (∀ j, j < k → L1 38 j = L 41 j) → (∀ j, 36 ≤ j → L1 38 j = L 38 j) → am_wp d 37 340 [some (.ref 36), some (.int (nI c)), some (.int (nI s)), some (.int t), some (.int u), some (.int v), (some (.int (nI (k)))), none] [] (am_si h L1) Q := by
  intro m
  induction m with
  | zero =>
    intro k L1 hk hT hf hj hg
    refine l_Q_l3 hB hT c s k t u v (by omega) hd hw (fun _ _ => ?_) (fun z => absurd (by omega) z)
    exact wp_L (L := [some (.ref 36), some (.int (nI c)), some (.int (nI s)), some (.int t), some (.int u), some (.int v), none, none]) ⟨Or.inr rfl, Or.inr rfl, Or.inr rfl, Or.inr rfl, Or.inr rfl, Or.inr rfl, Or.inl rfl, Or.inl rfl, True.intro⟩ (K1 L1 hT hf (fun j q => hj j (by omega)) hg)
  | succ m ih =>
    intro k L1 hk hT hf hj hg
    refine l_Q_l3 hB hT c s k t u v (by omega) hd hw (fun z => by omega) (fun _ hT2 => ?_)
    refine ih (k + 1) _ (by omega) hT2 (fun q n => by rw [fr_u n]; exact hf q n) (fun j q => ?_) (fun j q => ?_)
    · by_cases z : j = k
      · rw [z, am_u2_s, hf 41 (by decide)]
      · rw [u2_ne z]; exact hj j (by omega)
    · rw [u2_ne (by omega)]; exact hg j q
/-- the check of the orders -/
theorem rd_chk {d : am_D} {h : am_H} {Q : Option Value → am_H → Prop} {c s : Nat} {t u v : Int32} (hB : am_B h) {K L : Nat → Nat → Int32} {T : Nat → Int32} (hd : 2 ≤ d.1) (hw : 45 ≤ d.2) (hL : am_ty2 L) (hK : am_ty2 K) (hC : rl_C K L) (hV : Cv K) (hc : c < 12) (hD : ∀ d, d < 12 → (∃ n r, Dr T d n r) ∨ Dn T d) (hag : ∀ L1 : Nat → Nat → Int32, am_ty2 L1 → L1 41 = L 41 → ∀ d, d < 12 → agr T d L1) (K1 : (∃ d, d < 12 ∧ bel K c d ∧ Dn T d) → ∀ L2, am_ty2 L2 → (∀ q, ¬ q = 42 → L2 q = L q) → Q (some (.int (-5))) (am_si h L2)) (K2 : (∀ d, d < 12 → bel K c d → ∃ n r, Dr T d n r) → ∀ L2, am_ty2 L2 → (∀ q, ¬ q = 42 → L2 q = L q) → am_wp d 37 330 [some (.ref 36), some (.int (nI c)), some (.int (nI s)), some (.int t), some (.int u), some (.int v), none, none] [] (am_si h L2) Q) : ∀ m k L1, k + m = 12 → am_ty2 L1 → (∀ q, ¬ q = 42 → L1 q = L q) → (∀ d, d < k → bel K c d → ∃ n r, Dr T d n r) → am_wp d 37 270 [some (.ref 36), some (.int (nI c)), some (.int (nI s)), some (.int t), some (.int u), some (.int v), (some (.int (nI (k)))), none] [] (am_si h L1) Q := by
  intro m
  induction m with
  | zero =>
    intro k L1 hk hT hf hg
    refine l_Q_l2 hB hT c s k t u v hc (by omega) hd hw (fun _ _ => ?_) (fun z => absurd (by omega) z) (fun z => absurd (by omega) z) (fun z => absurd (by omega) z) (fun z => absurd (by omega) z) (fun z => absurd (by omega) z)
    exact wp_L (L := [some (.ref 36), some (.int (nI c)), some (.int (nI s)), some (.int t), some (.int u), some (.int v), none, none]) ⟨Or.inr rfl, Or.inr rfl, Or.inr rfl, Or.inr rfl, Or.inr rfl, Or.inr rfl, Or.inl rfl, Or.inl rfl, True.intro⟩ (K2 (fun d q => hg d (by omega)) L1 hT hf)
  | succ m ih =>
    intro k L1 hk hT hf hg
    have hk12 : k < 12 := by omega
    have hC1 : rl_C K L1 := rl_C_cg3 hC (fun q _ _ _ n => hf q n)
    have nx : (bel K c k → ∃ n r, Dr T k n r) → ∀ L2, am_ty2 L2 → (∀ q, ¬ q = 42 → L2 q = L q) → am_wp d 37 324 [some (.ref 36), some (.int (nI c)), some (.int (nI s)), some (.int t), some (.int u), some (.int v), (some (.int (nI (k)))), none] [] (am_si h L2) Q := fun w L2 hT2 hf2 => by
      refine l_Q_d324 hB hT2 c s k t u v hk12 hd hw (fun _ => ?_)
      refine ih (k + 1) L2 (by omega) hT2 hf2 (fun d q b => ?_)
      by_cases z : d = k
      · rw [z] at b ⊢; exact w b
      · exact hg d (by omega) b
    have ar : bel K c k → am_wp d 37 315 [some (.ref 36), some (.int (nI c)), some (.int (nI s)), some (.int t), some (.int u), some (.int v), (some (.int (nI (k)))), none] [.int (nI k), .ref 36] (am_si h L1) Q := fun b => by
      have A := hag L1 hT (hf 41 (by decide)) k hk12
      rcases hD k hk12 with ⟨n, r, D⟩ | D
      · obtain ⟨L2, e1, e2, e3⟩ := D.2.2.2.2 L1 A
        refine j_call (ml := 10) k37_315 rfl (show 0 < d.1 by omega) (show 19 + 10 ≤ d.2 by omega) ⟨Nat.le_of_ble_eq_true rfl, Nat.le_of_ble_eq_true rfl, am_obB hB rfl, Nat.le_of_ble_eq_true rfl⟩ rfl (rest := []) rfl (s_R_arrange hB hT k hk12 e1) (fun r h1 hq => ?_)
        obtain ⟨rfl, rfl, hT2⟩ := hq
        refine l_Q_d318 hB hT2 c s k t u v (nI n) hc hd hw (fun _ _ => nx (fun _ => ⟨n, _, D⟩) L2 hT2 (fun q n => (e3 q n).trans (hf q n))) (fun z => absurd (nI_0le (show n < 2 ^ 31 by have := D.1; omega)) z)
      · obtain ⟨L2, e1, e3⟩ := D.2 L1 A
        refine j_call (ml := 10) k37_315 rfl (show 0 < d.1 by omega) (show 19 + 10 ≤ d.2 by omega) ⟨Nat.le_of_ble_eq_true rfl, Nat.le_of_ble_eq_true rfl, am_obB hB rfl, Nat.le_of_ble_eq_true rfl⟩ rfl (rest := []) rfl (s_R_arrange hB hT k hk12 e1) (fun r h1 hq => ?_)
        obtain ⟨rfl, rfl, hT2⟩ := hq
        refine l_Q_d318 hB hT2 c s k t u v (-1) hc hd hw (fun z => absurd z (by decide)) (fun _ _ => K1 ⟨k, hk12, b, D⟩ L2 hT2 (fun q n => (e3 q n).trans (hf q n)))
    refine l_Q_l2 hB hT c s k t u v hc (by omega) hd hw (fun z => by omega) (fun _ z _ => ar (Or.inl z)) (fun _ z z2 _ => nx (fun b => ?_) L1 hT hf) (fun _ z z2 z3 _ => nx (fun b => ?_) L1 hT hf) (fun _ z z2 z3 z4 _ => nx (fun b => ?_) L1 hT hf) (fun _ z z2 z3 z4 _ => ar (Or.inr ⟨(th_n hT hC1).mp z2, (R_sub_C hC1).mp z4⟩))
    · rcases b with b | ⟨b1, b2⟩
      · exact absurd b z
      · exact absurd z2 ((th_n hT hC1).mpr b1)
    · rcases b with b | ⟨b1, b2⟩
      · exact absurd b z
      · exact absurd z3 ((th_n hT hC1).mpr (Rea_th hV (ty_A hK (by decide)) hk12 b1 ((C_place_R hK hV hk12 hc b1).mp b2)))
    · rcases b with b | ⟨b1, b2⟩
      · exact absurd b z
      · exact absurd ((R_sub_C hC1).mpr b2) z4
theorem rd_l5 {d : am_D} {h : am_H} {Q : Option Value → am_H → Prop} {c s : Nat} {t u v : Int32} (hB : am_B h) {L : Nat → Nat → Int32} {k : Nat} (hd : 2 ≤ d.1) (hw : 45 ≤ d.2) (hk : k < 12) (hn : jn L 40 k ≤ 12) (K1 : ∀ L2, am_ty2 L2 → (∀ q, ¬ q = 39 → L2 q = L q) → (∀ i, i < jn L 40 k → L2 39 (12 * k + i) = nI (jn L 42 i)) → (∀ p, ¬ (∃ i, i < jn L 40 k ∧ p = 12 * k + i) → L2 39 p = L 39 p) → am_wp d 37 444 [some (.ref 36), some (.int (nI c)), some (.int (nI s)), some (.int t), some (.int u), some (.int v), (some (.int (nI (k)))), none] [] (am_si h L2) Q) : ∀ m j L1, j + m = jn L 40 k → am_ty2 L1 → (∀ q, ¬ q = 39 → L1 q = L q) → (∀ i, i < j → L1 39 (12 * k + i) = nI (jn L 42 i)) → (∀ p, ¬ (∃ i, i < j ∧ p = 12 * k + i) → L1 39 p = L 39 p) → am_wp d 37 406 [some (.ref 36), some (.int (nI c)), some (.int (nI s)), some (.int t), some (.int u), some (.int v), (some (.int (nI (k)))), (some (.int (nI (j))))] [] (am_si h L1) Q := by
  intro m
  induction m with
  | zero =>
    intro j L1 hj hT hf h1 h2
    have ej : j = jn L 40 k := by omega
    have e40 : jn L1 40 k = jn L 40 k := jn_cg (hf 40 (by decide))
    refine l_Q_l5 hB hT c s k j t u v hk (by omega) hd hw (fun _ _ => ?_) (fun z => absurd (by omega) z)
    rw [ej] at h1 h2
    exact wp_L (L := [some (.ref 36), some (.int (nI c)), some (.int (nI s)), some (.int t), some (.int u), some (.int v), (some (.int (nI (k)))), none]) ⟨Or.inr rfl, Or.inr rfl, Or.inr rfl, Or.inr rfl, Or.inr rfl, Or.inr rfl, Or.inr rfl, Or.inl rfl, True.intro⟩ (K1 L1 hT hf h1 h2)
  | succ m ih =>
    intro j L1 hj hT hf h1 h2
    have e40 : jn L1 40 k = jn L 40 k := jn_cg (hf 40 (by decide))
    have e42 : jn L1 42 j = jn L 42 j := jn_cg (hf 42 (by decide))
    refine l_Q_l5 hB hT c s k j t u v hk (by omega) hd hw (fun z => by omega) (fun _ hT2 => ?_)
    refine ih (j + 1) _ (by omega) hT2 (fun q n => by rw [fr_u n]; exact hf q n) (fun i q => ?_) (fun p q => ?_)
    · by_cases z : i = j
      · rw [z, am_u2_s, e42]
      · rw [u2_ne (by omega)]; exact h1 i (by omega)
    · rw [u2_ne (fun e => q ⟨j, by omega, e⟩)]
      exact h2 p (fun ⟨i, a, b⟩ => q ⟨i, by omega, b⟩)
/-- the rows are made anew -/
theorem rd_rn {d : am_D} {h : am_H} {Q : Option Value → am_H → Prop} {c s : Nat} {t u v : Int32} (hB : am_B h) {K L : Nat → Nat → Int32} {bl : Nat → Prop} {n : Nat → Nat} {r : Nat → Nat → Nat} (hd : 2 ≤ d.1) (hw : 45 ≤ d.2) (hd12 : ∀ k, k < 12 → bl k → n k ≤ 12) (hA : ∀ k, k < 12 → ∀ L1 : Nat → Nat → Int32, am_ty2 L1 → L1 41 = L 41 → L1 37 = L 37 → ¬ jn L 37 k = 0 → bl k → ∃ L2, R_arrange L1 k = some (nI (n k), L2) ∧ (∀ i, i < n k → L2 42 i = nI (r k i)) ∧ ∀ q, ¬ q = 42 → L2 q = L1 q) (hA' : ∀ k, k < 12 → ∀ L1 : Nat → Nat → Int32, am_ty2 L1 → L1 41 = L 41 → ¬ jn L 37 k = 0 → ¬ bl k → ∃ L2, R_arrange L1 k = some (nI (jn L 40 k), L2) ∧ (∀ i, i < jn L 40 k → L2 42 i = L 39 (12 * k + i)) ∧ ∀ q, ¬ q = 42 → L2 q = L1 q) (hbl : ∀ k, k < 12 → bl k → ¬ jn L 37 k = 0) (hL : am_ty2 L) (K1 : ∀ L2, am_ty2 L2 → (∀ q, ¬ q = 39 → ¬ q = 40 → ¬ q = 42 → L2 q = L q) → Pst bl n r 12 (L 40) (L2 40) (L 39) (L2 39) → am_wp d 37 450 [some (.ref 36), some (.int (nI c)), some (.int (nI s)), some (.int t), some (.int u), some (.int v), none, none] [] (am_si h L2) Q) : ∀ m k L1, k + m = 12 → am_ty2 L1 → (∀ q, ¬ q = 39 → ¬ q = 40 → ¬ q = 42 → L1 q = L q) → Pst bl n r k (L 40) (L1 40) (L 39) (L1 39) → am_wp d 37 370 [some (.ref 36), some (.int (nI c)), some (.int (nI s)), some (.int t), some (.int u), some (.int v), (some (.int (nI (k)))), none] [] (am_si h L1) Q := by
  intro m
  induction m with
  | zero =>
    intro k L1 hk hT hf hp
    refine l_Q_l4 hB hT c s k t u v (by omega) hd hw (fun _ _ => ?_) (fun z => absurd (by omega) z) (fun z => absurd (by omega) z)
    rw [show k = 12 by omega] at hp
    exact wp_L (L := [some (.ref 36), some (.int (nI c)), some (.int (nI s)), some (.int t), some (.int u), some (.int v), none, none]) ⟨Or.inr rfl, Or.inr rfl, Or.inr rfl, Or.inr rfl, Or.inr rfl, Or.inr rfl, Or.inl rfl, Or.inl rfl, True.intro⟩ (K1 L1 hT hf hp)
  | succ m ih =>
    intro k L1 hk hT hf hp
    have hk12 : k < 12 := by omega
    have e37 : L1 37 = L 37 := hf 37 (by decide) (by decide) (by decide)
    have j37 : jn L1 37 k = jn L 37 k := jn_cg e37
    have pk := Pst_k hp (fun d a b => hd12 d (by omega) b)
    have nx : ∀ L2, am_ty2 L2 → (∀ q, ¬ q = 39 → ¬ q = 40 → ¬ q = 42 → L2 q = L q) → Pst bl n r (k + 1) (L 40) (L2 40) (L 39) (L2 39) → am_wp d 37 444 [some (.ref 36), some (.int (nI c)), some (.int (nI s)), some (.int t), some (.int u), some (.int v), (some (.int (nI (k)))), none] [] (am_si h L2) Q := fun L2 hT2 hf2 hp2 => l_Q_d444 hB hT2 c s k t u v hk12 hd hw (fun _ => ih (k + 1) L2 (by omega) hT2 hf2 hp2)
    refine l_Q_l4 hB hT c s k t u v (by omega) hd hw (fun z => by omega) (fun _ z _ => ?_) (fun _ z _ => ?_)
    · rw [j37] at z
      by_cases b : bl k
      · obtain ⟨L2, e1, e2, e3⟩ := hA k hk12 L1 hT (hf 41 (by decide) (by decide) (by decide)) e37 z b
        have n12 := hd12 k hk12 b
        refine j_call (ml := 10) k37_399 rfl (show 0 < d.1 by omega) (show 19 + 10 ≤ d.2 by omega) ⟨Nat.le_of_ble_eq_true rfl, Nat.le_of_ble_eq_true rfl, am_obB hB rfl, Nat.le_of_ble_eq_true rfl⟩ rfl (rest := [.int (nI k), .ref 40]) rfl (s_R_arrange hB hT k hk12 e1) (fun r h1 hq => ?_)
        obtain ⟨rfl, rfl, hT2⟩ := hq
        refine l_Q_d402 hB hT2 c s k t u v (n k) hk12 (by omega) hd hw (fun hT3 => ?_)
        have j40 : jn (am_u2 L2 40 k (nI (n k))) 40 k = n k := by
          unfold jn; rw [am_u2_s]; exact jx_nI (by omega)
        have j42 : ∀ i, jn (am_u2 L2 40 k (nI (n k))) 42 i = jn L2 42 i := fun i => jn_cg (fr_u (by decide))
        refine rd_l5 (L := am_u2 L2 40 k (nI (n k))) hB hd hw hk12 (by omega) (fun L3 hT4 f3 g3 o3 => ?_) (jn (am_u2 L2 40 k (nI (n k))) 40 k) 0 _ (by omega) hT3 (fun q _ => rfl) (fun i q => by omega) (fun p _ => rfl)
        rw [j40] at g3 o3
        refine nx L3 hT4 (fun q a b e => ?_) (Pst_y hp (fun d a b => hd12 d (by omega) b) b ?_ (fun j hj => ?_) (fun i hi => ?_) (fun j hj => ?_))
        · rw [f3 q a, fr_u b, e3 q e]; exact hf q a b e
        · rw [f3 40 (by decide), am_u2_s]
        · rw [f3 40 (by decide), u2_ne hj, e3 40 (by decide)]
        · rw [g3 i hi, j42]
          unfold jn
          rw [e2 i hi]
          have b42 := (ty_n hT2 (q := 42) (B := 12) (by decide) (by decide) i)
          unfold jn at b42
          rw [e2 i hi] at b42
          exact b42.1.symm
        · rw [o3 j hj, fr_u (by decide), e3 39 (by decide)]
      · obtain ⟨L2, e1, e2, e3⟩ := hA' k hk12 L1 hT (hf 41 (by decide) (by decide) (by decide)) z b
        have n12 := (ty_n hL (q := 40) (B := 13) (by decide) (by decide) k)
        refine j_call (ml := 10) k37_399 rfl (show 0 < d.1 by omega) (show 19 + 10 ≤ d.2 by omega) ⟨Nat.le_of_ble_eq_true rfl, Nat.le_of_ble_eq_true rfl, am_obB hB rfl, Nat.le_of_ble_eq_true rfl⟩ rfl (rest := [.int (nI k), .ref 40]) rfl (s_R_arrange hB hT k hk12 e1) (fun r h1 hq => ?_)
        obtain ⟨rfl, rfl, hT2⟩ := hq
        refine l_Q_d402 hB hT2 c s k t u v (jn L 40 k) hk12 n12.2 hd hw (fun hT3 => ?_)
        have j40 : jn (am_u2 L2 40 k (nI (jn L 40 k))) 40 k = jn L 40 k := by
          show (am_u2 L2 40 k (nI (jn L 40 k)) 40 k).toNatClampNeg = _; rw [am_u2_s]; exact jx_nI (by omega)
        have j42 : ∀ i, jn (am_u2 L2 40 k (nI (jn L 40 k))) 42 i = jn L2 42 i := fun i => jn_cg (fr_u (by decide))
        refine rd_l5 (L := am_u2 L2 40 k (nI (jn L 40 k))) hB hd hw hk12 (by omega) (fun L3 hT4 f3 g3 o3 => ?_) (jn (am_u2 L2 40 k (nI (jn L 40 k))) 40 k) 0 _ (by omega) hT3 (fun q _ => rfl) (fun i q => by omega) (fun p _ => rfl)
        rw [j40] at g3 o3
        have x40 : L3 40 = L1 40 := by
          rw [f3 40 (by decide)]
          refine funext fun j => ?_
          by_cases zj : j = k
          · rw [zj, am_u2_s, pk.1]; exact n12.1.symm
          · rw [u2_ne zj, e3 40 (by decide)]
        have x39 : L3 39 = L1 39 := by
          refine funext fun p => ?_
          by_cases zp : ∃ i, i < jn L 40 k ∧ p = 12 * k + i
          · obtain ⟨i, a, rfl⟩ := zp
            rw [g3 i a, j42, pk.2 i (by omega), ← e2 i a]
            exact (ty_n hT2 (q := 42) (B := 12) (by decide) (by decide) i).1.symm
          · rw [o3 p zp, fr_u (by decide), e3 39 (by decide)]
        refine nx L3 hT4 (fun q a b e => ?_) ?_
        · rw [f3 q a, fr_u b, e3 q e]; exact hf q a b e
        · rw [x40, x39]; exact Pst_n hp b
    · rw [j37] at z
      exact nx L1 hT hf (Pst_n hp (fun b => hbl k hk12 b z))
theorem rd_l6 {d : am_D} {h : am_H} {Q : Option Value → am_H → Prop} {c s : Nat} {t u v : Int32} (hB : am_B h) {L : Nat → Nat → Int32} (hd : 2 ≤ d.1) (hw : 45 ≤ d.2) (K1 : ∀ L2, am_ty2 L2 → (∀ q, ¬ q = 58 → L2 q = L q) → (∀ g, g < 5 → ∀ i, i < 144 → L2 58 (144 * g + i) = nI 0) → am_wp d 37 471 [some (.ref 36), some (.int (nI c)), some (.int (nI s)), some (.int t), some (.int u), some (.int v), none, none] [] (am_si h L2) Q) : ∀ m k L1, k + m = 5 → am_ty2 L1 → (∀ q, ¬ q = 58 → L1 q = L q) → (∀ g, g < k → ∀ i, i < 144 → L1 58 (144 * g + i) = nI 0) → am_wp d 37 453 [some (.ref 36), some (.int (nI c)), some (.int (nI s)), some (.int t), some (.int u), some (.int v), (some (.int (nI (k)))), none] [] (am_si h L1) Q := by
  intro m
  induction m with
  | zero =>
    intro k L1 hk hT hf hg
    refine l_Q_l6 hB hT c s k t u v (by omega) hd hw (fun _ _ => ?_) (fun z => absurd (by omega) z)
    exact wp_L (L := [some (.ref 36), some (.int (nI c)), some (.int (nI s)), some (.int t), some (.int u), some (.int v), none, none]) ⟨Or.inr rfl, Or.inr rfl, Or.inr rfl, Or.inr rfl, Or.inr rfl, Or.inr rfl, Or.inl rfl, Or.inl rfl, True.intro⟩ (K1 L1 hT hf (fun g q => hg g (by omega)))
  | succ m ih =>
    intro k L1 hk hT hf hg
    refine l_Q_l6 hB hT c s k t u v (by omega) hd hw (fun z => by omega) (fun _ hT2 => ?_)
    refine ih (k + 1) _ (by omega) hT2 (fun q n => by rw [fr_R_forget q n]; exact hf q n) (fun g q i hi => ?_)
    by_cases z : g = k
    · rw [z]; exact R_fg_0 hi
    · rw [R_fg_n (fun i' _ e => by omega)]; exact hg g (by omega) i hi
