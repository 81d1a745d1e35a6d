/-! What enter does behind its rows; what is kept anew. -/
noncomputable def en3 (ow : Int32) (key : Nat) (L : Nat → Nat → Int32) : Nat → Nat → Int32 := am_ite (ow = 0) (am_ite (jn L 58 key = 0) (am_u2 (am_u2 L 73 5 (L 73 5 + nI 1)) 58 key (nI 1)) (am_u2 L 58 key (nI 1))) (am_u2 L 73 5 (L 73 5 + nI 1))
def en4 (lv g x y : Nat) (L : Nat → Nat → Int32) : Nat → Nat → Int32 := am_u2 (am_u2 (am_u2 (am_u2 L 61 lv (nI x)) 62 lv (nI y)) 63 lv (nI g)) 36 38 (nI (lv + 1))
theorem R_e3_c {g x y : Nat} {L L' : Nat → Nat → Int32} (h60 : L' 60 = L 60) (h36 : L' 36 = L 36) : R_e3 g x y 4 0 L' 0 = s_sz L (jn L 36 38) := by
  rw [R_e3, R_e3, R_e3, R_e3, R_e3]
  unfold s_sz mk
  rw [jn_cg h36, jn_cg h60, jn_cg h60, jn_cg h60, jn_cg h60]
  simp only [Nat.zero_add, Nat.reduceAdd]
  omega
theorem R_e9_c {g x y key lv : Nat} {ow : Int32} {L : Nat → Nat → Int32} (hl : jn L 36 38 = lv) (k2 : jn L 49 g = 2 → key = ((144 * g) + (12 * (jn L 45 x))) + (jn L 45 y)) (k1 : ¬ jn L 49 g = 2 → key = ((144 * g) + (12 * (jn L 45 x))) + 0) : R_e9 g x y ow L = am_ite (s_sz L lv = 0) (nI 0, am_u2 (en3 ow key L) 36 40 (-8)) (am_ite (mk L lv 0 = 0) (nI 0, am_u2 (en3 ow key L) 36 40 (-9)) (nI 1, R_begin (en4 lv g x y (en3 ow key L)) 3 0)) := by
  subst hl
  unfold R_e9
  by_cases z : jn L 49 g = 2
  · rw [am_ite_t z, ← k2 z]
    by_cases z1 : ow = 0
    · rw [am_ite_t z1]
      by_cases z2 : jn L 58 key = 0
      · have e : en3 ow key L = am_u2 (am_u2 L 73 5 (L 73 5 + nI 1)) 58 key (nI 1) := by unfold en3; rw [am_ite_t z1, am_ite_t z2]
        rw [am_ite_t z2, e, R_e3_c (L := L) (L' := am_u2 (am_u2 L 73 5 (L 73 5 + nI 1)) 58 key (nI 1)) rfl rfl]; rfl
      · have e : en3 ow key L = am_u2 L 58 key (nI 1) := by unfold en3; rw [am_ite_t z1, am_ite_f z2]
        rw [am_ite_f z2, e, R_e3_c (L := L) (L' := am_u2 L 58 key (nI 1)) rfl rfl]; rfl
    · have e : en3 ow key L = am_u2 L 73 5 (L 73 5 + nI 1) := by unfold en3; rw [am_ite_f z1]
      rw [am_ite_f z1, e, R_e3_c (L := L) (L' := am_u2 L 73 5 (L 73 5 + nI 1)) rfl rfl]; rfl
  · rw [am_ite_f z, ← k1 z]
    by_cases z1 : ow = 0
    · rw [am_ite_t z1]
      by_cases z2 : jn L 58 key = 0
      · have e : en3 ow key L = am_u2 (am_u2 L 73 5 (L 73 5 + nI 1)) 58 key (nI 1) := by unfold en3; rw [am_ite_t z1, am_ite_t z2]
        rw [am_ite_t z2, e, R_e3_c (L := L) (L' := am_u2 (am_u2 L 73 5 (L 73 5 + nI 1)) 58 key (nI 1)) rfl rfl]; rfl
      · have e : en3 ow key L = am_u2 L 58 key (nI 1) := by unfold en3; rw [am_ite_t z1, am_ite_f z2]
        rw [am_ite_f z2, e, R_e3_c (L := L) (L' := am_u2 L 58 key (nI 1)) rfl rfl]; rfl
    · have e : en3 ow key L = am_u2 L 73 5 (L 73 5 + nI 1) := by unfold en3; rw [am_ite_f z1]
      rw [am_ite_f z1, e, R_e3_c (L := L) (L' := am_u2 L 73 5 (L 73 5 + nI 1)) rfl rfl]; rfl
/-- what en3 leaves alone -/
theorem en3_o {ow : Int32} {key : Nat} {L : Nat → Nat → Int32} : (∀ q, ¬ q = 58 → ¬ q = 73 → en3 ow key L q = L q) ∧ (∀ j, ¬ j = 5 → en3 ow key L 73 j = L 73 j) ∧ (∀ j, ¬ j = key → en3 ow key L 58 j = L 58 j) := by
  unfold en3
  by_cases z1 : ow = 0
  · rw [am_ite_t z1]
    by_cases z2 : jn L 58 key = 0
    · rw [am_ite_t z2]
      exact ⟨fun q a b => by rw [fr_u a, fr_u b], fun j a => by rw [fr_u (by decide), u2_ne a], fun j a => by rw [u2_ne a, fr_u (by decide)]⟩
    · rw [am_ite_f z2]
      exact ⟨fun q a b => by rw [fr_u a], fun j a => by rw [fr_u (by decide)], fun j a => by rw [u2_ne a]⟩
  · rw [am_ite_f z1]
    exact ⟨fun q a b => by rw [fr_u b], fun j a => by rw [u2_ne a], fun j a => by rw [fr_u (by decide)]⟩
/-- a new one is kept -/
theorem rl_K_new {h h' : am_H} {J J' L L' : Nat → Nat → Int32} {cc g c1 c2 e u : Nat} (hk : rl_K h J L cc) (hg : g < 5) (h1 : c1 < 12) (h2 : c2 < 12) (h0 : ¬ jn L 58 (144 * g + (12 * c1 + c2)) = 1) (p1 : am_P h' 23 (144 * g + (12 * c1 + c2)) = some e) (p2 : am_P h' e 0 = some u) (a5 : J' e 5 = J 24 g) (hc : cont J' e u (rkc J' g c1 c2)) (ho : ∀ k, k < 720 → ¬ k = 144 * g + (12 * c1 + c2) → am_P h' 23 k = am_P h 23 k ∧ ∀ e', am_P h 23 k = some e' → J' e' = J e' ∧ ∀ u', am_P h' e' 0 = some u' → am_P h e' 0 = some u' ∧ J' u' = J u') (hf : ∀ q, (q = 4 ∨ q = 5 ∨ (16 ≤ q ∧ q ≤ 20) ∨ q = 24) → J' q = J q) (h25 : J' 25 g = J 25 g + nI 1 ∧ ∀ j, ¬ j = g → J' 25 j = J 25 j) (h58 : L' 58 (144 * g + (12 * c1 + c2)) = nI 1 ∧ ∀ j, ¬ j = 144 * g + (12 * c1 + c2) → L' 58 j = L 58 j) : rl_K h' J' L' cc := by
  have e24 := hf 24 (Or.inr (Or.inr (Or.inr rfl)))
  have j58 : ∀ k, ¬ k = 144 * g + (12 * c1 + c2) → jn L' 58 k = jn L 58 k := fun k hk => by unfold jn; rw [h58.2 k hk]
  have k58 : jn L' 58 (144 * g + (12 * c1 + c2)) = 1 := by unfold jn; rw [h58.1]; rfl
  refine ⟨fun g' hg' => ?_, fun g' hg' k hk2 => ?_, fun g' hg' => ?_, fun g' d1 d2 e' u' a b d q1 q2 q3 => ?_⟩
  · obtain ⟨a, x, y, z⟩ := hk.1 g' hg'
    refine ⟨a, x, by rw [e24]; exact y, fun k hk2 e' hp => ?_⟩
    by_cases ek : 144 * g' + k = 144 * g + (12 * c1 + c2)
    · have eg : g' = g := by omega
      rw [ek, p1] at hp
      have ee : e = e' := Option.some.inj hp
      rw [← ee, a5, ← eg]
      exact ⟨a, Nat.le_refl a, y⟩
    · obtain ⟨o1, o2⟩ := ho _ (by omega) ek
      rw [o1] at hp
      rw [(o2 e' hp).1]
      exact z k hk2 e' hp
  · by_cases ek : 144 * g' + k = 144 * g + (12 * c1 + c2)
    · have eg : g' = g := by omega
      rw [ek]
      exact ⟨fun _ => ⟨e, p1, by rw [a5, e24, eg]⟩, fun _ => k58⟩
    · rw [j58 _ ek, hk.2.1 g' hg' k hk2]
      obtain ⟨o1, o2⟩ := ho _ (by omega) ek
      constructor
      · rintro ⟨e', x, y⟩
        exact ⟨e', by rw [o1]; exact x, by rw [(o2 e' x).1, e24]; exact y⟩
      · rintro ⟨e', x, y⟩
        rw [o1] at x
        exact ⟨e', x, by rw [(o2 e' x).1, e24] at y; exact y⟩
  · by_cases eg : g' = g
    · rw [eg, h25.1, hk.2.2.1 g hg]
      have n : cn_of (fun k => jn L' 58 (144 * g + k) = 1) 144 = cn_of (fun k => jn L 58 (144 * g + k) = 1) 144 + 1 := cn_set (p := fun k => jn L 58 (144 * g + k) = 1) (q := fun k => jn L' 58 (144 * g + k) = 1) (j := 12 * c1 + c2) h0 k58 144 (by omega) (fun i _ hi => by rw [j58 _ (by omega)])
      rw [n, nI_add]
    · rw [h25.2 g' eg, hk.2.2.1 g' hg']
      exact congrArg nI (cn_congr 144 (fun k hk2 => by rw [j58 _ (by omega)]))
  · by_cases ek : 144 * g' + (12 * d1 + d2) = 144 * g + (12 * c1 + c2)
    · have eg : g' = g := by omega
      have e1 : d1 = c1 := by omega
      have e2 : d2 = c2 := by omega
      rw [ek, p1] at q1
      have ee : e = e' := Option.some.inj q1
      rw [← ee, p2] at q3
      have eu : u = u' := Option.some.inj q3
      rw [← ee, ← eu, eg, e1, e2]
      exact hc
    · obtain ⟨o1, o2⟩ := ho _ (by omega) ek
      rw [o1] at q1
      have g1 := o2 e' q1
      obtain ⟨g2, g3⟩ := g1.2 u' q3
      rw [g1.1, e24] at q2
      exact cont_cg (hk.2.2.2 g' d1 d2 e' u' a b d q1 q2 g2) g1.1 g3 (hf 18 (by omega)) (fun m => rkc_cg (hf 4 (by omega)) (hf 5 (by omega)) (hf 17 (by omega)) (hf 19 (by omega)) (hf 20 (by omega)))
/-- whether an instance is named by one that is applicable -/
theorem forI_c {K L : Nat → Nat → Int32} (hK : am_ty2 K) (hL : am_ty2 L) (hC : rl_C K L) (hI : rl_I K L) (hM : rl_M K L) {g x y : Nat} {yi : Int32} (hg : g < 5) (hx : x < 12) (hy : y < 12) (hyi : jn K 16 g = 2 → yi = nI y) : K_forI K g x yi ↔ ∃ w, w < 16 ∧ apl L g x y w ∧ ins_ L g w := by
  unfold K_forI
  rw [K_fi_c]
  have e16 : jn L 49 g = jn K 16 g := jn_e hM.1.1
  have nm : ∀ w, w < 16 → K 17 w = nI g → (M_names K w ↔ ins_ L g w) := fun w hw z => by
    have e19 : jn L 52 w = jn K 19 w := jn_e hM.1.2.2.2.1
    have q := hM.2.1 w hw g hg z
    have b53 := ty_n hL (q := 53) (B := 28) (by decide) (by decide) w
    unfold M_names ins_
    rw [e19, e16]
    by_cases s1 : 16 ≤ jn K 19 w
    · rw [am_ite_t s1]
      exact ⟨fun _ => Or.inl (by omega), fun _ => True.intro⟩
    · rw [am_ite_f s1]
      by_cases p2 : jn K 16 g = 2
      · rw [(q.2.2.1 p2).1, b53.1]
        by_cases s2 : jn L 53 w < 16
        · rw [am_ite_t ((nI_ltI (by omega) (by omega)).mpr s2)]
          exact ⟨fun q => q.elim, fun q => by omega⟩
        · rw [am_ite_f (fun q => s2 ((nI_ltI (by omega) (by omega)).mp q))]
          exact ⟨fun _ => Or.inr ⟨p2, by omega⟩, fun _ => True.intro⟩
      · rw [(q.2.2.2 p2).1, am_ite_t (by decide)]
        exact ⟨fun q => q.elim, fun q => by omega⟩
  have rk : ∀ w, w < 16 → K 17 w = nI g → (¬ K_rank K w x yi < 0 ↔ apl L g x y w) := fun w hw z => by
    rw [← (rkx_ap hK hL hC hI hM hg hw hx hy hyi).1]
    unfold rkx
    rw [am_ite_t z]
    exact Int32.not_lt
  constructor
  · rintro ⟨i, _, b, c, d, e⟩
    have z : K 17 i = nI g := Classical.byContradiction (fun n => isOf_f n c)
    exact ⟨i, by omega, (rk i (by omega) z).mp e, (nm i (by omega) z).mp d⟩
  · rintro ⟨w, a, b, c⟩
    have z : K 17 w = nI g := by rw [hM.1.2.1]; exact b.1
    exact ⟨w, Nat.zero_le w, by omega, isOf_t z, (nm w a z).mpr c, (rk w a z).mpr b⟩
