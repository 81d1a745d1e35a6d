/-! The effective here, the rows there. -/
noncomputable def rkx (K : Nat → Nat → Int32) (g x : Nat) (yi : Int32) (m : Nat) : Int32 := am_ite (K 17 m = nI g) (K_rank K m x yi) (-1)
theorem K_at_cg {J K : Nat → Nat → Int32} (h4 : K 4 = J 4) (h5 : K 5 = J 5) (h11 : K 11 = J 11) {s i : Nat} : K_at K s i = K_at J s i := by
  unfold K_at
  rw [C_place_cg h4 h5, jn_cg h11]
theorem K_rank_cg {J K : Nat → Nat → Int32} (h4 : K 4 = J 4) (h5 : K 5 = J 5) (h11 : K 11 = J 11) (h19 : K 19 = J 19) (h20 : K 20 = J 20) {m x : Nat} {y : Int32} : K_rank K m x y = K_rank J m x y := by
  unfold K_rank
  rw [K_at_cg h4 h5 h11, K_at_cg h4 h5 h11, jn_cg h19, jn_cg h20, show M_second K m = M_second J m from congrFun h20 m]
theorem K_rk_c {g x e : Nat} {y : Int32} : ∀ m k J, (∀ q, ¬ q = 26 → K_rk g x y e m k J q = J q) ∧ (∀ i, i < k → K_rk g x y e m k J 26 i = J 26 i) ∧ ∀ i, k ≤ i → i < k + m → K_rk g x y e m k J 26 i = rkx J g x y i := by
  intro m
  induction m with
  | zero => intro k J; rw [K_rk]; exact ⟨fun _ _ => rfl, fun _ _ => rfl, fun i a b => by omega⟩
  | succ m ih =>
    intro k J
    have main : ∀ v, v = rkx J g x y k → (∀ q, ¬ q = 26 → K_rk g x y e m (k + 1) (am_u2 J 26 k v) q = J q) ∧ (∀ i, i < k → K_rk g x y e m (k + 1) (am_u2 J 26 k v) 26 i = J 26 i) ∧ ∀ i, k ≤ i → i < k + (m + 1) → K_rk g x y e m (k + 1) (am_u2 J 26 k v) 26 i = rkx J g x y i := fun v hv => by
      obtain ⟨a, b, c⟩ := ih (k + 1) (am_u2 J 26 k v)
      refine ⟨fun q hq => (a q hq).trans (fr_u hq), fun i hi => by rw [b i (by omega), u2_ne (by omega)], fun i x1 x2 => ?_⟩
      by_cases z : i = k
      · rw [z, b k (by omega), am_u2_s]; exact hv
      · rw [c i (by omega) (by omega)]
        unfold rkx
        rw [K_rank_cg (fr_u (by decide)) (fr_u (by decide)) (fr_u (by decide)) (fr_u (by decide)) (fr_u (by decide)), show am_u2 J 26 k v 17 i = J 17 i from congrFun (fr_u (by decide)) i]
    rw [K_rk]
    by_cases z : J 17 k = nI g
    · rw [am_ite_t (isOf_t z)]
      exact main _ (by unfold rkx; rw [am_ite_t z])
    · rw [am_ite_f (isOf_f z)]
      exact main _ (by unfold rkx; rw [am_ite_f z])
theorem seg_rk {J : Nat → Nat → Int32} {u kd lo hi : Nat} {rk rk' : Nat → Int32} (h : seg J u rk kd lo hi) (hr : ∀ m, m < 16 → rk' m = rk m) : seg J u rk' kd lo hi := by
  unfold seg at h ⊢
  refine enm_P (P := fun m => m < 16 ∧ 0 ≤ rk m ∧ jn J 18 m = kd) (enm_lt h (fun m m' a b q => ?_)) (fun m => ⟨fun q => ⟨q.1, by rw [← hr m q.1]; exact q.2.1, q.2.2⟩, fun q => ⟨q.1, by rw [hr m q.1]; exact q.2.1, q.2.2⟩⟩)
  unfold ltk at q ⊢
  rw [hr m a.1, hr m' b.1]
  exact q
theorem cont_rk {J : Nat → Nat → Int32} {e u : Nat} {rk rk' : Nat → Int32} (h : cont J e u rk) (hr : ∀ m, m < 16 → rk' m = rk m) : cont J e u rk' := ⟨seg_rk h.1 hr, seg_rk h.2.1 hr, seg_rk h.2.2.1 hr, seg_rk h.2.2.2 hr⟩
/-- ranks and applicability -/
theorem rkx_ap {K L : Nat → Nat → Int32} (hK : am_ty2 K) (hL : am_ty2 L) (hC : rl_C K L) (hI : rl_I K L) (hM : rl_M K L) {g m x y : Nat} {yi : Int32} (hg : g < 5) (hm : m < 16) (hx : x < 12) (hy : y < 12) (hyi : jn K 16 g = 2 → yi = nI y) : (0 ≤ rkx K g x yi m ↔ apl L g x y m) ∧ (apl L g x y m → K 17 m = nI g ∧ ¬ K_rank K m x yi = -1) := by
  unfold rkx apl
  rw [← hM.1.2.1]
  by_cases z : K 17 m = nI g
  · rw [am_ite_t z]
    rcases rk_v hK hL hC hI hM hg hm hx hy z hyi with ⟨q, r⟩ | ⟨a, b, ha, hb, q, _, _, _, hr⟩
    · rw [q]
      exact ⟨⟨fun w => absurd w (by decide), fun w => absurd w.2 r⟩, fun w => absurd w.2 r⟩
    · have e : ∃ c, c < 2 ^ 31 ∧ K_rank K m x yi = nI c := by
        rcases hr with ⟨_, w, _⟩ | ⟨_, w⟩
        · exact ⟨_, by omega, w⟩
        · exact ⟨_, by omega, w⟩
      obtain ⟨c, hc, ec⟩ := e
      rw [ec]
      exact ⟨⟨fun _ => ⟨z, q⟩, fun _ => nI_pos' hc⟩, fun _ => ⟨z, nI_n1 hc⟩⟩
  · rw [am_ite_f z]
    exact ⟨⟨fun w => absurd w (by decide), fun w => absurd w.1 z⟩, fun w => absurd w.1 z⟩
/-- before and the ranks -/
theorem rkx_lt {K L : Nat → Nat → Int32} (hK : am_ty2 K) (hL : am_ty2 L) (hC : rl_C K L) (hI : rl_I K L) (hM : rl_M K L) {g x y : Nat} {yi : Int32} (hg : g < 5) (hx : x < 12) (hy : y < 12) (hyi : jn K 16 g = 2 → yi = nI y) : ∀ w v, w < 16 → v < 16 → ¬ w = v → apl L g x y w → apl L g x y v → jn L 51 v = jn L 51 w → (R_bef L w v x y ↔ rkx K g x yi w < rkx K g x yi v) ∧ ¬ rkx K g x yi w = rkx K g x yi v := fun w v hw hv hn aw av hk => by
  have r1 := (rkx_ap hK hL hC hI hM hg hw hx hy hyi).2 aw
  have r2 := (rkx_ap hK hL hC hI hM hg hv hx hy hyi).2 av
  obtain ⟨a, b, ha, hb, e1, e2, ne, iff⟩ := rk_lt hK hL hC hI hM hg hw hv hx hy r1.1 r2.1 hyi hn (by rw [← jn_e hM.1.2.2.1, ← jn_e hM.1.2.2.1]; exact hk.symm) r1.2 r2.2
  unfold rkx
  rw [am_ite_t r1.1, am_ite_t r2.1, e1, e2]
  exact ⟨iff.trans (nI_ltI ha hb).symm, fun q => ne ((nI_eq ha hb).mp q)⟩
/-- what findAnew leaves: the right content -/
theorem K_find_cont {K L : Nat → Nat → Int32} (hK : am_ty2 K) (hL : am_ty2 L) (hC : rl_C K L) (hI : rl_I K L) (hM : rl_M K L) {g x y e u : Nat} {yi : Int32} (hg : g < 5) (hx : x < 12) (hy : y < 12) (hyi : jn K 16 g = 2 → yi = nI y) (hne : ¬ e = u) (h74 : 74 ≤ e) (h75 : 74 ≤ u) (hE : ef_ok K e u) : cont (K_find K g x yi e u) e u (rkx K g x yi) ∧ ef_ok (K_find K g x yi e u) e u ∧ (∀ q, ¬ q = e → ¬ q = u → ¬ q = 26 → ¬ q = 22 → K_find K g x yi e u q = K q) ∧ K_find K g x yi e u e 5 = K e 5 ∧ K_find K g x yi e u 22 7 = K 22 7 + nI 1 ∧ ∀ j, ¬ j = 7 → K_find K g x yi e u 22 j = K 22 j := by
  unfold K_find
  obtain ⟨a, b, c⟩ := K_rk_c (g := g) (x := x) (e := e) (y := yi) 16 0 (am_u2 K 22 7 (K 22 7 + nI 1))
  generalize hX : K_rk g x yi e 16 0 (am_u2 K 22 7 (K 22 7 + nI 1)) = X at *
  have xq : ∀ q, ¬ q = 26 → ¬ q = 22 → X q = K q := fun q p1 p2 => (a q p1).trans (fr_u p2)
  have x26 : ∀ m, m < 16 → X 26 m = rkx K g x yi m := fun m hm => by
    rw [c m (Nat.zero_le m) (by omega)]
    unfold rkx
    rw [K_rank_cg (fr_u (by decide)) (fr_u (by decide)) (fr_u (by decide)) (fr_u (by decide)) (fr_u (by decide)), show am_u2 K 22 7 (K 22 7 + nI 1) 17 m = K 17 m from congrFun (fr_u (by decide)) m]
  have x18 : X 18 = K 18 := xq 18 (by decide) (by decide)
  have hd : ∀ kd m m', m < 16 → m' < 16 → ¬ m = m' → 0 ≤ X 26 m → 0 ≤ X 26 m' → jn X 18 m = kd → jn X 18 m' = kd → ¬ X 26 m = X 26 m' := fun kd m m' p1 p2 p3 p4 p5 p6 p7 => by
    rw [x26 m p1] at p4 ⊢
    rw [x26 m' p2] at p5 ⊢
    rw [jn_cg x18] at p6 p7
    exact (rkx_lt hK hL hC hI hM hg hx hy hyi m m' p1 p2 p3 ((rkx_ap hK hL hC hI hM hg p1 hx hy hyi).1.mp p4) ((rkx_ap hK hL hC hI hM hg p2 hx hy hyi).1.mp p5) (by rw [jn_e hM.1.2.2.1, jn_e hM.1.2.2.1, p6, p7])).2
  have e26 : ¬ e = 26 := fun z => by omega
  have e22 : ¬ e = 22 := fun z => by omega
  have u26 : ¬ u = 26 := fun z => by omega
  have u22 : ¬ u = 22 := fun z => by omega
  obtain ⟨q1, q2, q3, q4⟩ := K_fs_cont hne h74 h75 (ef_cg hE (xq e e26 e22) (xq u u26 u22)) hd
  have n22 : K_fs e u X 22 = X 22 := q3 22 (fun z => e22 z.symm) (fun z => u22 z.symm)
  refine ⟨cont_rk q1 (fun m hm => (x26 m hm).symm), q2, fun q p1 p2 p3 p4 => (q3 q p1 p2).trans (xq q p3 p4), by rw [q4, xq e e26 e22], by rw [n22, a 22 (by decide), am_u2_s], fun j hj => by rw [n22, a 22 (by decide), u2_ne hj]⟩
/-- here as there: sizes and rows -/
theorem cont_rows {J L2 : Nat → Nat → Int32} {e u g x y lv : Nat} {rk : Nat → Int32} (hc : cont J e u rk) (hr : rws L2 g x y lv 16 rk) (hap : ∀ m, m < 16 → (0 ≤ rk m ↔ apl L2 g x y m)) (h18 : J 18 = L2 51) : jn J e 2 = s_bf L2 lv ∧ jn J e 3 = s_pr L2 lv ∧ jn J e 4 = s_af L2 lv ∧ jn J e 1 = s_sz L2 lv ∧ ∀ p, p < s_sz L2 lv → jn J u p = jn L2 59 ((16 * ((4 * lv) + kdp L2 lv p)) + plp L2 lv p) := by
  obtain ⟨c3, c1, c0, c2⟩ := hc
  have conv : ∀ kd, kd < 4 → enm (fun i => jn L2 59 (16 * (4 * lv + kd) + i)) 0 (mk L2 lv kd) (fun m => m < 16 ∧ 0 ≤ rk m ∧ jn J 18 m = kd) (fun m m' => rk m < rk m') := fun kd hk => enm_P (hr kd hk) (fun m => by
    rw [jn_e h18]
    exact ⟨fun q => ⟨q.1, (hap m q.1).mp q.2.1, q.2.2⟩, fun q => ⟨q.1, (hap m q.1).mpr q.2.1, q.2.2⟩⟩)
  have as : ∀ m m', (rk m < rk m') → ¬ rk m' < rk m := fun m m' q => i_as q
  have up : ∀ kd lo hi, ¬ kd = 2 → seg J u rk kd lo hi → enm (fun i => jn J u i) lo hi (fun m => m < 16 ∧ 0 ≤ rk m ∧ jn J 18 m = kd) (fun m m' => rk m < rk m') := fun kd lo hi hk q => enm_a q (fun _ _ _ => rfl) (fun m m' w => w.2 hk)
  have u3 := enm_uni (up 3 _ _ (by decide) c3) (conv 3 (by decide)) (fun m m' _ _ q => as m m' q)
  have u1 := enm_uni (up 1 _ _ (by decide) c1) (conv 1 (by decide)) (fun m m' _ _ q => as m m' q)
  have u0 := enm_uni (up 0 _ _ (by decide) c0) (conv 0 (by decide)) (fun m m' _ _ q => as m m' q)
  have dn : enm (fun i => jn J u (jn J e 4 + jn J e 1 - 1 - i)) (jn J e 4) (jn J e 1) (fun m => m < 16 ∧ 0 ≤ rk m ∧ jn J 18 m = 2) (fun m m' => rk m < rk m') := enm_a (enm_rev c2) (fun _ _ _ => rfl) (fun m m' w => w.1 rfl)
  have u2 := enm_uni dn (conv 2 (by decide)) (fun m m' _ _ q => as m m' q)
  have l3 := c3.1
  have l1 := c1.1
  have l0 := c0.1
  have l2 := c2.1
  have e2 : jn J e 2 = s_bf L2 lv := by unfold s_bf; have := u3.1; omega
  have e3 : jn J e 3 = s_pr L2 lv := by unfold s_pr; have := u1.1; unfold s_bf at e2; omega
  have e4 : jn J e 4 = s_af L2 lv := by unfold s_af; have := u0.1; unfold s_pr at e3; omega
  have e1 : jn J e 1 = s_sz L2 lv := by unfold s_sz; have := u2.1; unfold s_af at e4; omega
  refine ⟨e2, e3, e4, e1, fun p hp => ?_⟩
  unfold kdp plp
  by_cases z1 : p < s_bf L2 lv
  · rw [if_pos z1, if_pos z1]
    have q := u3.2 p (by omega)
    rw [Nat.zero_add] at q
    exact q
  · rw [if_neg z1, if_neg z1]
    by_cases z2 : p < s_pr L2 lv
    · rw [if_pos z2, if_pos z2]
      have q := u1.2 (p - s_bf L2 lv) (by omega)
      rw [e2, show s_bf L2 lv + (p - s_bf L2 lv) = p by omega] at q
      exact q.trans (by rw [Nat.zero_add])
    · rw [if_neg z2, if_neg z2]
      by_cases z3 : p < s_af L2 lv
      · rw [if_pos z3, if_pos z3]
        have q := u0.2 (p - s_pr L2 lv) (by omega)
        rw [e3, show s_pr L2 lv + (p - s_pr L2 lv) = p by omega] at q
        exact q.trans (by rw [Nat.zero_add])
      · rw [if_neg z3, if_neg z3]
        have q := u2.2 (s_sz L2 lv - 1 - p) (by omega)
        rw [e4, e1, show s_af L2 lv + s_sz L2 lv - 1 - (s_af L2 lv + (s_sz L2 lv - 1 - p)) = p by omega] at q
        exact q.trans (by rw [Nat.zero_add])
/-- for classes and for instances the ranks are alike, where no instance is named -/
theorem rkc_rkx {K L : Nat → Nat → Int32} (hK : am_ty2 K) (hL : am_ty2 L) (hC : rl_C K L) (hI : rl_I K L) (hM : rl_M K L) {g x y c2 : Nat} {yi : Int32} (hg : g < 5) (hx : x < 12) (hy : y < 12) (hyi : jn K 16 g = 2 → yi = nI y) (hc2 : jn K 16 g = 2 → c2 = jn K 11 y) (hno : ∀ m, m < 16 → apl L g x y m → ¬ ins_ L g m) : ∀ m, m < 16 → rkx K g x yi m = rkc K g (jn K 11 x) c2 m := fun m hm => by
  have ap := rkx_ap hK hL hC hI hM hg hm hx hy hyi
  have hno := hno m hm
  unfold rkx rkc
  by_cases z : K 17 m = nI g
  · rw [am_ite_t z, am_ite_t z]
    have q := hM.2.1 m hm g hg z
    have e19 : jn L 52 m = jn K 19 m := jn_e hM.1.2.2.2.1
    have e16 : jn L 49 g = jn K 16 g := jn_e hM.1.1
    have b53 := ty_n hL (q := 53) (B := 28) (by decide) (by decide) m
    -- a rank that is there comes from classes alone
    have none_ : ¬ apl L g x y m → K_rank K m x yi = -1 := fun na => by
      rcases rk_v hK hL hC hI hM hg hm hx hy z hyi with ⟨w, _⟩ | ⟨a, b, _, _, w, _⟩
      · exact w
      · exact absurd ⟨by rw [← hM.1.2.1]; exact z, w⟩ na
    have atl : ∀ s i, s < 16 → atc K s (jn K 11 i) = K_at K s i := fun s i hs => by
      unfold atc K_at
      rw [am_ite_t hs, am_ite_t hs]
    have ath : ∀ s c, ¬ s < 16 → atc K s c = -1 := fun s c hs => by
      unfold atc
      rw [am_ite_f hs]
    unfold rkm
    by_cases s1 : jn K 19 m < 16
    · rw [atl _ _ s1]
      by_cases neg : K_at K (jn K 19 m) x < 0
      · rw [am_ite_t neg]
        unfold K_rank
        rw [am_ite_t neg]
        rcases at_v hK hC hI (s := jn K 19 m) (i := x) ⟨(ty_n hK (q := 19) (B := 28) (by decide) (by decide) m).2, q.2.1⟩ hx with ⟨a1, _⟩ | ⟨a, ha, a1, _⟩
        · exact a1
        · rw [a1] at neg; exact absurd neg (nI_pos (by omega))
      · rw [am_ite_f neg]
        by_cases p2 : jn K 16 g = 2
        · obtain ⟨q1, q2⟩ := q.2.2.1 p2
          have n20 : ¬ K 20 m = -1 := by rw [q1, b53.1]; exact nI_n1 (by omega)
          have e20 : jn K 20 m = jn L 53 m := by unfold jn; rw [q1]
          rw [am_ite_f n20, hc2 p2]
          by_cases s2 : jn K 20 m < 16
          · rw [atl _ _ s2]
            unfold K_rank
            rw [am_ite_f neg, show M_second K m = K 20 m from rfl, am_ite_f n20, hyi p2, jx_nI (by omega)]
          · rw [ath _ _ s2, am_ite_f (by decide)]
            exact none_ (fun a => hno a (Or.inr ⟨by rw [e16]; exact p2, by rw [← e20]; omega⟩))
        · obtain ⟨q1, q2⟩ := q.2.2.2 p2
          rw [am_ite_t q1]
          unfold K_rank
          rw [am_ite_f neg, show M_second K m = K 20 m from rfl, am_ite_t q1]
    · rw [ath _ _ s1, am_ite_t (by decide)]
      exact none_ (fun a => hno a (Or.inl (by rw [e19]; omega)))
  · rw [am_ite_f z, am_ite_f z]
/-- whether an instance is named, here as there -/
theorem K_fi_c {g x : Nat} {y : Int32} {J : Nat → Nat → Int32} : ∀ m k, K_fi g x y m k J ↔ ∃ i, k ≤ i ∧ i < k + m ∧ M_isOf J i g ∧ M_names J i ∧ ¬ K_rank J i x y < 0 := by
  intro m
  induction m with
  | zero => intro k; rw [K_fi]; exact ⟨fun q => q.elim, fun ⟨i, a, b, _⟩ => by omega⟩
  | succ m ih =>
    intro k
    rw [K_fi]
    have nx : (¬ (M_isOf J k g ∧ M_names J k ∧ ¬ K_rank J k x y < 0)) → (K_fi g x y m (k + 1) J ↔ ∃ i, k ≤ i ∧ i < k + (m + 1) ∧ M_isOf J i g ∧ M_names J i ∧ ¬ K_rank J i x y < 0) := fun hn => (ih (k + 1)).trans ⟨fun ⟨i, a, b, c⟩ => ⟨i, by omega, by omega, c⟩, fun ⟨i, a, b, c⟩ => ⟨i, by have : ¬ i = k := fun e => hn (by rw [← e]; exact c); omega, by omega, c⟩⟩
    by_cases z1 : M_isOf J k g
    · rw [am_ite_t z1]
      by_cases z2 : M_names J k
      · rw [am_ite_t z2]
        by_cases z3 : K_rank J k x y < 0
        · rw [am_ite_t z3]; exact nx (fun q => q.2.2 z3)
        · rw [am_ite_f z3]; exact ⟨fun _ => ⟨k, Nat.le_refl k, by omega, z1, z2, z3⟩, fun _ => True.intro⟩
      · rw [am_ite_f z2]; exact nx (fun q => z2 q.2.1)
    · rw [am_ite_f z1]; exact nx (fun q => z1 q.1)
