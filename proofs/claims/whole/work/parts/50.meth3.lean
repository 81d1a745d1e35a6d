/-! Methods: method answers alike. -/
def al_p (K : Nat → Nat → Int32) (g kind s : Nat) (t : Int32) (j : Nat) : Prop := K 17 j = nI g ∧ jn K 18 j = kind ∧ jn K 19 j = s ∧ K 20 j = t
def al_q (L : Nat → Nat → Int32) (g kind s sec : Nat) (j : Nat) : Prop := L 50 j = nI g ∧ jn L 51 j = kind ∧ jn L 52 j = s ∧ jn L 53 j = sec
def M_st (K : Nat → Nat → Int32) (p g kind s : Nat) (t : Int32) (body : Nat) : Nat → Nat → Int32 := am_u2 (am_u2 (am_u2 (am_u2 (am_u2 K 17 p (nI g)) 18 p (nI kind)) 19 p (nI s)) 20 p t) 21 p (nI body)
def R_st (L : Nat → Nat → Int32) (p g kind s sec body : Nat) : Nat → Nat → Int32 := am_u2 (am_u2 (am_u2 (am_u2 (am_u2 L 50 p (nI g)) 51 p (nI kind)) 52 p (nI s)) 53 p (nI sec)) 54 p (nI body)
theorem M_al_c {K : Nat → Nat → Int32} {g kind s : Nat} {t : Int32} : ∀ m k, k + m = 16 → (M_al g kind s t m k K = -1 ∧ ∀ j, k ≤ j → j < 16 → ¬ al_p K g kind s t j) ∨ ∃ j, k ≤ j ∧ j < 16 ∧ M_al g kind s t m k K = nI j ∧ al_p K g kind s t j := by
  intro m
  induction m with
  | zero => intro k hk; exact Or.inl ⟨rfl, fun j a b => absurd b (by omega)⟩
  | succ m ih =>
    intro k hk
    by_cases z : al_p K g kind s t k
    · refine Or.inr ⟨k, Nat.le_refl k, by omega, ?_, z⟩
      rw [M_al, am_ite_t (isOf_t z.1), am_ite_t z.2.1, am_ite_t z.2.2.1, am_ite_t z.2.2.2]
    · have e : M_al g kind s t (m + 1) k K = M_al g kind s t m (k + 1) K := by
        rw [M_al]
        by_cases z1 : K 17 k = nI g
        · rw [am_ite_t (isOf_t z1)]
          by_cases z2 : jn K 18 k = kind
          · rw [am_ite_t z2]
            by_cases z3 : jn K 19 k = s
            · rw [am_ite_t z3, am_ite_f (fun z4 => z ⟨z1, z2, z3, z4⟩)]
            · rw [am_ite_f z3]
          · rw [am_ite_f z2]
        · rw [am_ite_f (isOf_f z1)]
      rw [e]
      rcases ih (k + 1) (by omega) with ⟨a, b⟩ | ⟨j, a, b, c, d⟩
      · refine Or.inl ⟨a, fun j x y => ?_⟩
        by_cases q : j = k
        · rw [q]; exact z
        · exact b j (by omega) y
      · exact Or.inr ⟨j, by omega, b, c, d⟩
theorem R_m2_s {L : Nat → Nat → Int32} {g kind s body sec m k fr : Nat} (z : al_q L g kind s sec k) : R_m2 g kind s body sec (m + 1) k L fr = R_m2 g kind s body sec m (k + 1) L k := by
  rw [R_m2, am_ite_t z.1, am_ite_t z.2.1, am_ite_t z.2.2.1, am_ite_t z.2.2.2]
theorem R_m2_n {L : Nat → Nat → Int32} {g kind s body sec m k fr : Nat} (z : ¬ al_q L g kind s sec k) : R_m2 g kind s body sec (m + 1) k L fr = R_m2 g kind s body sec m (k + 1) L fr := by
  rw [R_m2]
  by_cases z1 : L 50 k = nI g
  · rw [am_ite_t z1]
    by_cases z2 : jn L 51 k = kind
    · rw [am_ite_t z2]
      by_cases z3 : jn L 52 k = s
      · rw [am_ite_t z3, am_ite_f (fun z4 => z ⟨z1, z2, z3, z4⟩)]
      · rw [am_ite_f z3]
    · rw [am_ite_f z2]
  · rw [am_ite_f z1]
theorem R_m2_none {L : Nat → Nat → Int32} {g kind s body sec : Nat} : ∀ m k fr, k + m = 16 → (∀ j, k ≤ j → j < 16 → ¬ al_q L g kind s sec j) → R_m2 g kind s body sec m k L fr = (L, fr) := by
  intro m
  induction m with
  | zero => intro k fr hk h; rfl
  | succ m ih => intro k fr hk h; rw [R_m2_n (h k (Nat.le_refl k) (by omega))]; exact ih (k + 1) fr (by omega) (fun j a b => h j (by omega) b)
theorem R_m2_one {L : Nat → Nat → Int32} {g kind s body sec p : Nat} (hp : al_q L g kind s sec p) (hu : ∀ j, j < 16 → ¬ j = p → ¬ al_q L g kind s sec j) : ∀ m k fr, k + m = 16 → k ≤ p → p < 16 → R_m2 g kind s body sec m k L fr = (L, p) := by
  intro m
  induction m with
  | zero => intro k fr hk h1 h2; omega
  | succ m ih =>
    intro k fr hk h1 h2
    by_cases q : k = p
    · rw [q, R_m2_s hp]
      exact R_m2_none m (p + 1) p (by omega) (fun j a b => hu j b (by omega))
    · rw [R_m2_n (hu k (by omega) q)]
      exact ih (k + 1) fr (by omega) (by omega) h2
theorem M_lf_c {K : Nat → Nat → Int32} : ∀ m k, k + m = 16 → (M_lf m k K = -1 ∧ ∀ j, k ≤ j → j < 16 → ¬ K 17 j = -1) ∨ ∃ j, k ≤ j ∧ j < 16 ∧ M_lf m k K = nI j ∧ K 17 j = -1 ∧ ∀ i, k ≤ i → i < j → ¬ K 17 i = -1 := by
  intro m
  induction m with
  | zero => intro k hk; exact Or.inl ⟨rfl, fun j a b => absurd b (by omega)⟩
  | succ m ih =>
    intro k hk
    rw [M_lf]
    by_cases z : K 17 k = -1
    · rw [am_ite_t z]; exact Or.inr ⟨k, Nat.le_refl k, by omega, rfl, z, fun i a b => absurd b (by omega)⟩
    · rw [am_ite_f z]
      rcases ih (k + 1) (by omega) with ⟨a, b⟩ | ⟨j, a, b, c, d, e⟩
      · refine Or.inl ⟨a, fun j x y => ?_⟩
        by_cases q : j = k
        · rw [q]; exact z
        · exact b j (by omega) y
      · refine Or.inr ⟨j, by omega, b, c, d, fun i x y => ?_⟩
        by_cases q : i = k
        · rw [q]; exact z
        · exact e i (by omega) y
theorem R_m1_none {L : Nat → Nat → Int32} {g kind s body sec : Nat} : ∀ m fr, (∀ j, j < m → 0 ≤ L 50 j) → R_m1 g kind s body sec m L fr = (L, fr) := by
  intro m
  induction m with
  | zero => intro fr h; rfl
  | succ m ih => intro fr h; rw [R_m1, am_ite_t (h m (by omega))]; exact ih fr (fun j a => h j (by omega))
theorem R_m1_one {L : Nat → Nat → Int32} {g kind s body sec p : Nat} (hp : ¬ 0 ≤ L 50 p) (hu : ∀ j, j < p → 0 ≤ L 50 j) : ∀ m fr, p < m → R_m1 g kind s body sec m L fr = (L, p) := by
  intro m
  induction m with
  | zero => intro fr h; omega
  | succ m ih =>
    intro fr h
    rw [R_m1]
    by_cases q : m = p
    · rw [q, am_ite_f hp]; exact R_m1_none p p hu
    · by_cases z : 0 ≤ L 50 m
      · rw [am_ite_t z]; exact ih fr (by omega)
      · rw [am_ite_f z]; exact ih m (by omega)
theorem rl_st {K L : Nat → Nat → Int32} (h : rl_M K L) {p g kind s sec body : Nat} {t c : Int32} (hg : g < 5) (hk : kind < 4) (hs : s < 28) (hs2 : s < 12 ∨ 16 ≤ s) (hsec : sec < 28) (hn : ¬ jn K 16 g = 0) (ht : (jn K 16 g = 2 ∧ t = nI sec ∧ (sec < 12 ∨ 16 ≤ sec)) ∨ (¬ jn K 16 g = 2 ∧ t = -1 ∧ sec = 0)) (hu : ∀ j, j < 16 → ¬ j = p → ¬ al_p K g kind s t j) (hc : c = nI (cn_of (fun m => ¬ am_u2 K 17 p (nI g) 17 m = -1) 16)) : rl_M (M_st (am_u2 K 15 6 c) p g kind s t body) (R_st L p g kind s sec body) := by
  obtain ⟨⟨h16, h17, h18, h19, h21⟩, hm, hv, hcn⟩ := h
  refine ⟨⟨h16, u2_eq h17 rfl, u2_eq h18 rfl, u2_eq h19 rfl, u2_eq h21 rfl⟩, fun m hm1 g' hg' h' => ?_, fun i j a b e1 e2 e3 e4 e5 => ?_, ?_⟩
  · have h' : am_u2 K 17 p (nI g) 17 m = nI g' := h'
    show ¬ jn K 16 g' = 0 ∧ (jx (am_u2 K 19 p (nI s) 19 m) < 12 ∨ 16 ≤ jx (am_u2 K 19 p (nI s) 19 m)) ∧ (jn K 16 g' = 2 → am_u2 K 20 p t 20 m = am_u2 L 53 p (nI sec) 53 m ∧ (jx (am_u2 L 53 p (nI sec) 53 m) < 12 ∨ 16 ≤ jx (am_u2 L 53 p (nI sec) 53 m))) ∧ (¬ jn K 16 g' = 2 → am_u2 K 20 p t 20 m = -1 ∧ am_u2 L 53 p (nI sec) 53 m = nI 0)
    by_cases q : m = p
    · rw [q, am_u2_s] at h'
      have e : g' = g := by rw [← jx_nI (n := g') (by omega), ← h', jx_nI (by omega)]
      rw [q, am_u2_s, am_u2_s, am_u2_s, e, jx_nI (by omega), jx_nI (by omega)]
      refine ⟨hn, hs2, fun r => ?_, fun r => ?_⟩
      · rcases ht with ⟨x, y, z⟩ | ⟨x, y, z⟩
        · exact ⟨y, z⟩
        · exact absurd r x
      · rcases ht with ⟨x, y, z⟩ | ⟨x, y, z⟩
        · exact absurd x r
        · exact ⟨y, by rw [z]⟩
    · rw [u2_ne q] at h' ⊢
      rw [u2_ne q, u2_ne q]
      exact hm m hm1 g' hg' h'
  · have e1 : ¬ am_u2 K 17 p (nI g) 17 i = -1 := e1
    have e2 : am_u2 K 17 p (nI g) 17 i = am_u2 K 17 p (nI g) 17 j := e2
    have e3 : am_u2 K 18 p (nI kind) 18 i = am_u2 K 18 p (nI kind) 18 j := e3
    have e4 : am_u2 K 19 p (nI s) 19 i = am_u2 K 19 p (nI s) 19 j := e4
    have e5 : am_u2 K 20 p t 20 i = am_u2 K 20 p t 20 j := e5
    by_cases q : i = p
    · by_cases q2 : j = p
      · rw [q, q2]
      · rw [q, am_u2_s, u2_ne q2] at e2 e3 e4 e5
        exact absurd ⟨e2.symm, by unfold jn; rw [← e3]; exact jx_nI (by omega), by unfold jn; rw [← e4]; exact jx_nI (by omega), e5.symm⟩ (hu j b q2)
    · by_cases q2 : j = p
      · rw [q2, am_u2_s, u2_ne q] at e2 e3 e4 e5
        exact absurd ⟨e2, by unfold jn; rw [e3]; exact jx_nI (by omega), by unfold jn; rw [e4]; exact jx_nI (by omega), e5⟩ (hu i a q)
      · rw [u2_ne q] at e1
        rw [u2_ne q, u2_ne q2] at e2 e3 e4 e5
        exact hv i j a b e1 e2 e3 e4 e5
  · show am_u2 K 15 6 c 15 6 = nI (cn_of (fun m => ¬ am_u2 K 17 p (nI g) 17 m = -1) 16)
    rw [am_u2_s, hc]
theorem al_pq {K L : Nat → Nat → Int32} (hL : am_ty2 L) (h : rl_M K L) {g kind s sec j : Nat} {t : Int32} (hg : g < 5) (hsec : sec < 28) (ht : (jn K 16 g = 2 ∧ t = nI sec ∧ (sec < 12 ∨ 16 ≤ sec)) ∨ (¬ jn K 16 g = 2 ∧ t = -1 ∧ sec = 0)) (hj : j < 16) : al_q L g kind s sec j ↔ al_p K g kind s t j := by
  obtain ⟨⟨h16, h17, h18, h19, h21⟩, hm, hv, hcn⟩ := h
  unfold al_q al_p
  rw [← h17, jn_e h18, jn_e h19]
  have e := hm j hj g hg
  constructor
  · rintro ⟨a, b, c, d⟩
    refine ⟨a, b, c, ?_⟩
    have e := e a
    rcases ht with ⟨x, y, z⟩ | ⟨x, y, z⟩
    · rw [(e.2.2.1 x).1, y, (ty_n hL (q := 53) (B := 28) (by decide) (by decide) j).1, d]
    · rw [(e.2.2.2 x).1, y]
  · rintro ⟨a, b, c, d⟩
    refine ⟨a, b, c, ?_⟩
    have e := e a
    rcases ht with ⟨x, y, z⟩ | ⟨x, y, z⟩
    · unfold jn; rw [← (e.2.2.1 x).1, d, y]; exact jx_nI (by omega)
    · unfold jn; rw [(e.2.2.2 x).2, z]; exact jx_nI (by decide)
/-- settling a method: alike -/
theorem eq_settle {K L : Nat → Nat → Int32} (hK : am_ty2 K) (hL : am_ty2 L) (h : rl_M K L) {g kind s sec body : Nat} {t : Int32} (hg : g < 5) (hk : kind < 4) (hs : s < 28) (hs2 : s < 12 ∨ 16 ≤ s) (hsec : sec < 28) (hn : ¬ jn K 16 g = 0) (ht : (jn K 16 g = 2 ∧ t = nI sec ∧ (sec < 12 ∨ 16 ≤ sec)) ∨ (¬ jn K 16 g = 2 ∧ t = -1 ∧ sec = 0)) : (M_settle K g kind s t body = (-3, K) ∧ R_m0 g kind s body sec L = (-3, L)) ∨ ∃ p L', p < 16 ∧ (M_settle K g kind s t body).1 = nI p ∧ R_m0 g kind s body sec L = (nI p, R_forget L' g) ∧ rl_M (M_settle K g kind s t body).2 L' := by
  have pq := fun j (hj : j < 16) => al_pq (kind := kind) (s := s) hL h hg hsec ht hj
  have f17 : ∀ j, 0 ≤ L 50 j ↔ ¬ K 17 j = -1 := fun j => by rw [← h.1.2.1]; exact ge0_17 (m17 hK j)
  rcases M_al_c (K := K) (g := g) (kind := kind) (s := s) (t := t) 16 0 (by omega) with ⟨a, b⟩ | ⟨p, a, b, c, d⟩
  · have nq : ∀ j, 0 ≤ j → j < 16 → ¬ al_q L g kind s sec j := fun j x y z => b j x y ((pq j y).mp z)
    rcases M_lf_c (K := K) 16 0 (by omega) with ⟨a2, b2⟩ | ⟨p, a2, b2, c2, d2, e2⟩
    · left
      unfold M_settle M_alike M_least R_m0
      rw [a, a2, am_ite_f (by decide), am_ite_f (by decide), R_m1_none 16 16 (fun j x => (f17 j).mpr (b2 j (by omega) x))]
      dsimp only
      rw [R_m2_none 16 0 16 (by omega) nq]
      dsimp only
      unfold R_m3
      rw [am_ite_t rfl]
      exact ⟨rfl, rfl⟩
    · right
      refine ⟨p, R_st L p g kind s sec body, b2, ?_, ?_, ?_⟩
      · unfold M_settle M_alike M_least
        rw [a, c2, am_ite_f (by decide), am_ite_t (nI_pos' (by omega)), jx_nI (by omega)]
      · unfold R_m0
        rw [R_m1_one (p := p) (fun q => (f17 p).mp q d2) (fun j x => (f17 j).mpr (e2 j (by omega) x)) 16 16 b2]
        dsimp only
        rw [R_m2_none 16 0 p (by omega) nq]
        dsimp only
        unfold R_m3
        rw [am_ite_f (by omega)]
        rfl
      · have e : (M_settle K g kind s t body).2 = M_st (am_u2 K 15 6 ((K 15 6) + (nI 1))) p g kind s t body := by
          unfold M_settle M_alike M_least
          rw [a, c2, am_ite_f (by decide), am_ite_t (nI_pos' (by omega)), jx_nI (by omega)]
          rfl
        rw [e]
        refine rl_st h hg hk hs hs2 hsec hn ht (fun j x _ => b j (by omega) x) ?_
        rw [h.2.2.2, nI_add]
        refine congrArg nI ?_
        refine (cn_set (j := p) (fun q => q d2) (by rw [am_u2_s]; exact nI_n1 (by omega)) 16 b2 (fun i _ hi => ?_)).symm
        rw [u2_ne hi]
  · right
    have hu : ∀ j, j < 16 → ¬ j = p → ¬ al_p K g kind s t j := fun j x y z => by
      refine y (h.2.2.1 j p x b (by rw [z.1]; exact nI_n1 (by omega)) (by rw [z.1, d.1]) ?_ ?_ (by rw [z.2.2.2, d.2.2.2]))
      · rw [(ty_n hK (q := 18) (B := 4) (by decide) (by decide) j).1, (ty_n hK (q := 18) (B := 4) (by decide) (by decide) p).1, z.2.1, d.2.1]
      · rw [(ty_n hK (q := 19) (B := 28) (by decide) (by decide) j).1, (ty_n hK (q := 19) (B := 28) (by decide) (by decide) p).1, z.2.2.1, d.2.2.1]
    refine ⟨p, R_st L p g kind s sec body, b, ?_, ?_, ?_⟩
    · unfold M_settle M_alike
      rw [c, am_ite_t (nI_pos' (by omega)), jx_nI (by omega)]
    · unfold R_m0
      have e1 : (R_m1 g kind s body sec 16 L 16).1 = L := (R_m1_le 16 L 16 (by omega) (by omega)).2
      rw [e1, R_m2_one ((pq p b).mpr d) (fun j x y z => hu j x y ((pq j x).mp z)) 16 0 _ (by omega) (by omega) b]
      dsimp only
      unfold R_m3
      rw [am_ite_f (by omega)]
      rfl
    · have e : (M_settle K g kind s t body).2 = M_st K p g kind s t body := by
        unfold M_settle M_alike
        rw [c, am_ite_t (nI_pos' (by omega)), jx_nI (by omega)]
        rfl
      rw [e]
      have big := rl_st (body := body) (c := K 15 6) h hg hk hs hs2 hsec hn ht hu (by
        rw [h.2.2.2]
        refine congrArg nI (cn_congr 16 (fun i hi => ?_))
        by_cases q : i = p
        · rw [q, am_u2_s, d.1]
        · rw [u2_ne q])
      exact rl_M_cg big (by show K 15 6 = am_u2 K 15 6 (K 15 6) 15 6; rw [am_u2_s]) (fun q x y => by rcases (show q = 16 ∨ q = 17 ∨ q = 18 ∨ q = 19 ∨ q = 20 ∨ q = 21 by omega) with rfl | rfl | rfl | rfl | rfl | rfl <;> rfl) (fun q _ _ => rfl)
theorem spec_eq {L : Nat → Nat → Int32} {s : Int32} : R_spec L s = w_spec s := rfl
theorem spth_eq {K L : Nat → Nat → Int32} (hL : am_ty2 L) (hC : rl_C K L) (hI : rl_I K L) {s : Nat} (hs : s < 28) (hs2 : s < 12 ∨ 16 ≤ s) : R_there L s ↔ D_spth K (nI s) := by
  unfold R_there D_spth
  by_cases z : 16 ≤ s
  · rw [am_ite_t (by omega), am_ite_f (fun q => by have := (nI_ltI (by omega) (by decide)).mp q; omega), rl_in hI]
  · rw [am_ite_f (by omega), am_ite_t ((nI_ltI (by omega) (by decide)).mpr (by omega)), ← rl_th hL hC]
    unfold R_class
    rw [rl_is, am_ite_t (w_in_nI (by omega) (by decide)), jx_nI (by omega)]
    have b := ty_n hL (q := 37) (B := 2) (by decide) (by decide) s
    by_cases z3 : jn L 37 s = 0
    · rw [am_ite_t z3]; exact ⟨fun q => by omega, fun q => q.elim⟩
    · rw [am_ite_f z3]; exact ⟨fun _ => True.intro, fun _ => by omega⟩
theorem it_iff {α : Type} {p q : Prop} {a b : α} (h : p ↔ q) : am_ite p a b = am_ite q a b := by rw [propext h]
/-- method answers alike, and the methods stay alike -/
theorem eq_method {K L : Nat → Nat → Int32} (hK : am_ty2 K) (hL : am_ty2 L) (hC : rl_C K L) (hI : rl_I K L) (h : rl_M K L) {g kind s t body : Int32} : (D_method K g kind s t body).1 = (R_method L g kind s t body).1 ∧ rl_M (D_method K g kind s t body).2 (R_method L g kind s t body).2 := by
  unfold D_method R_method
  rw [rl_is, rl_is, rl_is, show w_gen g = w_in g (nI 0) (nI 4) from rfl, show w_body body = w_in body (nI 0) (nI 7) from rfl, spec_eq, spec_eq, jn_e h.1.1]
  by_cases z1 : w_in g (nI 0) (nI 4)
  · have g1 := jx_eq (by decide) z1
    rw [am_ite_t z1, am_ite_t z1]
    by_cases z2 : w_in kind (nI 0) (nI 3)
    · have g2 := jx_eq (by decide) z2
      rw [am_ite_t z2, am_ite_t z2]
      by_cases z3 : w_in body (nI 0) (nI 7)
      · rw [am_ite_t z3, am_ite_t z3]
        by_cases z4 : w_spec s
        · have g4 := w_spec_r z4
          rw [am_ite_t z4, am_ite_t z4, am_ite_t z4]
          have fin : ∀ (t' : Int32) (sec : Nat), sec < 28 → ((jn K 16 (jx g) = 2 ∧ t' = nI sec ∧ (sec < 12 ∨ 16 ≤ sec)) ∨ (¬ jn K 16 (jx g) = 2 ∧ t' = -1 ∧ sec = 0)) → ¬ jn K 16 (jx g) = 0 → (am_ite (((M_settle K (jx g) (jx kind) (jx s) t' (jx body)).1) < 0) ((((M_settle K (jx g) (jx kind) (jx s) t' (jx body)).1), (M_settle K (jx g) (jx kind) (jx s) t' (jx body)).2)) ((((M_settle K (jx g) (jx kind) (jx s) t' (jx body)).1), K_forget ((M_settle K (jx g) (jx kind) (jx s) t' (jx body)).2) (jx g)))).1 = (R_m0 (jx g) (jx kind) (jx s) (jx body) sec L).1 ∧ rl_M (am_ite (((M_settle K (jx g) (jx kind) (jx s) t' (jx body)).1) < 0) ((((M_settle K (jx g) (jx kind) (jx s) t' (jx body)).1), (M_settle K (jx g) (jx kind) (jx s) t' (jx body)).2)) ((((M_settle K (jx g) (jx kind) (jx s) t' (jx body)).1), K_forget ((M_settle K (jx g) (jx kind) (jx s) t' (jx body)).2) (jx g)))).2 (R_m0 (jx g) (jx kind) (jx s) (jx body) sec L).2 := by
            intro t' sec hsec ht hn
            rcases eq_settle (body := jx body) hK hL h (by omega : jx g < 5) (by omega : jx kind < 4) g4.2.1 g4.2.2 hsec hn ht with ⟨a, b⟩ | ⟨p, L', a, b, c, d⟩
            · rw [a, b, am_ite_t (show ((-3 : Int32)) < 0 by decide)]; exact ⟨rfl, h⟩
            · rw [b, c, am_ite_f (nI_pos (by omega))]
              exact ⟨rfl, rl_M_cg d (congrFun (fr_K_forget (J := (M_settle K (jx g) (jx kind) (jx s) t' (jx body)).2) (g := jx g) 15 (by omega)) 6) (fun q _ _ => fr_K_forget (J := (M_settle K (jx g) (jx kind) (jx s) t' (jx body)).2) (g := jx g) q (by omega)) (fun q _ _ => fr_R_forget (J := L') (g := jx g) q (by omega))⟩
          by_cases z5 : jn K 16 (jx g) = 2
          · rw [am_ite_t z5, am_ite_t z5]
            by_cases z6 : w_spec t
            · have g6 := w_spec_r z6
              have z0 : ¬ jn K 16 (jx g) = 0 := by omega
              rw [am_ite_t z6, am_ite_t z6, am_ite_f z0, am_ite_f z0, it_iff (spth_eq hL hC hI g4.2.1 g4.2.2), it_iff (spth_eq hL hC hI g6.2.1 g6.2.2)]
              by_cases z7 : D_spth K (nI (jx s))
              · rw [am_ite_t z7, am_ite_t z7]
                by_cases z8 : D_spth K (nI (jx t))
                · rw [am_ite_t z8, am_ite_t z8]
                  exact fin (nI (jx t)) (jx t) g6.2.1 (Or.inl ⟨z5, rfl, g6.2.2⟩) (by omega)
                · rw [am_ite_f z8, am_ite_f z8]; exact ⟨rfl, h⟩
              · rw [am_ite_f z7, am_ite_f z7]; exact ⟨rfl, h⟩
            · rw [am_ite_f z6, am_ite_f z6]; exact ⟨rfl, h⟩
          · rw [am_ite_f z5, am_ite_f z5]
            by_cases z6 : jn K 16 (jx g) = 0
            · rw [am_ite_t z6, am_ite_t z6]; exact ⟨rfl, h⟩
            · rw [am_ite_f z6, am_ite_f z6, it_iff (spth_eq hL hC hI g4.2.1 g4.2.2)]
              by_cases z7 : D_spth K (nI (jx s))
              · rw [am_ite_t z7, am_ite_t z7]
                exact fin (-1) 0 (by decide) (Or.inr ⟨z5, rfl, rfl⟩) z6
              · rw [am_ite_f z7, am_ite_f z7]; exact ⟨rfl, h⟩
        · rw [am_ite_f z4, am_ite_f z4, am_ite_f z4]
          by_cases z5 : jn K 16 (jx g) = 2
          · rw [am_ite_t z5]; exact ⟨rfl, h⟩
          · rw [am_ite_f z5]; exact ⟨rfl, h⟩
      · rw [am_ite_f z3, am_ite_f z3]; exact ⟨rfl, h⟩
    · rw [am_ite_f z2, am_ite_f z2]; exact ⟨rfl, h⟩
  · rw [am_ite_f z1, am_ite_f z1]; exact ⟨rfl, h⟩
