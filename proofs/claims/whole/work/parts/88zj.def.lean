/-! define, both sides. -/
theorem Dr_Dn {T : Nat → Int32} {d n : Nat} {r : Nat → Nat} (h1 : Dr T d n r) (h2 : Dn T d) : False := by
  have a := (h1.2.2.2.1 (fun _ => T) rfl).1
  have b := h2.1 (fun _ => T) rfl
  rw [b] at a
  have := h1.1
  exact absurd ((nI_eq (by omega) (by omega)).mp a) (by omega)
theorem Dr_r {T : Nat → Int32} {d n : Nat} {r r' : Nat → Nat} (h : Dr T d n r) (e : ∀ i, i < n → r' i = r i) : Dr T d n r' := by
  refine ⟨h.1, fun i hi => by rw [e i hi]; exact h.2.1 i hi, fun x => (h.2.2.1 x).trans ⟨fun ⟨i, a, b⟩ => ⟨i, a, by rw [e i a]; exact b⟩, fun ⟨i, a, b⟩ => ⟨i, a, by rw [← e i a]; exact b⟩⟩, fun K hK => ?_, fun L hL => ?_⟩
  · obtain ⟨p, q⟩ := h.2.2.2.1 K hK
    exact ⟨p, fun i hi => by rw [e i hi]; exact q i hi⟩
  · obtain ⟨L', p, q, o⟩ := h.2.2.2.2 L hL
    exact ⟨L', p, fun i hi => by rw [e i hi]; exact q i hi, o⟩
/-- a precedence stays, where what it is drawn from stays -/
theorem Dr_t {A T : Nat → Int32} {d n : Nat} {r : Nat → Nat} (hT : tyA T) (h : Dr A d n r) (hd : d < 12) (acy : Acy T) (ag : ∀ x, Rea A d x → ∀ i, i < 3 → T (3 * x + i) = A (3 * x + i)) : Dr T d n r := by
  have gA : agr A d (fun _ => T) := ⟨hT, ag⟩
  have gT : agr T d (fun _ => T) := ⟨hT, fun _ _ _ _ => rfl⟩
  obtain ⟨L1, p1, p2, p3⟩ := h.2.2.2.2 _ gA
  rcases dr_or hT hd (Acy_d hT acy hd) with ⟨m, r', D⟩ | D
  · obtain ⟨L2, q1, q2, q3⟩ := D.2.2.2.2 _ gT
    rw [p1] at q1
    obtain ⟨e1, e2⟩ := Prod.mk.inj (Option.some.inj q1)
    have b1 := h.1
    have b2 := D.1
    have en : n = m := (nI_eq (by omega) (by omega)).mp e1
    subst en
    refine Dr_r D (fun i hi => ?_)
    have x := p2 i hi
    rw [e2, q2 i hi] at x
    exact ((nI_eq (by have := D.2.1 i hi; omega) (by have := h.2.1 i hi; omega)).mp x).symm
  · obtain ⟨L2, q1, _⟩ := D.2 _ gT
    rw [p1] at q1
    exact absurd (Prod.mk.inj (Option.some.inj q1)).1 (nI_n1 (by have := h.1; omega))
/-- the supers, as define would have them -/
noncomputable def dT (K : Nat → Nat → Int32) (c s : Nat) (t v : Int32) : Nat → Int32 := C_setSup K c (nI s) t v 3
theorem dT_o {K : Nat → Nat → Int32} {c s j : Nat} {t v : Int32} (h0 : ¬ j = 3 * c) (h1 : ¬ j = 3 * c + 1) (h2 : ¬ j = 3 * c + 2) : dT K c s t v j = K 3 j := by
  unfold dT C_setSup
  rw [u2_ne (by omega), u2_ne (by omega), u2_ne (by omega)]
theorem dT_0 {K : Nat → Nat → Int32} {c s : Nat} {t v : Int32} : dT K c s t v (3 * c) = nI s := by
  unfold dT C_setSup
  rw [u2_ne (by omega), u2_ne (by omega), show 3 * c = c * 3 by omega, am_u2_s]
theorem dT_1 {K : Nat → Nat → Int32} {c s : Nat} {t v : Int32} : dT K c s t v (3 * c + 1) = t := by
  unfold dT C_setSup
  rw [u2_ne (by omega), show 3 * c + 1 = c * 3 + 1 by omega, am_u2_s]
theorem dT_2 {K : Nat → Nat → Int32} {c s : Nat} {t v : Int32} : dT K c s t v (3 * c + 2) = v := by
  unfold dT C_setSup
  rw [show 3 * c + 2 = c * 3 + 2 by omega, am_u2_s]
theorem sup_ok {K L : Nat → Nat → Int32} {c : Nat} {x : Int32} (hK : am_ty2 K) (hL : am_ty2 L) (hC : rl_C K L) (hV : Cv K) (hc : c < 12) (hx : x = -1 ∨ ∃ a, a < 12 ∧ x = nI a) (hn : C_named K c x) (hb : ¬ C_below K x c) (ne : ¬ x = -1) : ¬ x.toNatClampNeg = c ∧ ¬ Rea (K 3) x.toNatClampNeg c ∧ ¬ jn K 5 x.toNatClampNeg = 0 := by
  rcases hx with e | ⟨a, ha, rfl⟩
  · exact absurd e ne
  · have ec : (nI a).toNatClampNeg = a := nI_clamp (by omega)
    rw [ec]
    have nac : ¬ a = c := fun e => hb ((below_c hc ha).mpr (Or.inl e))
    have th : ¬ jn K 5 a = 0 := (th_n hL hC).mp (((named_n hL hC hc ha).mp hn).resolve_left nac)
    exact ⟨nac, fun r => hb ((below_c hc ha).mpr (Or.inr ⟨th, (C_place_R hK hV ha hc th).mpr r⟩)), th⟩
theorem dT_ty {K : Nat → Nat → Int32} {c s : Nat} {t v : Int32} (hK : am_ty2 K) (hs : s < 12) (ht : t = -1 ∨ ∃ a, a < 12 ∧ t = nI a) (hv : v = -1 ∨ ∃ a, a < 12 ∧ v = nI a) : tyA (dT K c s t v) := by
  have nn : ∀ x : Int32, (x = -1 ∨ ∃ a, a < 12 ∧ x = nI a) → x = -1 ∨ (x = nI x.toNatClampNeg ∧ x.toNatClampNeg < 12) := fun x hx => by
    rcases hx with e | ⟨a, ha, rfl⟩
    · exact Or.inl e
    · rw [nI_clamp (by omega)]; exact Or.inr ⟨rfl, ha⟩
  intro j
  by_cases z0 : j = 3 * c
  · rw [z0, dT_0]; exact nn _ (Or.inr ⟨s, hs, rfl⟩)
  by_cases z1 : j = 3 * c + 1
  · rw [z1, dT_1]; exact nn _ ht
  by_cases z2 : j = 3 * c + 2
  · rw [z2, dT_2]; exact nn _ hv
  rw [dT_o z0 z1 z2]
  exact ty_A hK (q := 3) (by decide) j
/-- the class's side -/
theorem st_c {K : Nat → Nat → Int32} {c s : Nat} {t v : Int32} (hK : am_ty2 K) (hc : c < 12) (n1 : C_named K c (nI s)) (n2 : C_named K c t) (n3 : C_named K c v) (b1 : ¬ C_below K (nI s) c) (b2 : ¬ C_below K t c) (b3 : ¬ C_below K v c) (hD : ∀ d, d < 12 → (∃ n r, Dr (dT K c s t v) d n r) ∨ Dn (dT K c s t v) d) : ((∃ d, d < 12 ∧ bel K c d ∧ Dn (dT K c s t v) d) → (C_settle K c (nI s) t v).1 = -5 ∧ ∀ q, ¬ q = 8 → ¬ q = 9 → (C_settle K c (nI s) t v).2 q = K q) ∧ ∀ n r, (∀ d, d < 12 → bel K c d → Dr (dT K c s t v) d (n d) (r d)) → (C_settle K c (nI s) t v).1 = nI (n c) ∧ (C_settle K c (nI s) t v).2 3 = dT K c s t v ∧ Pst (bel K c) n r 12 (K 5) ((C_settle K c (nI s) t v).2 5) (K 4) ((C_settle K c (nI s) t v).2 4) ∧ (∀ q, ¬ q = 2 → ¬ q = 3 → ¬ q = 4 → ¬ q = 5 → ¬ q = 8 → ¬ q = 9 → (C_settle K c (nI s) t v).2 q = K q) ∧ (jn K 5 c = 0 → (C_settle K c (nI s) t v).2 2 5 = K 2 5 + nI 1) ∧ (¬ jn K 5 c = 0 → (C_settle K c (nI s) t v).2 2 5 = K 2 5) := by
  have h3 : C_setSup K c (nI s) t v 3 = dT K c s t v := rfl
  have fs : ∀ q, ¬ q = 3 → C_setSup K c (nI s) t v q = K q := fun q a => fr_C_setSup q a
  have fa : ∀ q, ¬ q = 8 → ¬ q = 9 → (C_allHave (C_setSup K c (nI s) t v) c).2 q = C_setSup K c (nI s) t v q := fun q a b => fr_C_allHave q ⟨a, b⟩
  have A := ah_c hK hc hD 12 0 (C_setSup K c (nI s) t v) rfl h3 (fs 4 (by decide)) (fs 5 (by decide))
  have A' : ((C_allHave (C_setSup K c (nI s) t v) c).1 = nI 1 ∧ (∀ d, 0 ≤ d → d < 12 → bel K c d → ∃ n r, Dr (dT K c s t v) d n r)) ∨ ((C_allHave (C_setSup K c (nI s) t v) c).1 = nI 0 ∧ ∃ d, 0 ≤ d ∧ d < 12 ∧ bel K c d ∧ Dn (dT K c s t v) d) := A
  unfold C_settle
  rw [am_ite_t n1, am_ite_t n2, am_ite_t n3, am_ite_f b1, am_ite_f b2, am_ite_f b3]
  refine ⟨fun ⟨d, d12, db, dn⟩ => ?_, fun n r hr => ?_⟩
  · rcases A' with ⟨_, a⟩ | ⟨e, _⟩
    · obtain ⟨n, r, D⟩ := a d (Nat.zero_le d) d12 db
      exact (Dr_Dn D dn).elim
    · have e' : (C_allHave (C_setSup K c (nI s) t v) c).1 = 0 := by rw [e]; rfl
      rw [am_ite_t e']
      refine ⟨rfl, fun q q8 q9 => ?_⟩
      by_cases z : q = 3
      · rw [z]
        refine funext fun j => ?_
        show C_setSup _ _ _ _ _ 3 j = _
        unfold C_setSup
        by_cases z2 : j = c * 3 + 2
        · rw [z2, am_u2_s]
        rw [u2_ne z2]
        by_cases z1 : j = c * 3 + 1
        · rw [z1, am_u2_s]
        rw [u2_ne z1]
        by_cases z0 : j = c * 3
        · rw [z0, am_u2_s]
        rw [u2_ne z0]
        have e3 := congrFun (fa 3 (by decide) (by decide)) j
        unfold C_setSup at e3
        rw [e3, u2_ne z2, u2_ne z1, u2_ne z0]
      · show C_setSup _ _ _ _ _ q = _
        rw [fr_C_setSup q z, fa q q8 q9, fs q z]
  · rcases A' with ⟨e, _⟩ | ⟨_, d, _, d12, db, dn⟩
    · rw [am_ite_f (by rw [e]; decide)]
      have j5 : jn ((C_allHave (C_setSup K c (nI s) t v) c).2) 5 c = jn K 5 c := jn_cg (by rw [fa 5 (by decide) (by decide), fs 5 (by decide)])
      have main : ∀ K3 : Nat → Nat → Int32, (∀ q, ¬ q = 2 → K3 q = (C_allHave (C_setSup K c (nI s) t v) c).2 q) → nI (jn (C_renew K3 c) 5 c) = nI (n c) ∧ C_renew K3 c 3 = dT K c s t v ∧ Pst (bel K c) n r 12 (K 5) (C_renew K3 c 5) (K 4) (C_renew K3 c 4) ∧ ∀ q, ¬ q = 2 → ¬ q = 3 → ¬ q = 4 → ¬ q = 5 → ¬ q = 8 → ¬ q = 9 → C_renew K3 c q = K q := fun K3 f3 => by
        have e3 : K3 3 = dT K c s t v := by rw [f3 3 (by decide), fa 3 (by decide) (by decide)]; exact h3
        have e4 : K3 4 = K 4 := by rw [f3 4 (by decide), fa 4 (by decide) (by decide), fs 4 (by decide)]
        have e5 : K3 5 = K 5 := by rw [f3 5 (by decide), fa 5 (by decide) (by decide), fs 5 (by decide)]
        have P := rn_c hK (n := n) (r := r) hc hr 12 0 K3 rfl e3 (by rw [e4, e5]; exact Pst_0)
        have P' : Pst (bel K c) n r 12 (K 5) (C_renew K3 c 5) (K 4) (C_renew K3 c 4) := P
        have pc := (P'.1 c hc (Or.inl rfl)).1
        have nc := (hr c hc (Or.inl rfl)).1
        refine ⟨?_, by rw [fr_C_renew 3 (by decide)]; exact e3, P', fun q a b d e f g => by rw [fr_C_renew q ⟨d, e, f, g⟩, f3 q a, fa q f g, fs q b]⟩
        show nI (C_renew K3 c 5 c).toNatClampNeg = _
        rw [pc, nI_clamp (by omega)]
      by_cases z : jn K 5 c = 0
      · rw [am_ite_t (by rw [j5]; exact z)]
        obtain ⟨m1, m2, m3, m4⟩ := main _ (fun q a => fr_u a)
        refine ⟨m1, m2, m3, m4, fun _ => ?_, fun q => absurd z q⟩
        show C_renew _ c 2 5 = _
        rw [fr_C_renew 2 (by decide), am_u2_s, fa 2 (by decide) (by decide), fs 2 (by decide)]
      · rw [am_ite_f (by rw [j5]; exact z)]
        obtain ⟨m1, m2, m3, m4⟩ := main _ (fun q a => rfl)
        refine ⟨m1, m2, m3, m4, fun q => absurd q z, fun _ => ?_⟩
        show C_renew _ c 2 5 = _
        rw [fr_C_renew 2 (by decide), fa 2 (by decide) (by decide), fs 2 (by decide)]
    · exact (Dr_Dn (hr d d12 db) dn).elim
/-- what define leaves -/
def Dfo (K L K' L' : Nat → Nat → Int32) : Prop := rl_C K' L' ∧ Cv K' ∧ (K 2 5 = nI (cn_of (fun c => ¬ jn L 37 c = 0) 12) → K' 2 5 = nI (cn_of (fun c => ¬ jn L' 37 c = 0) 12)) ∧ (((∀ q, ¬ q = 8 → ¬ q = 9 → K' q = K q) ∧ ∀ q, ¬ q = 41 → ¬ q = 42 → L' q = L q) ∨ ∃ K1, K' = K_forgetAll K1 ∧ (∀ q, ¬ q = 2 → ¬ q = 3 → ¬ q = 4 → ¬ q = 5 → ¬ q = 8 → ¬ q = 9 → K1 q = K q) ∧ (∀ q, ¬ (37 ≤ q ∧ q ≤ 42) → ¬ q = 58 → L' q = L q) ∧ ∀ g, g < 5 → ∀ i, i < 144 → L' 58 (144 * g + i) = nI 0)
theorem Dfo_0 {K L K' L' : Nat → Nat → Int32} (hC : rl_C K L) (hV : Cv K) (hK : ∀ q, ¬ q = 8 → ¬ q = 9 → K' q = K q) (hL : ∀ q, ¬ q = 41 → ¬ q = 42 → L' q = L q) : Dfo K L K' L' := by
  refine ⟨rl_C_cg3 (rl_C_cg2 hC (fun q a b => hK q (by omega) (by omega)) (fun q a b => rfl)) (fun q a b c d => hL q c d), Cv_cg hV (hK 3 (by decide) (by decide)) (hK 4 (by decide) (by decide)) (hK 5 (by decide) (by decide)), fun e => ?_, Or.inl ⟨hK, hL⟩⟩
  rw [hK 2 (by decide) (by decide), e]
  exact congrArg nI (cn_congr 12 (fun i _ => by rw [jn_cg (hL 37 (by decide) (by decide))]))
