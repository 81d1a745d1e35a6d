/-! What is kept, and the rest of both stores. -/
theorem C_pl_cg {J K : Nat → Nat → Int32} (h4 : K 4 = J 4) {c : Nat} {x : Int32} : ∀ m k, C_pl c x m k K = C_pl c x m k J := by
  intro m
  induction m with
  | zero => intro k; rfl
  | succ m ih =>
    intro k
    rw [C_pl, C_pl, ih (k + 1)]
    unfold jn
    rw [h4]
theorem C_place_cg {J K : Nat → Nat → Int32} (h4 : K 4 = J 4) (h5 : K 5 = J 5) {c : Nat} {x : Int32} : C_place K c x = C_place J c x := by
  unfold C_place
  rw [C_pl_cg h4, jn_cg h5]
/-- the rank of a specializer for a class; instances have none -/
noncomputable def atc (J : Nat → Nat → Int32) (s c : Nat) : Int32 := am_ite (s < 16) (am_ite (0 ≤ C_place J c (nI s)) (C_place J c (nI s) + nI 1) (-1)) (-1)
noncomputable def rkm (J : Nat → Nat → Int32) (m c1 c2 : Nat) : Int32 := am_ite (atc J (jn J 19 m) c1 < 0) (-1) (am_ite (J 20 m = -1) (atc J (jn J 19 m) c1) (am_ite (0 ≤ atc J (jn J 20 m) c2) (atc J (jn J 19 m) c1 * nI 13 + atc J (jn J 20 m) c2) (-1)))
noncomputable def rkc (J : Nat → Nat → Int32) (g c1 c2 m : Nat) : Int32 := am_ite (J 17 m = nI g) (rkm J m c1 c2) (-1)
theorem rkc_cg {J K : Nat → Nat → Int32} (h4 : K 4 = J 4) (h5 : K 5 = J 5) (h17 : K 17 = J 17) (h19 : K 19 = J 19) (h20 : K 20 = J 20) {g c1 c2 m : Nat} : rkc K g c1 c2 m = rkc J g c1 c2 m := by
  have e : ∀ s c, atc K s c = atc J s c := fun s c => by unfold atc; rw [C_place_cg h4 h5]
  unfold rkc rkm
  rw [e, e, h17, h20, jn_cg h19, jn_cg h20]
/-- the places from lo to hi hold the applicable methods of a kind, in their order -/
def seg (J : Nat → Nat → Int32) (u : Nat) (rk : Nat → Int32) (kd lo hi : Nat) : Prop := enm (fun i => jn J u i) lo hi (fun m => m < 16 ∧ 0 ≤ rk m ∧ jn J 18 m = kd) (ltk rk kd)
def cont (J : Nat → Nat → Int32) (e u : Nat) (rk : Nat → Int32) : Prop := seg J u rk 3 0 (jn J e 2) ∧ seg J u rk 1 (jn J e 2) (jn J e 3) ∧ seg J u rk 0 (jn J e 3) (jn J e 4) ∧ seg J u rk 2 (jn J e 4) (jn J e 1)
theorem seg_cg {J K : Nat → Nat → Int32} {u kd lo hi : Nat} {rk rk' : Nat → Int32} (h : seg J u rk kd lo hi) (hu : K u = J u) (h18 : K 18 = J 18) (hr : ∀ m, rk' m = rk m) : seg K u rk' kd lo hi := by
  have er : rk' = rk := funext hr
  rw [er]
  exact enm_a (enm_P h (fun m => by rw [jn_cg h18])) (fun i _ _ => jn_cg hu) (fun _ _ q => q)
theorem cont_cg {J K : Nat → Nat → Int32} {e u : Nat} {rk rk' : Nat → Int32} (h : cont J e u rk) (he : K e = J e) (hu : K u = J u) (h18 : K 18 = J 18) (hr : ∀ m, rk' m = rk m) : cont K e u rk' := by
  unfold cont at h ⊢
  rw [jn_cg he, jn_cg he, jn_cg he, jn_cg he]
  exact ⟨seg_cg h.1 hu h18 hr, seg_cg h.2.1 hu h18 hr, seg_cg h.2.2.1 hu h18 hr, seg_cg h.2.2.2 hu h18 hr⟩
/-- what is kept -/
def rl_K (h : am_H) (J L : Nat → Nat → Int32) (cc : Nat) : Prop := (∀ g, g < 5 → ∃ a, a ≤ cc ∧ J 24 g = nI a ∧ ∀ k, k < 144 → ∀ e, am_P h 23 (144 * g + k) = some e → ∃ a', a' ≤ a ∧ J e 5 = nI a') ∧ (∀ g, g < 5 → ∀ k, k < 144 → (jn L 58 (144 * g + k) = 1 ↔ ∃ e, am_P h 23 (144 * g + k) = some e ∧ J e 5 = J 24 g)) ∧ (∀ g, g < 5 → J 25 g = nI (cn_of (fun k => jn L 58 (144 * g + k) = 1) 144)) ∧ ∀ g c1 c2 e u, g < 5 → c1 < 12 → c2 < 12 → am_P h 23 (144 * g + (12 * c1 + c2)) = some e → J e 5 = J 24 g → am_P h e 0 = some u → cont J e u (rkc J g c1 c2)
theorem rl_K_cg {h h' : am_H} {J J' L L' : Nat → Nat → Int32} {cc : Nat} (hk : rl_K h J L cc) (h23 : ∀ k, am_P h' 23 k = am_P h 23 k) (he : ∀ k e, k < 720 → am_P h 23 k = some e → J' e = J e ∧ (∀ u, am_P h' e 0 = some u → am_P h e 0 = some u ∧ J' u = J u)) (hf : ∀ q, (q = 4 ∨ q = 5 ∨ (16 ≤ q ∧ q ≤ 20) ∨ q = 24 ∨ q = 25) → J' q = J q) (h58 : L' 58 = L 58) : rl_K h' J' L' cc := by
  have e24 := hf 24 (Or.inr (Or.inr (Or.inr (Or.inl rfl))))
  have e25 := hf 25 (Or.inr (Or.inr (Or.inr (Or.inr rfl))))
  have j58 : ∀ k, jn L' 58 k = jn L 58 k := fun k => jn_cg h58
  refine ⟨fun g hg => ?_, fun g hg k hk2 => ?_, fun g hg => ?_, fun g c1 c2 e u a b d p1 p2 p3 => ?_⟩
  · obtain ⟨a, x, y, z⟩ := hk.1 g hg
    refine ⟨a, x, by rw [e24]; exact y, fun k hk2 e hp => ?_⟩
    rw [h23] at hp
    rw [(he _ e (by omega) hp).1]
    exact z k hk2 e hp
  · rw [j58, hk.2.1 g hg k hk2]
    constructor
    · rintro ⟨e, x, y⟩
      exact ⟨e, by rw [h23]; exact x, by rw [(he _ e (by omega) x).1, e24]; exact y⟩
    · rintro ⟨e, x, y⟩
      rw [h23] at x
      exact ⟨e, x, by rw [(he _ e (by omega) x).1, e24] at y; exact y⟩
  · rw [e25, hk.2.2.1 g hg]
    exact congrArg nI (cn_congr 144 (fun k _ => by rw [j58]))
  · rw [h23] at p1
    have g1 := he _ e (by omega) p1
    obtain ⟨g2, g3⟩ := g1.2 u p3
    rw [g1.1, e24] at p2
    exact cont_cg (hk.2.2.2 g c1 c2 e u a b d p1 p2 g2) g1.1 g3 (hf 18 (by omega)) (fun m => rkc_cg (hf 4 (by omega)) (hf 5 (by omega)) (hf 17 (by omega)) (hf 19 (by omega)) (hf 20 (by omega)))
/-- the rest of both stores -/
def Oth (h : am_H) (J L : Nat → Nat → Int32) (nn cc : Nat) : Prop := (rl_C J L ∧ rl_I J L ∧ rl_B J L ∧ rl_M J L) ∧ rl_N J L nn ∧ opv L ∧ am_R h ∧ rl_K h J L cc ∧ J 22 7 = L 73 5 ∧ J 1 7 = L 73 8 ∧ (J 2 5 = nI (cn_of (fun c => ¬ jn L 37 c = 0) 12)) ∧ (cc % 2 = 1 → ∀ q, 36 ≤ q → q < 74 → J q = L (q + 1000))
theorem rl_C_cg2 {J J' L L' : Nat → Nat → Int32} (h : rl_C J L) (hJ : ∀ q, 3 ≤ q → q ≤ 7 → J' q = J q) (hL : ∀ q, 37 ≤ q → q ≤ 44 → L' q = L q) : rl_C J' L' := by
  unfold rl_C jn at h ⊢
  rw [hJ 6 (by decide) (by decide), hJ 7 (by decide) (by decide), hJ 5 (by decide) (by decide), hJ 4 (by decide) (by decide), hJ 3 (by decide) (by decide), hL 43 (by decide) (by decide), hL 44 (by decide) (by decide), hL 40 (by decide) (by decide), hL 39 (by decide) (by decide), hL 38 (by decide) (by decide), hL 37 (by decide) (by decide)]
  exact h
theorem rl_I_cg2 {J J' L L' : Nat → Nat → Int32} (h : rl_I J L) (hJ : ∀ q, 10 ≤ q → q ≤ 14 → J' q = J q) (hL : ∀ q, 45 ≤ q → q ≤ 48 → L' q = L q) (h37 : L' 36 37 = L 36 37) (h7 : L' 73 7 = L 73 7) : rl_I J' L' := by
  unfold rl_I jn at h ⊢
  rw [hJ 10 (by decide) (by decide), hJ 11 (by decide) (by decide), hJ 12 (by decide) (by decide), hJ 13 (by decide) (by decide), hJ 14 (by decide) (by decide), hL 45 (by decide) (by decide), hL 46 (by decide) (by decide), hL 47 (by decide) (by decide), hL 48 (by decide) (by decide), h37, h7]
  exact h
theorem rl_B_cg2 {J J' L L' : Nat → Nat → Int32} (h : rl_B J L) (hJ : ∀ q, 28 ≤ q → q ≤ 30 → J' q = J q) (hL : ∀ q, 55 ≤ q → q ≤ 57 → L' q = L q) : rl_B J' L' := by
  unfold rl_B at h ⊢
  rw [hJ 28 (by decide) (by decide), hJ 29 (by decide) (by decide), hJ 30 (by decide) (by decide), hL 57 (by decide) (by decide), hL 55 (by decide) (by decide), hL 56 (by decide) (by decide)]
  exact h
theorem rl_N_cg2 {J J' L L' : Nat → Nat → Int32} {n : Nat} (h : rl_N J L n) (hJ : ∀ q, 31 ≤ q → q ≤ 32 → J' q = J q) (h3 : L' 73 3 = L 73 3) (h72 : L' 72 = L 72) : rl_N J' L' n := by
  unfold rl_N jn at h ⊢
  rw [hJ 31 (by decide) (by decide), hJ 32 (by decide) (by decide), h3, h72]
  exact h
theorem opv_cg {L L' : Nat → Nat → Int32} (h : opv L) (h5 : L' 55 = L 55) (h6 : L' 56 = L 56) : opv L' := by
  unfold opv jn at h ⊢
  rw [h5, h6]
  exact h
/-- the rest stays where only the machine's own things change -/
theorem Oth_cg {h h' : am_H} {J J' L L' : Nat → Nat → Int32} {lab : Nat → Nat} {nn cc : Nat} (ho : Oth h J L nn cc) (hW : am_W h J lab) (of : onf h J h' J' lab 0) (hR : am_R h') (hJ : ∀ q, q < 74 → ¬ q = 33 → J' q = J q) (cL : chL L L') : Oth h' J' L' nn cc := by
  obtain ⟨⟨r1, r2, r3, r4⟩, r5, r6, r7, r8, r9, r10, r11, r12⟩ := ho
  have l : ∀ q, 37 ≤ q → q < 64 → L' q = L q := fun q a b => cL.1 q (by omega) (by omega) (by omega)
  refine ⟨⟨rl_C_cg2 r1 (fun q a b => hJ q (by omega) (by omega)) (fun q a b => l q a (by omega)), rl_I_cg2 r2 (fun q a b => hJ q (by omega) (by omega)) (fun q a b => l q (by omega) (by omega)) cL.2.1 (cL.2.2 7 (by decide) (by decide)), rl_B_cg2 r3 (fun q a b => hJ q (by omega) (by omega)) (fun q a b => l q (by omega) (by omega)), rl_M_cg r4 (by rw [hJ 15 (by decide) (by decide)]) (fun q a b => hJ q (by omega) (by omega)) (fun q a b => l q (by omega) (by omega))⟩, rl_N_cg2 r5 (fun q a b => hJ q (by omega) (by omega)) (cL.2.2 3 (by decide) (by decide)) (cL.1 72 (by decide) (by decide) (by decide)), opv_cg r6 (l 55 (by decide) (by decide)) (l 56 (by decide) (by decide)), hR, rl_K_cg r8 of.2.2.2 (fun k e hk hp => ?_) (fun q hq => hJ q (by omega) (by omega)) (l 58 (by decide) (by decide)), by rw [hJ 22 (by decide) (by decide), cL.2.2 5 (by decide) (by decide)]; exact r9, by rw [hJ 1 (by decide) (by decide), cL.2.2 8 (by decide) (by decide)]; exact r10, by rw [hJ 2 (by decide) (by decide), r11]; exact congrArg nI (cn_congr 12 (fun c _ => by rw [jn_cg (l 37 (by decide) (by decide))])), fun hc q a b => by rw [hJ q b (by omega), cL.1 (q + 1000) (by omega) (by omega) (by omega)]; exact r12 hc q a b⟩
  obtain ⟨a, b, c, u, d1, d2, d3, d4, d5, d6⟩ := hW.1 k hk e hp
  have ge := of.1 e b c.2.1 (nf_hi (by omega))
  have gu := of.1 u d3 d4.2.1 (nf_hi (by omega))
  refine ⟨ge.1, fun v hv => ?_⟩
  rw [ge.2, d1] at hv
  have ev : u = v := Option.some.inj hv
  subst ev
  exact ⟨d1, gu.1⟩
