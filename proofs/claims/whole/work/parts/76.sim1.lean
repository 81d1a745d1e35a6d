/-! What stays on the machine's side when frames alone change. -/
/-- cells with the numbers of frames from n on -/
def fcl (lab : Nat → Nat) (n q : Nat) : Prop := 200 + n ≤ lab q ∧ lab q < 392
/-- only frames from n on change: ints and pointers -/
def onf (h : am_H) (J : Nat → Nat → Int32) (h' : am_H) (J' : Nat → Nat → Int32) (lab : Nat → Nat) (n : Nat) : Prop := (∀ q, 74 ≤ q → q < am_n h → ¬ fcl lab n q → J' q = J q ∧ ∀ j, am_P h' q j = am_P h q j) ∧ (∀ i, i < n → am_P h' 35 i = am_P h 35 i) ∧ (∀ l, am_P h' 34 l = am_P h 34 l) ∧ ∀ k, am_P h' 23 k = am_P h 23 k
theorem onf_mono {h h' : am_H} {J J' : Nat → Nat → Int32} {lab : Nat → Nat} {n m : Nat} (h0 : onf h J h' J' lab n) (hm : m ≤ n) : onf h J h' J' lab m := ⟨fun q a a2 b => h0.1 q a a2 (fun z => b ⟨by unfold fcl at z; omega, z.2⟩), fun i hi => h0.2.1 i (by omega), h0.2.2.1, h0.2.2.2⟩
theorem stk_lo {h h' : am_H} {J J' L L' : Nat → Nat → Int32} {lab : Nat → Nat} {n t lv c : Nat} (hs : stk h J L n t lv c) (hW : am_W h J lab) (hn : n ≤ 192) (hlv : lv ≤ 12) (ho : onf h J h' J' lab n) (h28 : J' 28 = J 28) (hL : loL L L' t lv) : stk h' J' L' n t lv c := by
  refine stk_cg h28 n t lv c hs hL (fun i f hi hp => ?_) (fun l w hl hp => ?_)
  · have g := hW.2.2 i (by omega) f hp
    have q := ho.1 f g.2.1 g.2.2.2.1 (fun z => by unfold fcl at z; omega)
    exact ⟨by rw [ho.2.1 i hi]; exact hp, q.1, q.2 0⟩
  · have g := hW.2.1 l (by omega) w hp
    have q := ho.1 w g.2.1 g.2.2.1.2.1 (fun z => by unfold fcl at z; omega)
    exact ⟨by rw [ho.2.2.1 l]; exact hp, by rw [q.1]⟩
/-- the reference's part of a level stays -/
def loV (L L' : Nat → Nat → Int32) (l : Nat) : Prop := (∀ k, k < 4 → L' 60 ((4 * l) + k) = L 60 ((4 * l) + k)) ∧ (∀ j, j < 64 → L' 59 ((64 * l) + j) = L 59 ((64 * l) + j)) ∧ L' 61 l = L 61 l ∧ L' 62 l = L 62 l ∧ L' 63 l = L 63 l ∧ L' 49 = L 49
theorem loV_mk {L L' : Nat → Nat → Int32} {l : Nat} (h : loV L L' l) : s_bf L' l = s_bf L l ∧ s_pr L' l = s_pr L l ∧ s_af L' l = s_af L l ∧ s_sz L' l = s_sz L l ∧ ∀ k, k < 4 → mk L' l k = mk L l k := by
  have m : ∀ k, k < 4 → mk L' l k = mk L l k := fun k hk => by unfold mk jn; rw [h.1 k hk]
  unfold s_bf s_pr s_af s_sz
  rw [m 3 (by decide), m 1 (by decide), m 0 (by decide), m 2 (by decide)]
  exact ⟨rfl, rfl, rfl, rfl, m⟩
theorem plp_lt {L : Nat → Nat → Int32} {l p : Nat} (hs : s_sz L l ≤ 16) (hp : p < s_sz L l) : plp L l p < 16 ∧ kdp L l p < 4 := by
  unfold plp kdp
  unfold s_bf s_pr s_af s_sz at *
  split
  · omega
  · split
    · omega
    · split
      · omega
      · omega
/-- the objects of a level -/
theorem lv_obj {h : am_H} {J L : Nat → Nat → Int32} {lab : Nat → Nat} {l : Nat} (hW : am_W h J lab) (hl : l < 12) {w e u : Nat} (p1 : am_P h 34 l = some w) (p3 : am_P h e 0 = some u) (p4 : am_P h w 0 = some e ∨ ∃ k, k < 720 ∧ am_P h 23 k = some e ∧ J e 5 = J 24 (k / 144)) : ∃ n, 1000 ≤ n ∧ ef_c h J lab e n ∧ lab u = n + 1 ∧ 74 ≤ u ∧ am_ay h u 1 ∧ (am_sh h u).2.2 = 16 ∧ ef_ok J e u := by
  rcases p4 with q | ⟨k, k1, k2, k3⟩
  · obtain ⟨g1, g2, g3, sp, g4, g5⟩ := hW.2.1 l hl w p1
    rw [g4] at q
    have es : sp = e := Option.some.inj q
    rw [es] at g5
    refine ⟨4000 + 2 * l, by omega, g5, ?_⟩
    obtain ⟨a, b, c, v, d1, d2⟩ := g5
    rw [d1] at p3
    have ev : v = u := Option.some.inj p3
    rw [ev] at d2
    exact d2
  · have g5 := hW.1 k k1 e k2
    refine ⟨1000 + 2 * k, by omega, g5, ?_⟩
    obtain ⟨a, b, c, v, d1, d2⟩ := g5
    rw [d1] at p3
    have ev : v = u := Option.some.inj p3
    rw [ev] at d2
    exact d2
theorem lvR_cg {h h' : am_H} {J J' L L' : Nat → Nat → Int32} {l : Nat} (hv : lvR h J L l) (hL : loV L L' l) (h10 : J' 10 5 = J 10 5) (h24 : J' 24 = J 24) (hk : ∀ k e, k < 720 → am_P h 23 k = some e → am_P h' 23 k = some e) (hw : ∀ w, am_P h 34 l = some w → am_P h' 34 l = some w ∧ J' w = J w ∧ ∀ j, am_P h' w j = am_P h w j) (he : ∀ w e u, am_P h 34 l = some w → am_P h w 1 = some e → am_P h e 0 = some u → (am_P h w 0 = some e ∨ ∃ k, k < 720 ∧ am_P h 23 k = some e ∧ J e 5 = J 24 (k / 144)) → J' e = J e ∧ J' u = J u ∧ am_P h' e 0 = am_P h e 0) : lvR h' J' L' l := by
  obtain ⟨w, e, u, p1, p2, p3, p4, p5, p6, p7⟩ := hv
  have gw := hw w p1
  have ge := he w e u p1 p2 p3 p4
  obtain ⟨a, b, c, d, m⟩ := loV_mk hL
  refine ⟨w, e, u, gw.1, by rw [gw.2.2]; exact p2, by rw [ge.2.2]; exact p3, ?_, ?_, fun p hp => ?_, ?_⟩
  · rcases p4 with q | ⟨k, k1, k2, k3⟩
    · left; rw [gw.2.2]; exact q
    · right; exact ⟨k, k1, hk k e k1 k2, by rw [ge.1, h24]; exact k3⟩
  · rw [jn_cg ge.1, jn_cg ge.1, jn_cg ge.1, jn_cg ge.1, a, b, c, d, m 0 (by decide)]; exact p5
  · rw [d] at hp
    have k1 : kdp L' l p = kdp L l p := by unfold kdp; rw [a, b, c]
    have k2 : plp L' l p = plp L l p := by unfold plp; rw [a, b, c, d]
    have lt := plp_lt p5.2.2.2.2.1 hp
    rw [jn_cg ge.2.1, k1, k2, p6 p hp]
    unfold jn
    rw [show (16 * ((4 * l) + kdp L l p)) + plp L l p = (64 * l) + (16 * kdp L l p + plp L l p) by omega, hL.2.1 _ (by omega)]
  · have j63 : jn L' 63 l = jn L 63 l := by unfold jn; rw [hL.2.2.2.2.1]
    have j49 : ∀ x, jn L' 49 x = jn L 49 x := fun x => jn_cg hL.2.2.2.2.2
    have j61 : jn L' 61 l = jn L 61 l := by unfold jn; rw [hL.2.2.1]
    have j62 : jn L' 62 l = jn L 62 l := by unfold jn; rw [hL.2.2.2.1]
    have j10 : jn J' 10 5 = jn J 10 5 := by unfold jn; rw [h10]
    rw [gw.2.1, j63, j49, hL.2.2.1, j61, j10, hL.2.2.2.1, j62, jn_cg gw.2.1]
    exact p7
theorem lvR_lo {h h' : am_H} {J J' L L' : Nat → Nat → Int32} {lab : Nat → Nat} {l : Nat} (hv : lvR h J L l) (hW : am_W h J lab) (hl : l < 12) (hL : loV L L' l) (ho : onf h J h' J' lab 0) (h10 : J' 10 5 = J 10 5) (h24 : J' 24 = J 24) : lvR h' J' L' l := by
  refine lvR_cg hv hL h10 h24 (fun k e _ hp => by rw [ho.2.2.2 k]; exact hp) (fun w hp => ?_) (fun w e u p1 p2 p3 p4 => ?_)
  · have g := hW.2.1 l hl w hp
    have q := ho.1 w g.2.1 g.2.2.1.2.1 (fun z => by unfold fcl at z; omega)
    exact ⟨by rw [ho.2.2.1 l]; exact hp, q.1, q.2⟩
  · obtain ⟨n, hn, g1, g2, g3, g4, g5, g6⟩ := lv_obj (L := L) hW hl p1 p3 p4
    have q := ho.1 e g1.2.1 g1.2.2.1.2.1 (fun z => by unfold fcl at z; have := g1.1; omega)
    have r := ho.1 u g3 g4.2.1 (fun z => by unfold fcl at z; omega)
    exact ⟨q.1, r.1, q.2 0⟩
theorem ef_c_cg {h h' : am_H} {J J' : Nat → Nat → Int32} {lab lab' : Nat → Nat} {e n : Nat} (hn : 1000 ≤ n) (g : ef_c h J lab e n) (ho : onf h J h' J' lab 0) (hl : ∀ q, q < am_n h → lab' q = lab q) (hs : ∀ q, q < am_n h → am_sh h' q = am_sh h q) (hm : am_n h ≤ am_n h') : ef_c h' J' lab' e n := by
  obtain ⟨a, b, c, u, d1, d2, d3, d4, d5, d6⟩ := g
  have q := ho.1 e b c.2.1 (fun z => by unfold fcl at z; omega)
  have r := ho.1 u d3 d4.2.1 (fun z => by unfold fcl at z; omega)
  refine ⟨by rw [hl e c.2.1]; exact a, b, ?_, u, by rw [q.2]; exact d1, by rw [hl u d4.2.1]; exact d2, d3, ?_, by rw [hs u d4.2.1]; exact d5, ef_cg d6 q.1 r.1⟩
  · unfold am_ob at c ⊢; rw [hs e c.2.1]; exact ⟨c.1, Nat.lt_of_lt_of_le c.2.1 hm, c.2.2⟩
  · unfold am_ay at d4 ⊢; rw [hs u d4.2.1]; exact ⟨d4.1, Nat.lt_of_lt_of_le d4.2.1 hm, d4.2.2⟩
theorem am_W_ext {h h' : am_H} {J J' : Nat → Nat → Int32} {lab lab' : Nat → Nat} (hW : am_W h J lab) (ho : onf h J h' J' lab 0) (hl : ∀ q, q < am_n h → lab' q = lab q) (h35 : ∀ i f, i < 192 → am_P h' 35 i = some f → am_P h 35 i = some f ∨ (lab' f = 200 + i ∧ 74 ≤ f ∧ am_ob h' f 10)) (hs : ∀ q, q < am_n h → am_sh h' q = am_sh h q) (hm : am_n h ≤ am_n h') : am_W h' J' lab' := by
  refine ⟨fun k hk e hp => ?_, fun l hl' w hp => ?_, fun i hi f hp => ?_⟩
  · rw [ho.2.2.2 k] at hp
    exact ef_c_cg (by omega) (hW.1 k hk e hp) ho hl hs hm
  · rw [ho.2.2.1 l] at hp
    obtain ⟨a, b, c, sp, d1, d2⟩ := hW.2.1 l hl' w hp
    have q := ho.1 w b c.2.1 (fun z => by unfold fcl at z; omega)
    refine ⟨by rw [hl w c.2.1]; exact a, b, ?_, sp, by rw [q.2]; exact d1, ef_c_cg (by omega) d2 ho hl hs hm⟩
    unfold am_ob at c ⊢; rw [hs w c.2.1]; exact ⟨c.1, Nat.lt_of_lt_of_le c.2.1 hm, c.2.2⟩
  · rcases h35 i f hi hp with z | z
    · obtain ⟨a, b, c⟩ := hW.2.2 i hi f z
      refine ⟨by rw [hl f c.2.1]; exact a, b, ?_⟩
      unfold am_ob at c ⊢; rw [hs f c.2.1]; exact ⟨c.1, Nat.lt_of_lt_of_le c.2.1 hm, c.2.2⟩
    · exact z
theorem am_W_lo {h h' : am_H} {J J' : Nat → Nat → Int32} {lab : Nat → Nat} (hW : am_W h J lab) (ho : onf h J h' J' lab 0) (h35 : ∀ i, am_P h' 35 i = am_P h 35 i) (hs : am_sh h' = am_sh h) (hm : am_n h' = am_n h) : am_W h' J' lab := am_W_ext hW ho (fun _ _ => rfl) (fun i f _ q => Or.inl (by rw [← h35 i]; exact q)) (fun q _ => by rw [hs]) (Nat.le_of_eq hm.symm)
