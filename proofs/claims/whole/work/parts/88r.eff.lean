/-! The effective that a generic is to use, in the code. -/
theorem cont_cg2 {J K : Nat → Nat → Int32} {e u : Nat} {rk : Nat → Int32} (h : cont J e u rk) (he : ∀ j, 1 ≤ j → j ≤ 4 → K e j = J e j) (hu : K u = J u) (h18 : K 18 = J 18) : cont K e u rk := by
  have j : ∀ j, 1 ≤ j → j ≤ 4 → jn K e j = jn J e j := fun j a b => by unfold jn; rw [he j a b]
  unfold cont at h ⊢
  rw [j 1 (by decide) (by decide), j 2 (by decide) (by decide), j 3 (by decide) (by decide), j 4 (by decide) (by decide)]
  exact ⟨seg_cg h.1 hu h18 (fun _ => rfl), seg_cg h.2.1 hu h18 (fun _ => rfl), seg_cg h.2.2.1 hu h18 (fun _ => rfl), seg_cg h.2.2.2 hu h18 (fun _ => rfl)⟩
theorem ef_cg2 {J K : Nat → Nat → Int32} {e r : Nat} (h : ef_ok J e r) (h1 : ∀ j, 1 ≤ j → j ≤ 4 → K e j = J e j) (h2 : K r = J r) : ef_ok K e r := ⟨fun j a b => by
    have g := h.1 j a b
    unfold jn at g ⊢
    rw [h1 j a b]
    exact g, fun j => by
    have g := h.2 j
    unfold jn at g ⊢
    rw [h2]
    exact g⟩
/-- the content of one effective changes -/
theorem am_W_e {h : am_H} {J J' : Nat → Nat → Int32} {lab : Nat → Nat} {e u n0 : Nat} (hW : am_W h J lab) (hq : ∀ q, 74 ≤ q → q < am_n h → ¬ q = e → ¬ q = u → J' q = J q) (hE : ef_ok J' e u) (pe : am_P h e 0 = some u) (le : lab e = 2 * n0) (lu : lab u = 2 * n0 + 1) : am_W h J' lab := by
  have ef : ∀ e' m, ef_c h J lab e' (2 * m) → ef_c h J' lab e' (2 * m) := fun e' m g => by
    obtain ⟨a, b, c, u', d1, d2, d3, d4, d5, d6⟩ := g
    refine ⟨a, b, c, u', d1, d2, d3, d4, d5, ?_⟩
    by_cases z : e' = e
    · rw [z, pe] at d1
      have eu : u = u' := Option.some.inj d1
      rw [z, ← eu]
      exact hE
    · have n1 : ¬ e' = u := fun z2 => by rw [z2] at a; omega
      have n2 : ¬ u' = e := fun z2 => by rw [z2] at d2; omega
      have g1 := hq e' b c.2.1 z n1
      by_cases z2 : u' = u
      · rw [z2]
        exact ⟨fun j x y => by have g := d6.1 j x y; unfold jn at g ⊢; rw [g1]; exact g, hE.2⟩
      · exact ef_cg d6 g1 (hq u' d3 d4.2.1 n2 z2)
  refine ⟨fun k hk e' hp => ?_, fun l hl w hp => ?_, hW.2.2⟩
  · have g := hW.1 k hk e' hp
    rw [show 1000 + 2 * k = 2 * (500 + k) by omega] at g ⊢
    exact ef e' _ g
  · obtain ⟨a, b, c, sp, d1, d2⟩ := hW.2.1 l hl w hp
    rw [show 4000 + 2 * l = 2 * (2000 + l) by omega] at d2 ⊢
    exact ⟨a, b, c, sp, d1, ef sp _ d2⟩
/-- new cells come, the old ones stay -/
theorem am_W_x {h h' : am_H} {J J' : Nat → Nat → Int32} {lab lab' : Nat → Nat} (hW : am_W h J lab) (hm : am_n h ≤ am_n h') (ho : ∀ q, 74 ≤ q → q < am_n h → J' q = J q ∧ ∀ j, am_P h' q j = am_P h q j) (hl : ∀ q, q < am_n h → lab' q = lab q) (hs : ∀ q, q < am_n h → am_sh h' q = am_sh h q) (h23 : ∀ k e, k < 720 → am_P h' 23 k = some e → am_P h 23 k = some e ∨ ef_c h' J' lab' e (1000 + 2 * k)) (h34 : ∀ l w, l < 12 → am_P h' 34 l = some w → am_P h 34 l = some w ∨ (lab' w = 100 + l ∧ 74 ≤ w ∧ am_ob h' w 8 ∧ ∃ sp, am_P h' w 0 = some sp ∧ ef_c h' J' lab' sp (4000 + 2 * l))) (h35 : ∀ i f, i < 192 → am_P h' 35 i = some f → am_P h 35 i = some f) : am_W h' J' lab' := by
  have ob : ∀ q c, am_ob h q c → am_ob h' q c := fun q c z => by
    unfold am_ob at z ⊢
    rw [hs q z.2.1]
    exact ⟨z.1, Nat.lt_of_lt_of_le z.2.1 hm, z.2.2⟩
  have ef : ∀ e n, ef_c h J lab e n → ef_c h' J' lab' e n := fun e n g => by
    obtain ⟨a, b, c, u, d1, d2, d3, d4, d5, d6⟩ := g
    have q := ho e b c.2.1
    have r := ho u d3 d4.2.1
    refine ⟨by rw [hl e c.2.1]; exact a, b, ob e 9 c, u, by rw [q.2]; exact d1, by rw [hl u d4.2.1]; exact d2, d3, ?_, by rw [hs u d4.2.1]; exact d5, ef_cg d6 q.1 r.1⟩
    unfold am_ay at d4 ⊢
    rw [hs u d4.2.1]
    exact ⟨d4.1, Nat.lt_of_lt_of_le d4.2.1 hm, d4.2.2⟩
  refine ⟨fun k hk e hp => ?_, fun l hl' w hp => ?_, fun i hi f hp => ?_⟩
  · rcases h23 k e hk hp with z | z
    · exact ef e _ (hW.1 k hk e z)
    · exact z
  · rcases h34 l w hl' hp with z | z
    · obtain ⟨a, b, c, sp, d1, d2⟩ := hW.2.1 l hl' w z
      exact ⟨by rw [hl w c.2.1]; exact a, b, ob w 8 c, sp, by rw [(ho w b c.2.1).2]; exact d1, ef sp _ d2⟩
    · exact z
  · obtain ⟨a, b, c⟩ := hW.2.2 i hi f (h35 i f hi hp)
    exact ⟨by rw [hl f c.2.1]; exact a, b, ob f 10 c⟩
/-- which effective may have changed: none, the spare one of this level, one that is not current -/
def chg (h : am_H) (J J' : Nat → Nat → Int32) (lab' : Nat → Nat) (lv e u : Nat) : Prop := (J' e = J e ∧ J' u = J u) ∨ (lab' e = 4000 + 2 * lv ∧ lab' u = 4001 + 2 * lv) ∨ ∃ k, k < 720 ∧ lab' e = 1000 + 2 * k ∧ lab' u = 1001 + 2 * k ∧ ∀ a, am_P h 23 k = some a → ¬ J a 5 = J 24 (k / 144)
def Efo (h : am_H) (J L : Nat → Nat → Int32) (lab : Nat → Nat) (lv sp g x : Nat) (yi ow : Int32) (key cc : Nat) (h' : am_H) (J' : Nat → Nat → Int32) (lab' : Nat → Nat) (e u : Nat) : Prop := (am_B h' ∧ am_ty2 J' ∧ am_W h' J' lab' ∧ am_R h') ∧ ((∀ q, 74 ≤ q → q < am_n h → ¬ q = e → ¬ q = u → J' q = J q) ∧ (∀ q j, q < am_n h → ¬ q = 23 → am_P h' q j = am_P h q j) ∧ (∀ k a, am_P h 23 k = some a → am_P h' 23 k = some a) ∧ am_n h ≤ am_n h' ∧ ∀ q, q < am_n h → lab' q = lab q ∧ am_sh h' q = am_sh h q) ∧ chg h J J' lab' lv e u ∧ ((∀ q, q < 74 → ¬ q = 22 → ¬ q = 25 → ¬ q = 26 → J' q = J q) ∧ (∀ j, ¬ j = 7 → J' 22 j = J 22 j) ∧ rl_K h' J' (en3 ow key L) cc ∧ J' 22 7 = en3 ow key L 73 5) ∧ (am_P h' e 0 = some u ∧ (e = sp ∨ ∃ k, k < 720 ∧ am_P h' 23 k = some e ∧ J' e 5 = J' 24 (k / 144)) ∧ cont J' e u (rkx J g x yi))
/-- it is found in the spare one -/
theorem ef_own {h : am_H} {J L : Nat → Nat → Int32} {lab : Nat → Nat} {cc lv g x y sp u key : Nat} {yi ow : Int32} (hB : am_B h) (hT : am_ty2 J) (hL : am_ty2 L) (hW : am_W h J lab) (hR : am_R h) (hC : rl_C J L) (hI : rl_I J L) (hM : rl_M J L) (hK : rl_K h J L cc) (e7 : J 22 7 = L 73 5) (hlv : lv < 12) (hsp : ef_c h J lab sp (4000 + 2 * lv)) (hu : am_P h sp 0 = some u) (hg : g < 5) (hx : x < 12) (hy : y < 12) (hyi : jn J 16 g = 2 → yi = nI y) (how : ow = nI 1) (ty : am_ty2 (K_find J g x yi sp u)) : Efo h J L lab lv sp g x yi ow key cc h (K_find J g x yi sp u) lab sp u := by
  obtain ⟨a, b, c, u', d1, d2, d3, d4, d5, d6⟩ := hsp
  rw [hu] at d1
  have eu : u = u' := Option.some.inj d1
  subst eu
  have ne : ¬ sp = u := fun z => by rw [← z, a] at d2; omega
  obtain ⟨k1, k2, k3, k4, k5, k6⟩ := K_find_cont hT hL hC hI hM hg hx hy hyi ne b d3 d6
  have o : ∀ q, 74 ≤ q → ¬ q = sp → ¬ q = u → K_find J g x yi sp u q = J q := fun q x1 x2 x3 => k3 q x2 x3 (by omega) (by omega)
  have lo : ∀ q, q < 74 → ¬ q = 22 → ¬ q = 26 → K_find J g x yi sp u q = J q := fun q x1 x2 x3 => k3 q (by omega) (by omega) x3 x2
  have e3 : en3 ow key L = am_u2 L 73 5 (L 73 5 + nI 1) := by unfold en3; rw [how, am_ite_f (by decide)]
  refine ⟨⟨hB, ty, am_W_e (n0 := 2000 + lv) hW (fun q x1 _ x2 x3 => o q x1 x2 x3) k2 hu (by omega) (by omega), hR⟩, ⟨fun q x1 _ x2 x3 => o q x1 x2 x3, fun _ _ _ _ => rfl, fun _ _ z => z, Nat.le_refl _, fun _ _ => ⟨rfl, rfl⟩⟩, Or.inr (Or.inl ⟨a, by omega⟩), ⟨fun q x1 x2 x3 x4 => lo q x1 x2 x4, k6, ?_, ?_⟩, hu, Or.inl rfl, k1⟩
  · rw [e3]
    refine rl_K_cg hK (fun _ => rfl) (fun k e hk hp => ?_) (fun q hq => lo q (by omega) (by omega) (by omega)) (fr_u (by decide))
    obtain ⟨a', b', c', v, f1, f2, f3, f4, f5, f6⟩ := hW.1 k hk e hp
    refine ⟨o e b' (fun z => by rw [z] at a'; omega) (fun z => by rw [z] at a'; omega), fun w hw => ⟨hw, ?_⟩⟩
    rw [f1] at hw
    have ev : v = w := Option.some.inj hw
    rw [← ev]
    exact o v f3 (fun z => by rw [z] at f2; omega) (fun z => by rw [z] at f2; omega)
  · rw [e3, am_u2_s, k5, e7]
/-- it is kept already -/
theorem ef_old {h : am_H} {J L : Nat → Nat → Int32} {lab : Nat → Nat} {cc lv g x y sp e u c2 : Nat} {yi ow : Int32} (hB : am_B h) (hT : am_ty2 J) (hL : am_ty2 L) (hW : am_W h J lab) (hR : am_R h) (hC : rl_C J L) (hI : rl_I J L) (hM : rl_M J L) (hK : rl_K h J L cc) (e7 : J 22 7 = L 73 5) (hg : g < 5) (hx : x < 12) (hy : y < 12) (hyi : jn J 16 g = 2 → yi = nI y) (hc2 : jn J 16 g = 2 → c2 = jn J 11 y) (hc : c2 < 12) (how : ow = nI 0) (hno : ∀ m, m < 16 → apl L g x y m → ¬ ins_ L g m) (hp : am_P h 23 (144 * g + (12 * jn J 11 x + c2)) = some e) (hage : J e 5 = J 24 g) (hu : am_P h e 0 = some u) : Efo h J L lab lv sp g x yi ow (144 * g + (12 * jn J 11 x + c2)) cc h J lab e u := by
  have b11 := (ty_n hT (q := 11) (B := 12) (by decide) (by decide) x).2
  have k1 := (hK.2.1 g hg (12 * jn J 11 x + c2) (by omega)).mpr ⟨e, hp, hage⟩
  have e3 : en3 ow (144 * g + (12 * jn J 11 x + c2)) L = am_u2 L 58 (144 * g + (12 * jn J 11 x + c2)) (nI 1) := by
    unfold en3
    rw [how, am_ite_t (by decide), am_ite_f (by rw [k1]; decide)]
  have v1 : L 58 (144 * g + (12 * jn J 11 x + c2)) = nI 1 := by
    have g9 := (ty_n hL (q := 58) (B := 2) (by decide) (by decide) (144 * g + (12 * jn J 11 x + c2))).1
    rw [k1] at g9
    exact g9
  have e58 : am_u2 L 58 (144 * g + (12 * jn J 11 x + c2)) (nI 1) 58 = L 58 := funext fun j => by
    by_cases z : j = 144 * g + (12 * jn J 11 x + c2)
    · rw [z, am_u2_s, v1]
    · rw [u2_ne z]
  refine ⟨⟨hB, hT, hW, hR⟩, ⟨fun _ _ _ _ _ => rfl, fun _ _ _ _ => rfl, fun _ _ z => z, Nat.le_refl _, fun _ _ => ⟨rfl, rfl⟩⟩, Or.inl ⟨rfl, rfl⟩, ⟨fun _ _ _ _ _ => rfl, fun _ _ => rfl, ?_, ?_⟩, hu, Or.inr ⟨144 * g + (12 * jn J 11 x + c2), by omega, hp, by rw [hage, show (144 * g + (12 * jn J 11 x + c2)) / 144 = g by omega]⟩, ?_⟩
  · rw [e3]
    exact rl_K_cg hK (fun _ => rfl) (fun _ _ _ _ => ⟨rfl, fun _ w => ⟨w, rfl⟩⟩) (fun _ _ => rfl) e58
  · rw [e3, fr_u (by decide)]
    exact e7
  · exact cont_rk (hK.2.2.2 g (jn J 11 x) c2 e u hg b11 hc hp hage hu) (rkc_rkx hT hL hC hI hM hg hx hy hyi hc2 hno)
/-- it is found anew, and kept; the entry may be new -/
theorem ef_new {h h1 : am_H} {J J1 L : Nat → Nat → Int32} {lab lab1 : Nat → Nat} {cc lv g x y sp e u c2 : Nat} {yi ow : Int32} (hT : am_ty2 J) (hL : am_ty2 L) (hW : am_W h J lab) (hC : rl_C J L) (hI : rl_I J L) (hM : rl_M J L) (hK : rl_K h J L cc) (e7 : J 22 7 = L 73 5) (hB1 : am_B h1) (hW1 : am_W h1 J1 lab1) (hR1 : am_R h1) (hn : am_n h ≤ am_n h1) (h74 : 74 ≤ am_n h) (hT1 : am_ty2 J1) (ho : ∀ q, q < am_n h → lab1 q = lab q ∧ am_sh h1 q = am_sh h q) (hJ : ∀ q, q < am_n h → J1 q = J q) (hP : ∀ q j, q < am_n h → ¬ (q = 23 ∧ j = 144 * g + (12 * jn J 11 x + c2)) → am_P h1 q j = am_P h q j) (hP2 : ∀ a, am_P h 23 (144 * g + (12 * jn J 11 x + c2)) = some a → a = e) (hg : g < 5) (hx : x < 12) (hy : y < 12) (hyi : jn J 16 g = 2 → yi = nI y) (hc2 : jn J 16 g = 2 → c2 = jn J 11 y) (hc : c2 < 12) (how : ow = nI 0) (hno : ∀ m, m < 16 → apl L g x y m → ¬ ins_ L g m) (hp : am_P h1 23 (144 * g + (12 * jn J 11 x + c2)) = some e) (h0 : ¬ jn L 58 (144 * g + (12 * jn J 11 x + c2)) = 1) (hu : am_P h1 e 0 = some u) (ty : am_ty2 (am_u2 (am_u2 (K_find J1 g x yi e u) e 5 (J1 24 g)) 25 g ((J1 25 g) + (nI 1)))) : Efo h J L lab lv sp g x yi ow (144 * g + (12 * jn J 11 x + c2)) cc h1 (am_u2 (am_u2 (K_find J1 g x yi e u) e 5 (J1 24 g)) 25 g ((J1 25 g) + (nI 1))) lab1 e u := by
  have b11 := (ty_n hT (q := 11) (B := 12) (by decide) (by decide) x).2
  have kl : 144 * g + (12 * jn J 11 x + c2) < 720 := by omega
  obtain ⟨a, b, c, u', d1, d2, d3, d4, d5, d6⟩ := hW1.1 _ kl e hp
  rw [hu] at d1
  have eu : u = u' := Option.some.inj d1
  subst eu
  have ne : ¬ e = u := fun z => by rw [← z, a] at d2; omega
  have J74 : ∀ q, q < 74 → J1 q = J q := fun q hq => hJ q (by omega)
  have hC1 : rl_C J1 L := rl_C_cg2 hC (fun q _ b => J74 q (by omega)) (fun _ _ _ => rfl)
  have hI1 : rl_I J1 L := rl_I_cg2 hI (fun q _ b => J74 q (by omega)) (fun _ _ _ => rfl) rfl rfl
  have hM1 : rl_M J1 L := rl_M_cg hM (by rw [J74 15 (by decide)]) (fun q _ b => J74 q (by omega)) (fun _ _ _ => rfl)
  have e16 : jn J1 16 g = jn J 16 g := jn_cg (J74 16 (by decide))
  have e11 : ∀ i, jn J1 11 i = jn J 11 i := fun i => jn_cg (J74 11 (by decide))
  obtain ⟨k1, k2, k3, k4, k5, k6⟩ := K_find_cont hT1 hL hC1 hI1 hM1 hg hx hy (fun z => hyi (by rw [← e16]; exact z)) ne b d3 d6
  generalize eK : K_find J1 g x yi e u = K1 at *
  generalize eJ : am_u2 (am_u2 K1 e 5 (J1 24 g)) 25 g (J1 25 g + nI 1) = J' at *
  have o : ∀ q, 74 ≤ q → ¬ q = e → ¬ q = u → J' q = J1 q := fun q x1 x2 x3 => by rw [← eJ, fr_u (by omega), fr_u x2, k3 q x2 x3 (by omega) (by omega)]
  have lo : ∀ q, q < 74 → ¬ q = 22 → ¬ q = 25 → ¬ q = 26 → J' q = J q := fun q x1 x2 x3 x4 => by rw [← eJ, fr_u x3, fr_u (by omega), k3 q (by omega) (by omega) x4 x2, J74 q x1]
  have oe : ∀ j, ¬ j = 5 → J' e j = K1 e j := fun j hj => by rw [← eJ, fr_u (by omega), u2_ne hj]
  have ou : J' u = K1 u := by rw [← eJ, fr_u (by omega), fr_u (fun z => ne z.symm)]
  have o5 : J' e 5 = J 24 g := by rw [← eJ, fr_u (by omega), am_u2_s, J74 24 (by decide)]
  have o18 : J' 18 = K1 18 := by rw [← eJ, fr_u (by decide), fr_u (by omega)]
  have o22 : J' 22 = K1 22 := by rw [← eJ, fr_u (by decide), fr_u (by omega)]
  have ok : ef_ok J' e u := ef_cg2 k2 (fun j x1 x2 => oe j (by omega)) ou
  have rkE : ∀ m, rkx J1 g x yi m = rkx J g x yi m := fun m => by
    unfold rkx
    rw [K_rank_cg (J74 4 (by decide)) (J74 5 (by decide)) (J74 11 (by decide)) (J74 19 (by decide)) (J74 20 (by decide)), J74 17 (by decide)]
  have ct : cont J' e u (rkx J g x yi) := cont_rk (cont_cg2 k1 (fun j x1 x2 => oe j (by omega)) ou o18) (fun m _ => (rkE m).symm)
  have z58 : jn L 58 (144 * g + (12 * jn J 11 x + c2)) = 0 := by
    have := (ty_n hL (q := 58) (B := 2) (by decide) (by decide) (144 * g + (12 * jn J 11 x + c2))).2
    omega
  have e3 : en3 ow (144 * g + (12 * jn J 11 x + c2)) L = am_u2 (am_u2 L 73 5 (L 73 5 + nI 1)) 58 (144 * g + (12 * jn J 11 x + c2)) (nI 1) := by
    unfold en3
    rw [how, am_ite_t (by decide), am_ite_t z58]
  have kd : (144 * g + (12 * jn J 11 x + c2)) / 144 = g := by omega
  refine ⟨⟨hB1, ty, am_W_e (n0 := 500 + (144 * g + (12 * jn J 11 x + c2))) hW1 (fun q x1 _ x2 x3 => o q x1 x2 x3) ok hu (by omega) (by omega), hR1⟩, ⟨fun q x1 x4 x2 x3 => (o q x1 x2 x3).trans (hJ q x4), fun q j x1 x2 => hP q j x1 (fun z => x2 z.1), fun k a' z => ?_, hn, ho⟩, Or.inr (Or.inr ⟨144 * g + (12 * jn J 11 x + c2), kl, a, by omega, fun a' z => ?_⟩), ⟨lo, fun j hj => by rw [o22, k6 j hj, J74 22 (by decide)], ?_, ?_⟩, hu, Or.inr ⟨144 * g + (12 * jn J 11 x + c2), kl, hp, by rw [o5, kd, lo 24 (by decide) (by decide) (by decide) (by decide)]⟩, ct⟩
  · by_cases zk : k = 144 * g + (12 * jn J 11 x + c2)
    · rw [zk] at z ⊢
      rw [hP2 a' z]
      exact hp
    · rw [hP 23 k (by omega) (fun z => zk z.2)]
      exact z
  · rw [kd]
    exact fun q => h0 ((hK.2.1 g hg (12 * jn J 11 x + c2) (by omega)).mpr ⟨a', z, q⟩)
  · rw [e3]
    refine rl_K_new hK hg b11 hc h0 hp hu o5 ?_ (fun k hk zk => ⟨hP 23 k (by omega) (fun z => zk z.2), fun e' he' => ?_⟩) (fun q hq => lo q (by omega) (by omega) (by omega) (by omega)) ⟨by rw [← eJ, am_u2_s, J74 25 (by decide)], fun j hj => by rw [← eJ, u2_ne hj, fr_u (by omega), k3 25 (by omega) (by omega) (by decide) (by decide), J74 25 (by decide)]⟩ ⟨am_u2_s, fun j hj => by rw [u2_ne hj, fr_u (by decide)]⟩
    · refine cont_rk ct (fun m hm => ?_)
      rw [rkc_rkx hT hL hC hI hM hg hx hy hyi hc2 hno m hm]
      exact rkc_cg (lo 4 (by decide) (by decide) (by decide) (by decide)) (lo 5 (by decide) (by decide) (by decide) (by decide)) (lo 17 (by decide) (by decide) (by decide) (by decide)) (lo 19 (by decide) (by decide) (by decide) (by decide)) (lo 20 (by decide) (by decide) (by decide) (by decide))
    · obtain ⟨a', b', c', v, f1, f2, f3, f4, f5, f6⟩ := hW.1 k hk e' he'
      have le' := (ho e' c'.2.1).1
      have lv' := (ho v f4.2.1).1
      refine ⟨(o e' b' (fun z => ?_) (fun z => ?_)).trans (hJ e' c'.2.1), fun w hw => ?_⟩
      · rw [z, a, ← z, a'] at le'; omega
      · rw [z, d2, ← z, a'] at le'; omega
      · rw [hP e' 0 c'.2.1 (fun z => by omega), f1] at hw
        have ev : v = w := Option.some.inj hw
        rw [← ev]
        refine ⟨f1, (o v f3 (fun z => ?_) (fun z => ?_)).trans (hJ v f4.2.1)⟩
        · rw [z, a, ← z, f2] at lv'; omega
        · rw [z, d2, ← z, f2] at lv'; omega
  · rw [e3, fr_u (by decide), am_u2_s, o22, k5, J74 22 (by decide), e7]
