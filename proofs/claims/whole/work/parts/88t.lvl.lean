/-! A new level. -/
theorem R_enter_ty {L : Nat → Nat → Int32} {g x y : Nat} (h : am_H) (hB : am_B h) (hL : am_ty2 L) (hg : g < 5) (hx : x < 12) (hy : y < 12) (hl : jn L 36 38 < 12) (ht : jn L 36 39 < 320) : am_ty2 (R_enter L g x y).2 := by
  obtain ⟨n, r', h', _, _, _, g⟩ := s_R_enter (d := (11, 434)) hB hL g x y hg hx hy hl ht (by decide) (by decide)
  exact g
/-- cells that the levels and frames below use -/
def act (h : am_H) (J : Nat → Nat → Int32) (lab : Nat → Nat) (lv op q : Nat) : Prop := (100 ≤ lab q ∧ lab q < 100 + lv) ∨ (200 ≤ lab q ∧ lab q < 200 + op) ∨ (∃ l, l < lv ∧ (lab q = 4000 + 2 * l ∨ lab q = 4001 + 2 * l)) ∨ ∃ k, k < 720 ∧ (lab q = 1000 + 2 * k ∨ lab q = 1001 + 2 * k) ∧ ∃ a, am_P h 23 k = some a ∧ J a 5 = J 24 (k / 144)
theorem ef_u {h : am_H} {J : Nat → Nat → Int32} {lab : Nat → Nat} {e n u : Nat} (g : ef_c h J lab e n) (hu : am_P h e 0 = some u) : lab u = n + 1 ∧ 74 ≤ u ∧ u < am_n h := by
  obtain ⟨a, b, c, v, d1, d2, d3, d4, d5⟩ := g
  rw [d1] at hu
  have ev : v = u := Option.some.inj hu
  rw [← ev]
  exact ⟨d2, d3, d4.2.1⟩
theorem Pk_tr {h h' : am_H} {J J' L L' : Nat → Nat → Int32} {lab : Nat → Nat} {op tp lv c : Nat} (hW : am_W h J lab) (hlv : lv ≤ 12) (hop : op ≤ 192) (hV : ∀ l, l < lv → lvR h J L l) (hS : stk h J L op tp lv c) (hL : loL L L' tp lv) (hLV : ∀ l, l < lv → loV L L' l) (h10 : J' 10 5 = J 10 5) (h24 : J' 24 = J 24) (h28 : J' 28 = J 28) (h23 : ∀ k e, am_P h 23 k = some e → am_P h' 23 k = some e) (h34 : ∀ l, l < lv → am_P h' 34 l = am_P h 34 l) (h35 : ∀ i, i < op → am_P h' 35 i = am_P h 35 i) (hc : ∀ q, 74 ≤ q → q < am_n h → act h J lab lv op q → J' q = J q ∧ ∀ j, am_P h' q j = am_P h q j) : (∀ l, l < lv → lvR h' J' L' l) ∧ stk h' J' L' op tp lv c := by
  refine ⟨fun l hl => lvR_cg (hV l hl) (hLV l hl) h10 h24 (fun k e _ q => h23 k e q) (fun w hp => ?_) (fun w e u p1 p2 p3 p4 => ?_), stk_cg h28 op tp lv c hS hL (fun i f hi hp => ?_) (fun l w hl hp => ?_)⟩
  · have g := hW.2.1 l (by omega) w hp
    have r := hc w g.2.1 g.2.2.1.2.1 (Or.inl (by omega))
    exact ⟨by rw [h34 l hl]; exact hp, r.1, r.2⟩
  · rcases p4 with z | ⟨k, k1, k2, k3⟩
    · obtain ⟨g1, g2, g3, sp, g4, g5⟩ := hW.2.1 l (by omega) w p1
      rw [g4] at z
      have es : sp = e := Option.some.inj z
      rw [es] at g5
      obtain ⟨u1, u2, u3⟩ := ef_u g5 p3
      have r := hc e g5.2.1 g5.2.2.1.2.1 (Or.inr (Or.inr (Or.inl ⟨l, hl, Or.inl g5.1⟩)))
      have r2 := hc u u2 u3 (Or.inr (Or.inr (Or.inl ⟨l, hl, Or.inr (by omega)⟩)))
      exact ⟨r.1, r2.1, r.2 0⟩
    · have g5 := hW.1 k k1 e k2
      obtain ⟨u1, u2, u3⟩ := ef_u g5 p3
      have r := hc e g5.2.1 g5.2.2.1.2.1 (Or.inr (Or.inr (Or.inr ⟨k, k1, Or.inl g5.1, e, k2, k3⟩)))
      have r2 := hc u u2 u3 (Or.inr (Or.inr (Or.inr ⟨k, k1, Or.inr (by omega), e, k2, k3⟩)))
      exact ⟨r.1, r2.1, r.2 0⟩
  · have g := hW.2.2 i (by omega) f hp
    have r := hc f g.2.1 g.2.2.2.1 (Or.inr (Or.inl (by omega)))
    exact ⟨by rw [h35 i hi]; exact hp, r.1, r.2 0⟩
  · have g := hW.2.1 l (by omega) w hp
    have r := hc w g.2.1 g.2.2.1.2.1 (Or.inl (by omega))
    exact ⟨by rw [h34 l hl]; exact hp, by rw [r.1]⟩
/-- how many frames there are -/
theorem stk_op {h : am_H} {J L : Nat → Nat → Int32} {op tp lv c : Nat} (hV : ∀ l, l < lv → lvR h J L l) (hS : stk h J L op tp lv c) : op ≤ 16 * lv ∧ tp ≤ op + lv := by
  cases op with
  | zero => obtain ⟨a, b, _⟩ := hS; omega
  | succ n =>
    obtain ⟨f, w, t0, lv0, c0, p1, p2, p3, p4, p5, p6, p7, p8, p9, p10, p11⟩ := hS
    obtain ⟨w', e, u, q1, q2, q3, q4, q5, q6, q7⟩ := hV (lv - 1) (by omega)
    rw [p4] at q1
    have ew : w = w' := Option.some.inj q1
    rw [← ew] at q7
    have d := dpt_le q5.2.2.2.2.1 q5.2.2.2.2.2 p5.1.1.2
    have t := fR_t p5
    refine ⟨by omega, ?_⟩
    rcases p5.2 with z | z
    · have := p8.2 (Or.inr z.1); omega
    · have := z.2.2.2.2.2.1; omega
theorem dpt_0 {L : Nat → Nat → Int32} {l p : Nat} (h0 : 0 < mk L l 0) (hp : (s_bf L l = 0 ∧ p = s_pr L l) ∨ (¬ s_bf L l = 0 ∧ p = 0)) : dpt L l p = 0 ∧ ¬ asd L l p ∧ p < s_sz L l := by
  have g : 0 < mk L l 0 → s_af L l = s_pr L l + mk L l 0 := fun _ => rfl
  have g2 := g h0
  have sl := s_le (L := L) (l := l)
  unfold dpt asd
  rcases hp with ⟨z, e⟩ | ⟨z, e⟩
  · rw [if_neg (by omega), if_neg (by omega), if_pos (by omega)]
    omega
  · rw [if_pos (by omega)]
    omega
theorem ct_le {J L : Nat → Nat → Int32} {f l : Nat} (hs : s_sz L l ≤ 16) (h0 : 0 < mk L l 0) (h7 : jn J f 8 - jn J f 7 ≤ mk L l 1) : ct J L f l ≤ 67 := by
  have g : s_sz L l = mk L l 3 + mk L l 1 + mk L l 0 + mk L l 2 := rfl
  unfold ct
  split
  · split <;> omega
  · split <;> omega
/-- the first frame of a new level -/
theorem t_new {h h' : am_H} {J J' L L5 : Nat → Nat → Int32} {lab lab' : Nat → Nat} {op tp lv c f w e u place : Nat} (hB : am_B h) (hT : am_ty2 J) (hL : am_ty2 L) (hW : am_W h J lab) (hV : ∀ l, l < lv → lvR h J L l) (hS : stk h J L op tp lv c) (h34 : am_P h 34 lv = some w) (hV2 : am_P h w 1 = some e ∧ am_P h e 0 = some u ∧ (am_P h w 0 = some e ∨ ∃ k, k < 720 ∧ am_P h 23 k = some e ∧ J e 5 = J 24 (k / 144)) ∧ (jn J e 2 = s_bf L lv ∧ jn J e 3 = s_pr L lv ∧ jn J e 4 = s_af L lv ∧ jn J e 1 = s_sz L lv ∧ s_sz L lv ≤ 16 ∧ 0 < mk L lv 0) ∧ (∀ p, p < s_sz L lv → jn J u p = jn L 59 ((16 * ((4 * lv) + kdp L lv p)) + plp L lv p)) ∧ (J w 2 = nI (jn L 49 (jn L 63 lv)) ∧ J w 3 = L 61 lv ∧ jn L 61 lv < jn J 10 5 ∧ (jn L 49 (jn L 63 lv) = 2 → J w 4 = L 62 lv ∧ jn L 62 lv < jn J 10 5) ∧ J w 5 = nI (jn J w 5) ∧ jn J w 5 ≤ 16 * lv)) (w5 : jn J w 5 = op) (hlv : lv < 12) (e8 : jn J 33 8 = lv + 1) (e38 : jn L 36 38 = lv + 1) (e39 : jn L 36 39 = tp) (hm : J 33 11 = nI 0 ∧ J 33 13 = -1 ∧ jn J 33 10 = jn L 36 41 ∧ J 33 17 = L 73 9) (hr : J 28 = L 57 ∧ J 29 = L 55 ∧ J 30 = L 56 ∧ J 16 = L 49 ∧ J 21 = L 54) (hcl : op = 0 ∨ ∃ b, am_P h 35 (op - 1) = some b ∧ J b 5 = nI 1 ∧ ¬ jn L 65 (tp - 1) = 9) (h4 : L 73 4 = J 33 16) (hB' : am_B h') (ty : am_ty2 J') (hW' : am_W h' J' lab') (o : opn h J h' J' lab lab' op f w e u place) (hpl : (jn J e 2 = 0 ∧ place = jn J e 3) ∨ (¬ jn J e 2 = 0 ∧ place = 0)) (eL : L5 = R_begin L 3 0) (tyL : am_ty2 L5) : Mst h' J' L5 lab' (op + 1) (tp + 1) (lv + 1) (c + ct J' L5 f lv) ∧ ct J' L5 f lv ≤ 67 ∧ chL L L5 ∧ jn L5 36 41 = jn L 36 41 := by
  obtain ⟨v1, v2, v3, s, r, x⟩ := hV2
  rw [s.1, s.2.1] at hpl
  obtain ⟨d0, nas, psz⟩ := dpt_0 (p := place) s.2.2.2.2.2 hpl
  obtain ⟨o1, ⟨o2, o3, o4, o5⟩, ⟨o6, o7⟩, ⟨o8, o9, o10⟩, o11, o12, o13, o14⟩ := o
  rw [s.2.1] at o13 o14
  rw [s.1] at o14
  have sop := stk_op hV hS
  have op192 : op < 192 := by omega
  have p16 : place < 16 := Nat.lt_of_lt_of_le psz s.2.2.2.2.1
  have e38' : jn L 36 38 - 1 = lv := by rw [e38]; exact s1
  -- the reference's frame
  have beg : bgO L L5 ∧ bgF L L5 0 ∧ ((s_bf L lv = 0 ∧ L5 65 tp = nI 9 ∧ L5 73 4 = L 73 4) ∨ (¬ s_bf L lv = 0 ∧ L5 65 tp = nI 3 ∧ L5 71 tp = nI (jn L 54 (jn L 59 ((16 * ((4 * lv) + 3)) + 0))) ∧ L5 73 4 = L 73 4 + nI 1)) := by
    by_cases z : s_bf L lv = 0
    · have g := R_begin_9 hL (pl := 0) (by rw [e38']; exact z.symm)
      rw [← eL, e39] at g
      exact ⟨g.1, g.2.1, Or.inl ⟨z, g.2.2⟩⟩
    · have g := R_begin_N hL (kd := 3) (pl := 0) (fun _ q => z (by rw [e38'] at q; exact q.symm))
      rw [← eL, e39, e38'] at g
      exact ⟨g.1, g.2.1, Or.inr ⟨z, g.2.2⟩⟩
  obtain ⟨g1, g2, g3⟩ := beg
  unfold bgF at g2
  obtain ⟨b1, b2, b3, b4, b5⟩ := g1
  rw [e39] at b1 b3 g2
  rw [e38'] at g2
  have cL : chL L L5 := ⟨b4, b2 37 (by decide), fun j a _ => b5 j a⟩
  have kL := chL_ke cL
  obtain ⟨k1, k2, k3, k4, k5⟩ := keL_mk kL lv
  have i1 : jn J' f 1 = place := by unfold jn; rw [o12.1]; exact nI_clamp (by omega)
  have fR' : fR J' L5 f lv tp (tp + 1) := by
    rcases g3 with ⟨z, y1, y2⟩ | ⟨z, y1, y2, y3⟩
    · have ep : place = s_pr L lv := by omega
      exact fR_newM hL kL s.2.2.2.2.1 s.2.2.2.2.2 hlv ep hr.2.2.2.2 (r place psz) o12 (o14 ep) g2.1 y1 g2.2.2.1
    · have ep : place = 0 := by omega
      have np : ¬ place = s_pr L lv := by have := s_le (L := L) (l := lv); omega
      have kp : kdp L lv place = 3 ∧ plp L lv place = 0 := by
        unfold kdp plp
        rw [if_pos (by omega), if_pos (by omega)]
        exact ⟨rfl, ep⟩
      refine fR_new hL kL s.2.2.2.2.1 hlv psz np hr.2.2.2.2 (r place psz) o12 (o13 np) g2.1 ?_ ?_ g2.2.2.1 g2.2.2.2.1 g2.2.2.2.2.1 g2.2.2.2.2.2 ?_
      · rw [kp.1]; exact y1
      · rw [kp.2]; exact g2.2.1
      · rw [kp.1, kp.2]; exact y2
  have gw := hW.2.1 lv (by omega) w h34
  have ow := o1.1 w gw.2.1 gw.2.2.1.2.1 (nf_lo (by omega))
  have lo : ∀ q, 64 ≤ q → q ≤ 71 → ∀ j, j < tp → L5 q j = L q j := fun q a b j hj => b3 q a b j (by omega)
  have of0 := onf_mono o1 (Nat.zero_le op)
  have lvN : lvR h J L lv := ⟨w, e, u, h34, v1, v2, v3, s, r, x⟩
  have h65 : ∀ j, j < tp → jn L5 65 j = jn L 65 j := fun j hj => by unfold jn; rw [lo 65 (by decide) (by decide) j hj]
  refine ⟨⟨⟨hB', ty, tyL, hW'⟩, ⟨by unfold jn at e8 ⊢; rw [o10 8 (by decide)]; exact e8, by omega, by unfold jn; rw [o9]; exact nI_clamp (by omega), by unfold jn; rw [b1]; exact nI_clamp (by omega), fun _ => by unfold jn at e38 ⊢; rw [b2 38 (by decide)]; exact e38⟩, fun l hl => ?_, ?_, ?_, ⟨by rw [o10 11 (by decide)]; exact hm.1, by rw [o10 13 (by decide)]; exact hm.2.1, ?_, by rw [o10 17 (by decide), b5 9 (by decide)]; exact hm.2.2.2⟩, ?_⟩, ?_, cL, by unfold jn; rw [b2 41 (by decide)]⟩
  · have lvl : lvR h J L l := by
      by_cases z : l = lv
      · rw [z]; exact lvN
      · exact hV l (by omega)
    exact lvR_lo lvl hW (by omega) (keL_V kL l) of0 (by rw [o8 10 (by decide) (by decide)]) (o8 24 (by decide) (by decide))
  · refine ⟨f, w, tp, lv, c, o2, o3, by omega, by rw [o1.2.2.1]; exact h34, fR', ⟨fun q => ?_, fun _ => ?_⟩, ?_, ?_, Or.inr ⟨rfl, by rw [jn_cg ow.1]; exact w5⟩, rfl, stk_lo hS hW (by omega) (by omega) o1 (o8 28 (by decide) (by decide)) (keL_L kL lo)⟩
    · exfalso
      have q2 : asd L5 lv (jn J' f 1) := q
      unfold asd at q2 nas
      rw [i1, k1, k2, k3] at q2
      exact nas q2
    · rcases hcl with z | ⟨b, z1, z2, z3⟩
      · exact Or.inl z
      · by_cases z0 : op = 0
        · exact Or.inl z0
        · right
          have gb := hW.2.2 (op - 1) (by omega) b z1
          have ob := o1.1 b gb.2.1 gb.2.2.2.1 (nf_n gb.1 (by omega))
          have t0 := stk_t0 hS (by omega)
          exact ⟨b, by rw [o1.2.1 (op - 1) (by omega)]; exact z1, by rw [ob.1]; exact z2, by rw [h65 _ (by omega)]; exact z3⟩
    · rw [jn_cg ow.1, i1, w5]
      show op = op + dpt L5 lv place
      unfold dpt at d0 ⊢
      rw [k1, k2, k3, d0]
      rfl
    · show tp ≤ op + lv + 1 ∧ (_ → tp ≤ op + lv)
      exact ⟨by omega, fun _ => by omega⟩
  · refine ⟨fun q => absurd q (by omega), fun f' _ hf' => ?_⟩
    rw [s1, o2] at hf'
    have ef : f = f' := Option.some.inj hf'
    rw [← ef, s1, k2, i1, o10 16 (by decide), ← h4]
    rcases g3 with ⟨z, y1, y2⟩ | ⟨z, y1, y2, y3⟩
    · have ep : place = s_pr L lv := by omega
      exact ⟨fun _ => y2, fun q => absurd ep q⟩
    · have np : ¬ place = s_pr L lv := by have := s_le (L := L) (l := lv); omega
      refine ⟨fun q => ?_, fun _ _ => y3⟩
      rcases q with q | q
      · exact absurd q np
      · rw [o12.2.2.2.2.1] at q; exact absurd q (by decide)
  · have := hm.2.2.1
    unfold jn at this ⊢
    rw [o10 10 (by decide), b2 41 (by decide)]
    exact this
  · rw [o8 28 (by decide) (by decide), o8 29 (by decide) (by decide), o8 30 (by decide) (by decide), o8 16 (by decide) (by decide), o8 21 (by decide) (by decide), kL 57 (by decide) (by decide), kL 55 (by decide) (by decide), kL 56 (by decide) (by decide), kL 49 (by decide) (by decide), kL 54 (by decide) (by decide)]
    exact hr
  · refine ct_le (by rw [k4]; exact s.2.2.2.2.1) (by rw [k5 0 (by decide)]; exact s.2.2.2.2.2) ?_
    rw [k5 1 (by decide)]
    rcases g3 with ⟨z, y1, y2⟩ | ⟨z, y1, y2, y3⟩
    · have ep : place = s_pr L lv := by omega
      have q := o14 ep
      have sl := s_le (L := L) (l := lv)
      have e1 : jn J' f 7 = s_bf L lv := by unfold jn; rw [q.1]; exact nI_clamp (by omega)
      have e2 : jn J' f 8 = s_pr L lv := by unfold jn; rw [q.2.1]; exact nI_clamp (by omega)
      have e3 : s_pr L lv = s_bf L lv + mk L lv 1 := rfl
      omega
    · have np : ¬ place = s_pr L lv := by have := s_le (L := L) (l := lv); omega
      have q := o13 np
      have e2 : jn J' f 8 = 0 := by unfold jn; rw [q.2.1]; rfl
      omega
