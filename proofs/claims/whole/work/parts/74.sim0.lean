/-! The machine beside the reference: what stands on both sides. -/
def mk (L : Nat → Nat → Int32) (l k : Nat) : Nat := jn L 60 ((4 * l) + k)
def s_bf (L : Nat → Nat → Int32) (l : Nat) : Nat := mk L l 3
def s_pr (L : Nat → Nat → Int32) (l : Nat) : Nat := mk L l 3 + mk L l 1
def s_af (L : Nat → Nat → Int32) (l : Nat) : Nat := mk L l 3 + mk L l 1 + mk L l 0
def s_sz (L : Nat → Nat → Int32) (l : Nat) : Nat := mk L l 3 + mk L l 1 + mk L l 0 + mk L l 2
/-- kind and place in the reference of a place in the row -/
def kdp (L : Nat → Nat → Int32) (l p : Nat) : Nat := if p < s_bf L l then 3 else if p < s_pr L l then 1 else if p < s_af L l then 0 else 2
def plp (L : Nat → Nat → Int32) (l p : Nat) : Nat := if p < s_bf L l then p else if p < s_pr L l then p - s_bf L l else if p < s_af L l then p - s_pr L l else s_sz L l - 1 - p
/-- how deep in its level a frame of that place stands -/
def dpt (L : Nat → Nat → Int32) (l p : Nat) : Nat := if p < s_bf L l then p else if p < s_pr L l then s_bf L l + 1 else if p < s_af L l then s_bf L l + (p - s_pr L l) else s_bf L l + 1
def asd (L : Nat → Nat → Int32) (l p : Nat) : Prop := (s_bf L l ≤ p ∧ p < s_pr L l) ∨ s_af L l ≤ p
def fA (J L : Nat → Nat → Int32) (f i l : Nat) : Prop := (J f 6 = nI 0 ∧ L 69 i = L 61 l ∧ L 70 i = L 62 l) ∨ (J f 6 = nI 1 ∧ jn L 49 (jn L 63 l) = 2 ∧ L 69 i = L 62 l ∧ L 70 i = L 61 l)
/-- the reference's frame i runs the class's frame f -/
def runs (J L : Nat → Nat → Int32) (f i l k p : Nat) : Prop := jn L 64 i = l ∧ jn L 65 i = k ∧ jn L 66 i = p ∧ jn L 67 i = jn J f 4 ∧ L 68 i = J f 3 ∧ jn L 71 i = jn J f 2 ∧ fA J L f i l
def fmA (J L : Nat → Nat → Int32) (f l t0 t : Nat) : Prop := J f 5 = nI 0 ∧ J f 9 = nI 1 ∧ J f 6 = nI 0 ∧ J f 3 = nI 0 ∧ J f 4 = nI 0 ∧ s_bf L l ≤ jn J f 7 ∧ jn J f 7 ≤ s_pr L l ∧ jn J f 8 = s_pr L l ∧ jn L 67 t0 = jn J f 7 - s_bf L l ∧ t = t0 + 1 ∧ jn J f 2 = jn L 54 (jn L 59 (64 * l))
def fmB (J L : Nat → Nat → Int32) (f l t0 t : Nat) : Prop := J f 5 = nI 1 ∧ J f 9 = nI 1 ∧ jn J f 7 = s_pr L l ∧ jn J f 8 = s_pr L l ∧ jn L 67 t0 = mk L l 1 + 1 ∧ t = t0 + 2 ∧ runs J L f (t0 + 1) l 0 0
def fmC (J L : Nat → Nat → Int32) (f l t0 t : Nat) : Prop := J f 5 = nI 1 ∧ J f 9 = nI 0 ∧ s_af L l ≤ jn J f 7 ∧ jn J f 7 ≤ s_sz L l ∧ jn J f 8 = s_sz L l ∧ jn L 67 t0 = mk L l 1 + 1 + (jn J f 7 - s_af L l) ∧ L 68 t0 = J f 3 ∧ jn J 28 (jn J f 2) ≤ jn J f 4 ∧ t = t0 + 1
def fmn (J L : Nat → Nat → Int32) (f l t0 t : Nat) : Prop := jn J f 1 = s_pr L l ∧ jn L 65 t0 = 9 ∧ jn L 64 t0 = l ∧ (fmA J L f l t0 t ∨ fmB J L f l t0 t ∨ fmC J L f l t0 t)
def fot (J L : Nat → Nat → Int32) (f l t0 t : Nat) : Prop := ¬ jn J f 1 = s_pr L l ∧ (J f 5 = nI 0 ∨ J f 5 = nI 1) ∧ J f 9 = nI 0 ∧ jn J f 7 = 0 ∧ jn J f 8 = 0 ∧ t = t0 + 1 ∧ runs J L f t0 l (kdp L l (jn J f 1)) (plp L l (jn J f 1))
def fty (J L : Nat → Nat → Int32) (f l : Nat) : Prop := (J f 1 = nI (jn J f 1) ∧ jn J f 1 < s_sz L l) ∧ (J f 2 = nI (jn J f 2) ∧ jn J f 2 < 8) ∧ (J f 4 = nI (jn J f 4) ∧ jn J f 4 < 9) ∧ (J f 7 = nI (jn J f 7) ∧ jn J f 7 ≤ 16) ∧ (J f 8 = nI (jn J f 8) ∧ jn J f 8 ≤ 16)
def fR (J L : Nat → Nat → Int32) (f l t0 t : Nat) : Prop := fty J L f l ∧ (fmn J L f l t0 t ∨ fot J L f l t0 t)
/-- the frame stands rightly on the one below it -/
def adj (h : am_H) (J L : Nat → Nat → Int32) (f n t0 l lv0 : Nat) : Prop := (asd L l (jn J f 1) → 0 < n ∧ lv0 = l + 1 ∧ jn L 65 (t0 - 1) = 9 ∧ ¬ jn L 67 (t0 - 1) = mk L l 1 + 1) ∧ (¬ asd L l (jn J f 1) → n = 0 ∨ ∃ b, am_P h 35 (n - 1) = some b ∧ J b 5 = nI 1 ∧ ¬ jn L 65 (t0 - 1) = 9)
def ct (J L : Nat → Nat → Int32) (f l : Nat) : Nat := 4 * (jn J f 8 - jn J f 7) + (if J f 9 = nI 1 then 4 * mk L l 2 + 1 else 0) + (if J f 5 = nI 1 then 0 else 1) + 1
/-- the stacks of both sides: n frames here, t there, lv levels; c is what is still to be done -/
def stk (h : am_H) (J L : Nat → Nat → Int32) : Nat → Nat → Nat → Nat → Prop
  | 0, t, lv, c => t = 0 ∧ lv = 0 ∧ c = 0
  | n + 1, t, lv, c => ∃ f w t0 lv0 c0, am_P h 35 n = some f ∧ am_P h f 0 = some w ∧ 0 < lv ∧ am_P h 34 (lv - 1) = some w ∧ fR J L f (lv - 1) t0 t ∧ adj h J L f n t0 (lv - 1) lv0 ∧ n = jn J w 5 + dpt L (lv - 1) (jn J f 1) ∧ (t0 ≤ n + (lv - 1) + 1 ∧ (jn J f 1 < s_bf L (lv - 1) ∨ jn J f 1 = s_pr L (lv - 1) → t0 ≤ n + (lv - 1))) ∧ ((lv0 = lv ∧ jn J w 5 < n) ∨ (lv0 + 1 = lv ∧ jn J w 5 = n)) ∧ c = c0 + ct J L f (lv - 1) ∧ stk h J L n t0 lv0 c0
/-- a level: its work, what is effective there -/
def lvR (h : am_H) (J L : Nat → Nat → Int32) (l : Nat) : Prop := ∃ w e u, am_P h 34 l = some w ∧ am_P h w 1 = some e ∧ am_P h e 0 = some u ∧ (am_P h w 0 = some e ∨ ∃ k, k < 720 ∧ am_P h 23 k = some e ∧ J e 5 = J 24 (k / 144)) ∧ (jn J e 2 = s_bf L l ∧ jn J e 3 = s_pr L l ∧ jn J e 4 = s_af L l ∧ jn J e 1 = s_sz L l ∧ s_sz L l ≤ 16 ∧ 0 < mk L l 0) ∧ (∀ p, p < s_sz L l → jn J u p = jn L 59 ((16 * ((4 * l) + kdp L l p)) + plp L l p)) ∧ (J w 2 = nI (jn L 49 (jn L 63 l)) ∧ J w 3 = L 61 l ∧ jn L 61 l < jn J 10 5 ∧ (jn L 49 (jn L 63 l) = 2 → J w 4 = L 62 l ∧ jn L 62 l < jn J 10 5) ∧ J w 5 = nI (jn J w 5) ∧ jn J w 5 ≤ 16 * l)
/-- objects of the machine -/
def ef_c (h : am_H) (J : Nat → Nat → Int32) (lab : Nat → Nat) (e n : Nat) : Prop := lab e = n ∧ 74 ≤ e ∧ am_ob h e 9 ∧ ∃ u, am_P h e 0 = some u ∧ lab u = n + 1 ∧ 74 ≤ u ∧ am_ay h u 1 ∧ (am_sh h u).2.2 = 16 ∧ ef_ok J e u
def am_W (h : am_H) (J : Nat → Nat → Int32) (lab : Nat → Nat) : Prop := (∀ k, k < 720 → ∀ e, am_P h 23 k = some e → ef_c h J lab e (1000 + 2 * k)) ∧ (∀ l, l < 12 → ∀ w, am_P h 34 l = some w → lab w = 100 + l ∧ 74 ≤ w ∧ am_ob h w 8 ∧ ∃ sp, am_P h w 0 = some sp ∧ ef_c h J lab sp (4000 + 2 * l)) ∧ ∀ i, i < 192 → ∀ f, am_P h 35 i = some f → lab f = 200 + i ∧ 74 ≤ f ∧ am_ob h f 10
/-- the reference's lower part stays -/
def loL (L L' : Nat → Nat → Int32) (t lv : Nat) : Prop := (∀ q, 64 ≤ q → q ≤ 71 → ∀ j, j < t → L' q j = L q j) ∧ (∀ l, l < lv → (∀ k, k < 4 → L' 60 ((4 * l) + k) = L 60 ((4 * l) + k)) ∧ L' 61 l = L 61 l ∧ L' 62 l = L 62 l ∧ L' 63 l = L 63 l ∧ L' 59 (64 * l) = L 59 (64 * l)) ∧ L' 49 = L 49 ∧ L' 54 = L 54
theorem loL_mono {L L' : Nat → Nat → Int32} {t t' lv lv' : Nat} (h : loL L L' t lv) (ht : t' ≤ t) (hl : lv' ≤ lv) : loL L L' t' lv' := ⟨fun q a b j c => h.1 q a b j (by omega), fun l c => h.2.1 l (by omega), h.2.2⟩
theorem loL_mk {L L' : Nat → Nat → Int32} {t lv l : Nat} (h : loL L L' t lv) (hl : l < lv) : s_bf L' l = s_bf L l ∧ s_pr L' l = s_pr L l ∧ s_af L' l = s_af L l ∧ s_sz L' l = s_sz L l ∧ ∀ k, k < 4 → mk L' l k = mk L l k := by
  have g := (h.2.1 l hl).1
  have m : ∀ k, k < 4 → mk L' l k = mk L l k := fun k hk => by unfold mk jn; rw [g k hk]
  unfold s_bf s_pr s_af s_sz
  rw [m 3 (by decide), m 1 (by decide), m 0 (by decide), m 2 (by decide)]
  exact ⟨rfl, rfl, rfl, rfl, m⟩
theorem fR_cg {J J' L L' : Nat → Nat → Int32} {f l t0 t lv : Nat} (hL : loL L L' t lv) (hl : l < lv) (hf : J' f = J f) (h28 : J' 28 = J 28) (h : fR J L f l t0 t) : fR J' L' f l t0 t := by
  obtain ⟨a, b, c, d, m⟩ := loL_mk hL hl
  have g := hL.2.1 l hl
  have nj : ∀ j, jn J' f j = jn J f j := fun j => jn_cg hf
  have ty : fty J' L' f l := by
    have q := h.1
    unfold fty at q ⊢
    rw [hf, nj, nj, nj, nj, nj, d]
    exact q
  refine ⟨ty, ?_⟩
  have lo : ∀ q, 64 ≤ q → q ≤ 71 → ∀ j, j < t → jn L' q j = jn L q j := fun q x y j z => by unfold jn; rw [hL.1 q x y j z]
  have fAe : ∀ i, i < t → fA J L f i l → fA J' L' f i l := fun i hi q => by
    unfold fA at q ⊢
    rw [hf, hL.1 69 (by decide) (by decide) i hi, hL.1 70 (by decide) (by decide) i hi, g.2.1, g.2.2.1, show jn L' 63 l = jn L 63 l by unfold jn; rw [g.2.2.2.1], show ∀ x, jn L' 49 x = jn L 49 x from fun x => jn_cg hL.2.2.1]
    exact q
  have re : ∀ i k p, i < t → runs J L f i l k p → runs J' L' f i l k p := fun i k p hi q => by
    obtain ⟨q1, q2, q3, q4, q5, q6, q7⟩ := q
    refine ⟨?_, ?_, ?_, ?_, ?_, ?_, fAe i hi q7⟩
    · rw [lo 64 (by decide) (by decide) i hi]; exact q1
    · rw [lo 65 (by decide) (by decide) i hi]; exact q2
    · rw [lo 66 (by decide) (by decide) i hi]; exact q3
    · rw [lo 67 (by decide) (by decide) i hi, nj]; exact q4
    · rw [hL.1 68 (by decide) (by decide) i hi, hf]; exact q5
    · rw [lo 71 (by decide) (by decide) i hi, nj]; exact q6
  rcases h.2 with ⟨p1, p2, p3, p4⟩ | ⟨p1, p2, p3, p4, p5, p6, p7⟩
  · left
    have t0t : t0 < t := by
      rcases p4 with q | q | q
      · have := q.2.2.2.2.2.2.2.2.2; omega
      · have := q.2.2.2.2.2.1; omega
      · have := q.2.2.2.2.2.2.2.2; omega
    refine ⟨by rw [nj, b]; exact p1, by rw [lo 65 (by decide) (by decide) t0 t0t]; exact p2, by rw [lo 64 (by decide) (by decide) t0 t0t]; exact p3, ?_⟩
    rcases p4 with q | q | q
    · left
      unfold fmA at q ⊢
      have x59 : jn L' 59 (64 * l) = jn L 59 (64 * l) := by unfold jn; rw [g.2.2.2.2]
      rw [hf, nj, nj, nj, a, b, lo 67 (by decide) (by decide) t0 t0t, x59, jn_cg hL.2.2.2]
      exact q
    · right; left
      unfold fmB at q ⊢
      rw [hf, nj, nj, b, lo 67 (by decide) (by decide) t0 t0t, m 1 (by decide)]
      obtain ⟨q1, q2, q3, q4, q5, q6, q7⟩ := q
      exact ⟨q1, q2, q3, q4, q5, q6, re (t0 + 1) 0 0 (by omega) q7⟩
    · right; right
      unfold fmC at q ⊢
      rw [hf, nj, nj, nj, nj, c, d, lo 67 (by decide) (by decide) t0 t0t, m 1 (by decide), hL.1 68 (by decide) (by decide) t0 t0t, jn_cg h28]
      exact q
  · right
    refine ⟨by rw [nj, b]; exact p1, by rw [hf]; exact p2, by rw [hf]; exact p3, by rw [nj]; exact p4, by rw [nj]; exact p5, p6, ?_⟩
    have k1 : kdp L' l (jn J' f 1) = kdp L l (jn J f 1) := by unfold kdp; rw [nj, a, b, c]
    have k2 : plp L' l (jn J' f 1) = plp L l (jn J f 1) := by unfold plp; rw [nj, a, b, c, d]
    rw [k1, k2]
    exact re t0 _ _ (by omega) p7
theorem fR_t {J L : Nat → Nat → Int32} {f l t0 t : Nat} (h : fR J L f l t0 t) : t = t0 + 1 ∨ t = t0 + 2 := by
  rcases h.2 with ⟨_, _, _, q | q | q⟩ | q
  · exact Or.inl q.2.2.2.2.2.2.2.2.2.1
  · exact Or.inr q.2.2.2.2.2.1
  · exact Or.inl q.2.2.2.2.2.2.2.2
  · exact Or.inl q.2.2.2.2.2.1
/-- the lower stack stays where its cells stay -/
theorem stk_cg {h h' : am_H} {J J' L L' : Nat → Nat → Int32} (h28 : J' 28 = J 28) : ∀ n t lv c, stk h J L n t lv c → loL L L' t lv → (∀ i f, i < n → am_P h 35 i = some f → am_P h' 35 i = some f ∧ J' f = J f ∧ am_P h' f 0 = am_P h f 0) → (∀ l w, l < lv → am_P h 34 l = some w → am_P h' 34 l = some w ∧ J' w 5 = J w 5) → stk h' J' L' n t lv c := by
  intro n
  induction n with
  | zero => intro t lv c hs _ _ _; exact hs
  | succ n ih =>
    intro t lv c hs hL hF hW
    obtain ⟨f, w, t0, lv0, c0, p1, p2, p3, p4, p5, p6, p7, p8, p9, p10, p11⟩ := hs
    have gf := hF n f (by omega) p1
    have gw := hW (lv - 1) w (by omega) p4
    have hl : lv - 1 < lv := by omega
    have tt := fR_t p5
    have hlv0 : lv0 ≤ lv := by omega
    obtain ⟨a, b, cc, d, m⟩ := loL_mk hL hl
    have nj : ∀ j, jn J' f j = jn J f j := fun j => jn_cg gf.2.1
    have nw : jn J' w 5 = jn J w 5 := by unfold jn; rw [gw.2]
    have lo : ∀ q, 64 ≤ q → q ≤ 71 → ∀ j, j < t → jn L' q j = jn L q j := fun q x y j z => by unfold jn; rw [hL.1 q x y j z]
    refine ⟨f, w, t0, lv0, c0, gf.1, by rw [gf.2.2]; exact p2, p3, gw.1, fR_cg hL hl gf.2.1 h28 p5, ?_, ?_, ?_, ?_, ?_, ih t0 lv0 c0 p11 (loL_mono hL (by omega) hlv0) (fun i g hi q => hF i g (by omega) q) (fun l v hi q => hW l v (by omega) q)⟩
    · have as : asd L' (lv - 1) (jn J' f 1) ↔ asd L (lv - 1) (jn J f 1) := by unfold asd; rw [nj, a, b, cc]
      refine ⟨fun q => ?_, fun q => ?_⟩
      · obtain ⟨q1, q2, q3, q4⟩ := p6.1 (as.mp q)
        rw [lo 65 (by decide) (by decide) _ (by omega), lo 67 (by decide) (by decide) _ (by omega), m 1 (by decide)]
        exact ⟨q1, q2, q3, q4⟩
      · rcases p6.2 (fun z => q (as.mpr z)) with z | ⟨x, z1, z2, z3⟩
        · exact Or.inl z
        · by_cases hn : n = 0
          · exact Or.inl hn
          · right
            have gx := hF (n - 1) x (by omega) z1
            refine ⟨x, gx.1, by rw [gx.2.1]; exact z2, ?_⟩
            rw [lo 65 (by decide) (by decide) _ (by omega)]
            exact z3
    · rw [nw, nj]; unfold dpt at p7 ⊢; rw [a, b, cc]; exact p7
    · rw [nj, a, b]; exact p8
    · rw [nw]; exact p9
    · unfold ct at p10 ⊢; rw [nj, nj, gf.2.1, m 2 (by decide)]; exact p10
