/-! A step of the machine: what comes of it. -/
noncomputable def R_en (L : Nat → Nat → Int32) (g x y : Nat) : Int32 × (Nat → Nat → Int32) := am_ite (jn L 49 g = 0) (nI 0, am_u2 L 36 40 (-2)) (am_ite (jn L 36 38 = 12) (nI 0, am_u2 L 36 40 (-11)) (R_enter L g x y))
/-- between two calls -/
def Fin (h : am_H) (J L : Nat → Nat → Int32) (lab : Nat → Nat) (nn cc : Nat) : Prop := (am_B h ∧ am_ty2 J ∧ am_ty2 L ∧ am_W h J lab) ∧ Oth h J L nn cc ∧ J 33 17 = L 73 9 ∧ L 73 4 = J 33 16
/-- goes on -/
def oGo (L : Nat → Nat → Int32) (N nn cc : Nat) (h' : am_H) (J' : Nat → Nat → Int32) : Prop := ∃ L' lab' op' tp' lv' c' nn', nn' ≤ nn + 1 ∧ rstp L L' ∧ Mst h' J' L' lab' op' tp' lv' c' ∧ Oth h' J' L' nn' cc ∧ c' + 70 * (300 - jn L' 36 41) < N ∧ (op' = 0 → L' 36 42 = J' 33 12)
/-- a generic is to begin -/
def Wnt (h : am_H) (J L : Nat → Nat → Int32) (lab : Nat → Nat) (op tp lv c nn cc g x y : Nat) : Prop := Mst h (am_u2 J 33 13 (-1)) L lab op tp lv c ∧ Oth h (am_u2 J 33 13 (-1)) L nn cc ∧ jn L 36 38 = lv ∧ (op = 0 ∨ ∃ b, am_P h 35 (op - 1) = some b ∧ J b 5 = nI 1 ∧ ¬ jn L 65 (tp - 1) = 9) ∧ (J 33 13 = nI g ∧ g < 5) ∧ (jn J 33 14 = x ∧ x < jn J 10 5) ∧ (jn L 49 g = 2 → J 33 15 = nI y ∧ y < jn J 10 5) ∧ y < 12 ∧ L 73 4 = J 33 16
def oWa (L : Nat → Nat → Int32) (N nn cc : Nat) (h' : am_H) (J' : Nat → Nat → Int32) : Prop := ∃ L1 lab' op' tp' lv' c' nn' g x y, nn' ≤ nn + 1 ∧ RW L ∧ R_work L = R_en L1 g x y ∧ Wnt h' J' L1 lab' op' tp' lv' c' nn' cc g x y ∧ c' + 70 * (300 - jn L1 36 41) + 69 < N
/-- an error -/
def oEr (L : Nat → Nat → Int32) (nn cc : Nat) (h' : am_H) (J' : Nat → Nat → Int32) : Prop := ∃ L' lab' nn', nn' ≤ nn + 1 ∧ RW L ∧ R_work L = (nI 0, L') ∧ Fin h' J' L' lab' nn' cc ∧ L' 36 40 = J' 33 11 ∧ ¬ J' 33 11 = 0
def Out (L : Nat → Nat → Int32) (N nn cc : Nat) (h' : am_H) (J' : Nat → Nat → Int32) : Prop := oGo L N nn cc h' J' ∨ oWa L N nn cc h' J' ∨ oEr L nn cc h' J'
/-- the store behind the counters of a step -/
def M_j1 (J : Nat → Nat → Int32) (f : Nat) : Nat → Nat → Int32 := am_u2 (am_u2 (am_u2 J 33 10 (nI ((jn J 33 10) + 1))) 33 17 ((J 33 17) + (nI 1))) f 4 (nI ((jn J f 4) + 1))
theorem M_j1_c {J : Nat → Nat → Int32} {f : Nat} (hf : 74 ≤ f) : (∀ q, ¬ q = 33 → ¬ q = f → M_j1 J f q = J q) ∧ (∀ j, ¬ j = 10 → ¬ j = 17 → M_j1 J f 33 j = J 33 j) ∧ M_j1 J f 33 10 = nI (jn J 33 10 + 1) ∧ M_j1 J f 33 17 = J 33 17 + nI 1 ∧ (∀ j, ¬ j = 4 → M_j1 J f f j = J f j) ∧ M_j1 J f f 4 = nI (jn J f 4 + 1) := by
  have n : ¬ 33 = f := fun z => by omega
  have n2 : ¬ f = 33 := fun z => by omega
  unfold M_j1
  exact ⟨fun q a b => by rw [fr_u b, fr_u a, fr_u a], fun j a b => by rw [fr_u n, u2_ne b, u2_ne a], by rw [fr_u n, u2_ne (by decide), am_u2_s], by rw [fr_u n, am_u2_s], fun j a => by rw [u2_ne a, fr_u n2, fr_u n2], am_u2_s⟩
theorem M_j1_33 {J : Nat → Nat → Int32} {f : Nat} (hf : 74 ≤ f) : ∀ q, q < 74 → ¬ q = 33 → M_j1 J f q = J q := fun q a b => (M_j1_c hf).1 q b (fun z => by omega)
/-- a step whose operation changes the sum -/
theorem t_sum {h : am_H} {J L : Nat → Nat → Int32} {lab : Nat → Nat} {n tp lv c f w e u t0 lv0 c0 nn cc N : Nat} {x : Int32} (hM : Mst h J L lab (n + 1) tp lv c) (hO : Oth h J L nn cc) (hT : Top h J L lab n tp lv c f w e u t0 lv0 c0) (hr : run1 J L f (lv - 1) t0 tp) (hk : jn J f 4 < 8) (h3 : ¬ jn J 33 10 = 300) (hN : c + 70 * (300 - jn L 36 41) ≤ N) (ty : am_ty2 (am_u2 (M_j1 J f) f 3 x)) (eW : R_work L = (nI 1, am_u2 (R_s1 L) 68 (tp - 1) x)) : oGo L N nn cc h (am_u2 (M_j1 J f) f 3 x) := by
  have rw0 := Top_RW hM hT hO.2.2.1
  have f74 := hT.1.2.2.1
  have tyL := R_work_t h hM.1.1 hM.1.2.2.1 rw0 eW
  obtain ⟨kd, pl, r, _, _, z5, tl, tp0⟩ := run_ix hr
  obtain ⟨j1, j2, j3, j4, j5, j6⟩ := M_j1_c (J := J) f74
  obtain ⟨l1, l2, l3, l4, l5, l6, l7⟩ := R_s1_c (L := L)
  have x39 : jn L 36 39 = tp := hM.2.1.2.2.2.1
  rw [x39] at l6 l7
  have nf : ¬ 33 = f := fun z => by omega
  have o33 : ∀ j, am_u2 (M_j1 J f) f 3 x 33 j = M_j1 J f 33 j := fun j => by rw [fr_u nf]
  have st := hM.2.2.2.2.2.1.2.2.1
  have s300 : jn L 36 41 < 301 := (ty_f hM.1.2.2.1 (q := 36) (j := 41) (B := 301) (by decide) (by decide)).2
  have s31 : jn L 36 41 + 1 < 2 ^ 31 := Nat.lt_trans (Nat.succ_lt_succ s300) (by decide)
  have e41 : jn (am_u2 (R_s1 L) 68 (tp - 1) x) 36 41 = jn L 36 41 + 1 := by
    show (am_u2 (R_s1 L) 68 (tp - 1) x 36 41).toNatClampNeg = _
    rw [fr_u (by decide), l3]
    exact nI_clamp s31
  have cL : chL L (am_u2 (R_s1 L) 68 (tp - 1) x) := ⟨fun q a b d => by rw [fr_u (fun z => a (by omega)), l1 q b (fun z => a (by omega)) d], by rw [fr_u (by decide), l2 37 (by decide)], fun j a b => by rw [fr_u (by decide), l4 j b]⟩
  have kL := chL_ke cL
  have lq : ∀ q, 64 ≤ q → q ≤ 71 → ¬ q = 67 → ¬ q = 68 → am_u2 (R_s1 L) 68 (tp - 1) x q = L q := fun q a b d1 d2 => by rw [fr_u d2, l1 q (by omega) d1 (by omega)]
  have M' : Mst h (am_u2 (M_j1 J f) f 3 x) (am_u2 (R_s1 L) 68 (tp - 1) x) lab (n + 1) tp lv c := by
    refine t_op hM hT hr ty tyL (fun q a b => by rw [fr_u b, j1 q (by omega) b]) ⟨fun q a b => by rw [fr_u (by omega), j1 q (by omega) (by omega)], by rw [fr_u (by omega), j1 10 (by decide) (by omega)]⟩ kL (fun j a b d => by rw [u2_ne a, j5 j b]) (by rw [u2_ne (by decide)]; exact j6) hk (fun j a b _ _ => by rw [o33, j2 j a b]) ?_ (by rw [o33, j4, fr_u (by decide), l5, hM.2.2.2.2.2.1.2.2.2]) (by rw [fr_u (by decide), l2 38 (by decide)]) (by rw [fr_u (by decide), l2 39 (by decide)]) (by rw [fr_u (by decide), l4 4 (by decide)]) (fun q a b j hj => ?_) (fun q hq => by rw [lq q (by omega) (by omega) (by omega) (by omega)]) ?_ (by rw [am_u2_s, am_u2_s]) ?_
    · rw [e41]
      show (am_u2 (M_j1 J f) f 3 x 33 10).toNatClampNeg = _
      rw [o33, j3, st]
      exact nI_clamp s31
    · by_cases z : q = 68
      · rw [z, u2_ne hj, l1 68 (by decide) (by decide) (by decide)]
      · by_cases z7 : q = 67
        · rw [z7, fr_u (by decide), l6 j hj]
        · rw [lq q a b z7 z]
    · rw [fr_u (by decide), l7, r.2.2.2.1]
    · have q := r.2.2.2.2.2.2
      unfold fA at q ⊢
      rw [u2_ne (by decide), j5 6 (by decide), lq 69 (by decide) (by decide) (by decide) (by decide), lq 70 (by decide) (by decide) (by decide) (by decide), kL 61 (by decide) (by decide), kL 62 (by decide) (by decide), jn_cg (kL 49 (by decide) (by decide)), jn_cg (kL 63 (by decide) (by decide))]
      exact q
  refine ⟨_, lab, n + 1, tp, lv, c, nn, Nat.le_succ nn, Or.inr ⟨rw0, eW⟩, M', Oth_cg hO hM.1.2.2.2 (onf_mono (onf_f (h := h) (J := J) hT.1.2.2.2.1 hT.1.2.2.2.2 (fun q a b => by rw [fr_u b, j1 q (by omega) b])) (Nat.zero_le n)) hO.2.2.2.1 (fun q a b => by rw [fr_u (by omega), j1 q b (by omega)]) cL, ?_, fun z => absurd z (Nat.succ_ne_zero n)⟩
  rw [e41]
  rw [st] at h3
  clear M' cL kL lq eW tyL ty hr r
  omega
