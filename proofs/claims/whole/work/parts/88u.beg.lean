/-! A generic begins: what stays. -/
theorem Oth_cg2 {h h' : am_H} {J J' L L' : Nat → Nat → Int32} {nn cc : Nat} (ho : Oth h J L nn cc) (hR : am_R h') (hJ : ∀ q, q < 74 → ¬ q = 22 → ¬ q = 25 → ¬ q = 26 → ¬ q = 33 → J' q = J q) (h22 : J' 22 7 = L' 73 5) (hK : rl_K h' J' L' cc) (l : ∀ q, 37 ≤ q → q < 58 → L' q = L q) (l72 : L' 72 = L 72) (l37 : L' 36 37 = L 36 37) (l3 : ∀ j, j = 3 ∨ j = 7 ∨ j = 8 → L' 73 j = L 73 j) (lz : ∀ q, 1000 ≤ q → L' q = L q) : Oth h' J' L' nn cc := by
  obtain ⟨⟨r1, r2, r3, r4⟩, r5, r6, r7, r8, r9, r10, r11, r12⟩ := ho
  exact ⟨⟨rl_C_cg2 r1 (fun q a b => hJ q (by omega) (by omega) (by omega) (by omega) (by omega)) (fun q a b => l q a (by omega)), rl_I_cg2 r2 (fun q a b => hJ q (by omega) (by omega) (by omega) (by omega) (by omega)) (fun q a b => l q (by omega) (by omega)) l37 (l3 7 (by decide)), rl_B_cg2 r3 (fun q a b => hJ q (by omega) (by omega) (by omega) (by omega) (by omega)) (fun q a b => l q (by omega) (by omega)), rl_M_cg r4 (by rw [hJ 15 (by decide) (by decide) (by decide) (by decide) (by decide)]) (fun q a b => hJ q (by omega) (by omega) (by omega) (by omega) (by omega)) (fun q a b => l q (by omega) (by omega))⟩, rl_N_cg2 r5 (fun q a b => hJ q (by omega) (by omega) (by omega) (by omega) (by omega)) (l3 3 (by decide)) l72, opv_cg r6 (l 55 (by decide) (by decide)) (l 56 (by decide) (by decide)), hR, hK, h22, by rw [hJ 1 (by decide) (by decide) (by decide) (by decide) (by decide), l3 8 (by decide)]; exact r10, by rw [hJ 2 (by decide) (by decide) (by decide) (by decide) (by decide), r11]; exact congrArg nI (cn_congr 12 (fun c _ => by rw [jn_cg (l 37 (by decide) (by decide))])), fun hc q a b => by rw [hJ q b (by omega) (by omega) (by omega) (by omega), lz (q + 1000) (by omega)]; exact r12 hc q a b⟩
/-- what the levels below use is not changed -/
theorem act_ne {h : am_H} {J J' : Nat → Nat → Int32} {lab lab' : Nat → Nat} {lv op e u q : Nat} (hc : chg h J J' lab' lv e u) (hl : lab' q = lab q) (ha : act h J lab lv op q) (hop : op ≤ 192) (hlv : lv ≤ 12) (hq : q = e ∨ q = u) : J' q = J q := by
  rcases hc with ⟨c1, c2⟩ | ⟨c1, c2⟩ | ⟨k, hk, c1, c2, c3⟩
  · rcases hq with z | z
    · rw [z]; exact c1
    · rw [z]; exact c2
  · exfalso
    have n : lab q = 4000 + 2 * lv ∨ lab q = 4001 + 2 * lv := by
      rcases hq with z | z
      · left; rw [← hl, z]; exact c1
      · right; rw [← hl, z]; exact c2
    rcases ha with a | a | ⟨l, a, b⟩ | ⟨k, a, b, _⟩
    · omega
    · omega
    · omega
    · omega
  · exfalso
    have n : lab q = 1000 + 2 * k ∨ lab q = 1001 + 2 * k := by
      rcases hq with z | z
      · left; rw [← hl, z]; exact c1
      · right; rw [← hl, z]; exact c2
    rcases ha with a | a | ⟨l, a, b⟩ | ⟨k', a, b, a', d1, d2⟩
    · omega
    · omega
    · omega
    · have ek : k' = k := by omega
      rw [ek] at d1 d2
      exact c3 a' d1 d2
/-- the work of this level changes, and the machine -/
theorem am_W_w {h : am_H} {J J' : Nat → Nat → Int32} {lab : Nat → Nat} {w l0 v : Nat} (hW : am_W h J lab) (hl : lab w = 100 + l0) (hl0 : l0 < 12) (hJ : ∀ q, 74 ≤ q → ¬ q = w → J' q = J q) (h74 : 74 ≤ w) : am_W (am_wP h w 1 (some v)) J' lab := by
  have ef : ∀ e n, 1000 ≤ n → ef_c h J lab e n → ef_c (am_wP h w 1 (some v)) J' lab e n := fun e n hn g => by
    obtain ⟨a, b, c, u, d1, d2, d3, d4, d5, d6⟩ := g
    have n1 : ¬ e = w := fun z => by rw [z] at a; omega
    have n2 : ¬ u = w := fun z => by rw [z] at d2; omega
    exact ⟨a, b, c, u, by rw [wP_o n1]; exact d1, d2, d3, d4, d5, ef_cg d6 (hJ e b n1) (hJ u d3 n2)⟩
  refine ⟨fun k hk e hp => ?_, fun l hl' w' hp => ?_, fun i hi f hp => ?_⟩
  · rw [wP_o (by omega)] at hp
    exact ef e _ (by omega) (hW.1 k hk e hp)
  · rw [wP_o (by omega)] at hp
    obtain ⟨a, b, c, sp, d1, d2⟩ := hW.2.1 l hl' w' hp
    refine ⟨a, b, c, sp, ?_, ef sp _ (by omega) d2⟩
    by_cases z : w' = w
    · rw [z, wP_j (by decide), ← z]; exact d1
    · rw [wP_o z]; exact d1
  · rw [wP_o (by omega)] at hp
    exact hW.2.2 i hi f hp
theorem am_R_w {h : am_H} {w j : Nat} {v : Option Nat} (hR : am_R h) (h74 : 74 ≤ w) : am_R (am_wP h w j v) := by
  have e1 : ∀ q i, q < 74 → am_P (am_wP h w j v) q i = am_P h q i := fun q i hq => wP_o (by omega)
  unfold am_R at hR ⊢
  rw [cn_congr (q := fun k => ¬ am_P h 23 k = none) 720 (fun i _ => by rw [e1 23 i (by omega)]), cn_congr (q := fun k => ¬ am_P h 34 k = none) 12 (fun i _ => by rw [e1 34 i (by omega)]), cn_congr (q := fun k => ¬ am_P h 35 k = none) 192 (fun i _ => by rw [e1 35 i (by omega)])]
  exact hR
theorem rl_K_w {h : am_H} {J J' L L' : Nat → Nat → Int32} {lab : Nat → Nat} {w l0 v cc : Nat} (hK : rl_K h J L cc) (hW : am_W h J lab) (hl : lab w = 100 + l0) (hl0 : l0 < 12) (hJ : ∀ q, ¬ q = w → ¬ q = 33 → J' q = J q) (h74 : 74 ≤ w) (h58 : L' 58 = L 58) : rl_K (am_wP h w 1 (some v)) J' L' cc := by
  refine rl_K_cg hK (fun k => wP_o (by omega)) (fun k e hk hp => ?_) (fun q hq => hJ q (by omega) (by omega)) h58
  obtain ⟨a, b, c, u, d1, d2, d3, d4, d5, d6⟩ := hW.1 k hk e hp
  have n1 : ¬ e = w := fun z => by rw [z] at a; omega
  have n2 : ¬ u = w := fun z => by rw [z] at d2; omega
  refine ⟨hJ e n1 (by omega), fun u' hu => ?_⟩
  rw [wP_o n1] at hu
  refine ⟨hu, ?_⟩
  rw [d1] at hu
  have eu : u = u' := Option.some.inj hu
  rw [← eu]
  exact hJ u n2 (by omega)
/-- the work of a level: it is there, or it is made -/
theorem w_wrk {d : am_D} {h : am_H} {J : Nat → Nat → Int32} {Q : Option Value → am_H → Prop} {lab : Nat → Nat} {lv g : Nat} (hB : am_B h) (hT : am_ty2 J) (hW : am_W h J lab) (hR : am_R h) (h8 : jn J 33 8 = lv) (hlv : lv < 12) (hd : 5 ≤ d.1) (hw : 123 ≤ d.2) (K : ∀ h1 J1 lab1 w sp, am_B h1 → am_ty2 J1 → am_W h1 J1 lab1 → am_R h1 → xt h J h1 J1 → (∀ q, q < am_n h → lab1 q = lab q) → (∀ q j, q < am_n h → ¬ (q = 34 ∧ j = lv) → am_P h1 q j = am_P h q j) → am_P h1 34 lv = some w → am_P h1 w 0 = some sp → am_wp d 147 72 [some (.ref 33), some (.int (nI g)), none] [] (am_si h1 J1) Q) : am_wp d 147 44 [some (.ref 33), some (.int (nI g)), none] [] (am_si h J) Q := by
  cases hp : am_P h 34 lv with
  | some w =>
    obtain ⟨a, b, c, sp, d1, d2⟩ := hW.2.1 lv hlv w hp
    exact l_M_b44 hB hT g w (by omega) (by rw [h8]; exact hp) hd hw (fun _ => K h J lab w sp hB hT hW hR ⟨Nat.le_refl _, fun _ _ => rfl, fun _ _ => rfl⟩ (fun _ _ => rfl) (fun _ _ _ _ => rfl) hp d1)
  | none =>
    have h74 := hB.1
    refine a_work hB hT (by omega) (by rw [h8]; exact hp) (by omega) (by omega) (fun h2 J2 B2 T2 x2 n2 s2 p1 p2 p3 p4 p5 o8 o9 ay sh z1 z2 => ?_)
    rw [h8] at p1 p2
    have lb : ∀ q, q < am_n h → (fun q => if q = am_n h then 100 + lv else if q = am_n h + 1 then 4000 + 2 * lv else if q = am_n h + 2 then 4001 + 2 * lv else lab q) q = lab q := fun q hq => (if_neg (by omega)).trans ((if_neg (by omega)).trans (if_neg (by omega)))
    have lb0 : (fun q => if q = am_n h then 100 + lv else if q = am_n h + 1 then 4000 + 2 * lv else if q = am_n h + 2 then 4001 + 2 * lv else lab q) (am_n h) = 100 + lv := if_pos rfl
    have lb1 : (fun q => if q = am_n h then 100 + lv else if q = am_n h + 1 then 4000 + 2 * lv else if q = am_n h + 2 then 4001 + 2 * lv else lab q) (am_n h + 1) = 4000 + 2 * lv := (if_neg (by omega)).trans (if_pos rfl)
    have lb2 : (fun q => if q = am_n h then 100 + lv else if q = am_n h + 1 then 4000 + 2 * lv else if q = am_n h + 2 then 4001 + 2 * lv else lab q) (am_n h + 2) = 4001 + 2 * lv := (if_neg (by omega)).trans ((if_neg (by omega)).trans (if_pos rfl))
    generalize (fun q => if q = am_n h then 100 + lv else if q = am_n h + 1 then 4000 + 2 * lv else if q = am_n h + 2 then 4001 + 2 * lv else lab q) = lab1 at lb lb0 lb1 lb2
    have ok : ef_ok J2 (am_n h + 1) (am_n h + 2) := ⟨fun j _ _ => by unfold jn; rw [z1 j]; exact ⟨rfl, by decide⟩, fun j => by unfold jn; rw [z2 j]; exact ⟨rfl, by decide⟩⟩
    have efn : ef_c h2 J2 lab1 (am_n h + 1) (4000 + 2 * lv) := ⟨lb1, by omega, o9, am_n h + 2, p5, by rw [lb2]; omega, by omega, ay, sh, ok⟩
    have pq : ∀ q j, q < am_n h → ¬ q = 34 → am_P h2 q j = am_P h q j := fun q j a b => p1 q j a (fun z => b z.1)
    have W2 : am_W h2 J2 lab1 := by
      refine am_W_x hW (by omega) (fun q a b => ⟨x2.2.2 q b, fun j => pq q j b (by omega)⟩) lb x2.2.1 (fun k e hk q => Or.inl (by rw [← pq 23 k (by omega) (by decide)]; exact q)) (fun l w hl q => ?_) (fun i f hi q => by rw [← pq 35 i (by omega) (by decide)]; exact q)
      by_cases zk : l = lv
      · rw [zk, p2] at q
        have ee : am_n h = w := Option.some.inj q
        right
        rw [zk, ← ee]
        exact ⟨lb0, h74, o8, am_n h + 1, p3, efn⟩
      · left
        rw [← p1 34 l (by omega) (fun z => zk z.2)]
        exact q
    have R2 : am_R h2 := by
      have g1 : cn_of (fun k => ¬ am_P h2 34 k = none) 12 = cn_of (fun k => ¬ am_P h 34 k = none) 12 + 1 := cn_set (p := fun k => ¬ am_P h 34 k = none) (q := fun k => ¬ am_P h2 34 k = none) (j := lv) (fun q => q hp) (by rw [p2]; exact fun q => by cases q) 12 hlv (fun i _ hi => by rw [p1 34 i (by omega) (fun z => hi z.2)])
      have g2 : cn_of (fun k => ¬ am_P h2 23 k = none) 720 = cn_of (fun k => ¬ am_P h 23 k = none) 720 := cn_congr 720 (fun i _ => by rw [pq 23 i (by omega) (by decide)])
      have g3 : cn_of (fun k => ¬ am_P h2 35 k = none) 192 = cn_of (fun k => ¬ am_P h 35 k = none) 192 := cn_congr 192 (fun i _ => by rw [pq 35 i (by omega) (by decide)])
      unfold am_R at hR ⊢
      rw [g1, g2, g3, n2, s2]
      omega
    exact K h2 J2 lab1 (am_n h) (am_n h + 1) B2 T2 W2 R2 x2 lb p1 p2 p3
