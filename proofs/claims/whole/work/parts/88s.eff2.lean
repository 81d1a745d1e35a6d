/-! effectiveFor, as the code does it. -/
theorem w_eff {d : am_D} {h : am_H} {J L : Nat → Nat → Int32} {Q : Option Value → am_H → Prop} {lab : Nat → Nat} {cc lv g x y sp c2 : Nat} {yi ow : Int32} (hB : am_B h) (hT : am_ty2 J) (hL : am_ty2 L) (hW : am_W h J lab) (hR : am_R h) (hC : rl_C J L) (hI : rl_I J L) (hM : rl_M J L) (hK : rl_K h J L cc) (e7 : J 22 7 = L 73 5) (hlv : lv < 12) (hsp : ef_c h J lab sp (4000 + 2 * lv)) (hg : g < 5) (hx : x < 12) (hy : y < 12) (hyi : jn J 16 g = 2 → yi = nI y) (hc2 : jn J 16 g = 2 → c2 = jn J 11 y) (hc1 : ¬ jn J 16 g = 2 → c2 = 0) (how : ow = nI 0 ∨ ow = nI 1) (how2 : ow = nI 0 ↔ ∀ w, w < 16 → apl L g x y w → ¬ ins_ L g w) (hd : 4 ≤ d.1) (hw : 96 ≤ d.2) (K : ∀ h' J' lab' e u, Efo h J L lab lv sp g x yi ow (144 * g + (12 * jn J 11 x + c2)) cc h' J' lab' e u → Q (some (.ref e)) (am_si h' J')) : am_wp d 134 0 [some (.ref 22), some (.int (nI g)), some (.int (nI x)), some (.int yi), some (.ref sp), none, none, none] [] (am_si h J) Q := by
  have b11 : ∀ i, jn J 11 i < 12 := fun i => (ty_n hT (q := 11) (B := 12) (by decide) (by decide) i).2
  have c12 : c2 < 12 := by
    by_cases z : jn J 16 g = 2
    · rw [hc2 z]; exact b11 y
    · rw [hc1 z]; decide
  have kl : 144 * g + (12 * jn J 11 x + c2) < 720 := by have := b11 x; omega
  have yx : jn J 16 g = 2 → yi = nI (jx yi) ∧ jx yi < 12 := fun z => by
    have e := hyi z
    have ej : jx yi = y := by rw [e]; exact jx_nI (by omega)
    rw [ej]
    exact ⟨e, hy⟩
  have hyM : ∀ i, i < 16 → M_isOf J i g → ¬ J 20 i = -1 → yi = nI (jx yi) ∧ jx yi < 12 := fun i hi a b => by
    have z : J 17 i = nI g := Classical.byContradiction (fun n => isOf_f n a)
    have q := hM.2.1 i hi g hg z
    by_cases p2 : jn J 16 g = 2
    · exact yx p2
    · exact absurd (q.2.2.2 p2).1 b
  have fI := forI_c hT hL hC hI hM hg hx hy hyi
  have h74 := hB.1
  refine l_K_e0 hB hT g x yi sp hg hx hyM hd hw (fun nz _ => ?_) (fun z _ => ?_)
  · have hno : ∀ m, m < 16 → apl L g x y m → ¬ ins_ L g m := fun m a b c => nz (fI.mpr ⟨m, a, b, c⟩)
    have ho0 : ow = nI 0 := how2.mpr hno
    have main : ∀ sc, am_wp d 134 69 [some (.ref 22), some (.int (nI g)), some (.int (nI x)), some (.int yi), some (.ref sp), some (.int (nI sc)), some (.int (nI (144 * g + (12 * jn J 11 x + c2)))), none] [] (am_si h J) Q := fun sc => by
      cases hp : am_P h 23 (144 * g + (12 * jn J 11 x + c2)) with
      | some e =>
        obtain ⟨a, b, c, u, d1, d2, d3, d4, d5, d6⟩ := hW.1 _ kl e hp
        have ne : ¬ e = u := fun z => by rw [← z, a] at d2; omega
        refine l_K_e3 hB hT g x yi sp _ e sc hg kl hp c hd hw (fun na _ => ?_) (fun na _ => ?_)
        · refine wp_L (L := [some (.ref 22), some (.int (nI g)), some (.int (nI x)), some (.int yi), none, none, none, some (.ref e)]) ⟨Or.inr rfl, Or.inr rfl, Or.inr rfl, Or.inr rfl, Or.inl rfl, Or.inl rfl, Or.inl rfl, Or.inr rfl, True.intro⟩ ?_
          refine l_K_e4 hB hT g x yi e u c d1 d4 d5 b d3 ne d6 hg hx hyM hd hw (fun ty => ?_)
          refine K _ _ lab e u (ef_new hT hL hW hC hI hM hK e7 hB hW hR (Nat.le_refl _) h74 hT (fun _ _ => ⟨rfl, rfl⟩) (fun _ _ => rfl) (fun _ _ _ _ => rfl) (fun a' z => ?_) hg hx hy hyi hc2 c12 ho0 hno hp (fun z => ?_) d1 ty)
          · rw [hp] at z; exact (Option.some.inj z).symm
          · obtain ⟨a', z1, z2⟩ := (hK.2.1 g hg (12 * jn J 11 x + c2) (by have := b11 x; omega)).mp z
            rw [hp] at z1
            have ea : e = a' := Option.some.inj z1
            rw [← ea] at z2
            exact na z2
        · exact K _ _ lab e u (ef_old hB hT hL hW hR hC hI hM hK e7 hg hx hy hyi hc2 c12 ho0 hno hp na d1)
      | none =>
        refine r_aload k134_69 rfl ?_
        refine j_ref (b := 23) k134_70 hB rfl ?_
        refine r_iload k134_73 rfl ?_
        refine v_aalN (n := 720) (j := 144 * g + (12 * jn J 11 x + c2)) k134_75 hB rfl rfl kl hp ?_
        refine r_astoreN (L' := [some (.ref 22), some (.int (nI g)), some (.int (nI x)), some (.int yi), some (.ref sp), some (.int (nI sc)), some (.int (nI (144 * g + (12 * jn J 11 x + c2)))), some .null]) k134_76 (Nat.le_of_ble_eq_true rfl) rfl ?_
        refine r_aloadN k134_78 rfl ?_
        refine r_ifnonnullN k134_80 ?_
        refine a_eff hB hT kl (by omega) (by omega) (fun h2 J2 B2 T2 x2 n2 s2 p1 p2 p3 o9 ay sh z1 z2 => ?_)
        have lb : ∀ q, q < am_n h → (fun q => if q = am_n h then 1000 + 2 * (144 * g + (12 * jn J 11 x + c2)) else if q = am_n h + 1 then 1001 + 2 * (144 * g + (12 * jn J 11 x + c2)) else lab q) q = lab q := fun q hq => (if_neg (by omega)).trans (if_neg (by omega))
        have lb1 : (fun q => if q = am_n h then 1000 + 2 * (144 * g + (12 * jn J 11 x + c2)) else if q = am_n h + 1 then 1001 + 2 * (144 * g + (12 * jn J 11 x + c2)) else lab q) (am_n h) = 1000 + 2 * (144 * g + (12 * jn J 11 x + c2)) := if_pos rfl
        have lb2 : (fun q => if q = am_n h then 1000 + 2 * (144 * g + (12 * jn J 11 x + c2)) else if q = am_n h + 1 then 1001 + 2 * (144 * g + (12 * jn J 11 x + c2)) else lab q) (am_n h + 1) = 1001 + 2 * (144 * g + (12 * jn J 11 x + c2)) := (if_neg (by omega)).trans (if_pos rfl)
        generalize (fun q => if q = am_n h then 1000 + 2 * (144 * g + (12 * jn J 11 x + c2)) else if q = am_n h + 1 then 1001 + 2 * (144 * g + (12 * jn J 11 x + c2)) else lab q) = lab1 at lb lb1 lb2
        have ok : ef_ok J2 (am_n h) (am_n h + 1) := ⟨fun j _ _ => by unfold jn; rw [z1 j]; exact ⟨rfl, by decide⟩, fun j => by unfold jn; rw [z2 j]; exact ⟨rfl, by decide⟩⟩
        have efn : ef_c h2 J2 lab1 (am_n h) (1000 + 2 * (144 * g + (12 * jn J 11 x + c2))) := ⟨lb1, by omega, o9, am_n h + 1, p3, by rw [lb2]; omega, by omega, ay, sh, ok⟩
        have pq : ∀ q j, q < am_n h → ¬ q = 23 → am_P h2 q j = am_P h q j := fun q j a b => p1 q j a (fun z => b z.1)
        have W2 : am_W h2 J2 lab1 := by
          refine am_W_x hW (by omega) (fun q a b => ⟨x2.2.2 q b, fun j => pq q j b (by omega)⟩) lb x2.2.1 (fun k e hk q => ?_) (fun l w hl q => Or.inl (by rw [← pq 34 l (by omega) (by decide)]; exact q)) (fun i f hi q => by rw [← pq 35 i (by omega) (by decide)]; exact q)
          by_cases zk : k = 144 * g + (12 * jn J 11 x + c2)
          · rw [zk, p2] at q
            have ee : am_n h = e := Option.some.inj q
            right
            rw [zk, ← ee]
            exact efn
          · left
            rw [← p1 23 k (by omega) (fun z => zk z.2)]
            exact q
        have R2 : am_R h2 := by
          have g1 : cn_of (fun k => ¬ am_P h2 23 k = none) 720 = cn_of (fun k => ¬ am_P h 23 k = none) 720 + 1 := cn_set (p := fun k => ¬ am_P h 23 k = none) (q := fun k => ¬ am_P h2 23 k = none) (j := 144 * g + (12 * jn J 11 x + c2)) (fun q => q hp) (by rw [p2]; exact fun q => by cases q) 720 kl (fun i _ hi => by rw [p1 23 i (by omega) (fun z => hi z.2)])
          have g2 : cn_of (fun k => ¬ am_P h2 34 k = none) 12 = cn_of (fun k => ¬ am_P h 34 k = none) 12 := cn_congr 12 (fun i _ => by rw [pq 34 i (by omega) (by decide)])
          have g3 : cn_of (fun k => ¬ am_P h2 35 k = none) 192 = cn_of (fun k => ¬ am_P h 35 k = none) 192 := cn_congr 192 (fun i _ => by rw [pq 35 i (by omega) (by decide)])
          unfold am_R at hR ⊢
          rw [g1, g2, g3, n2, s2]
          omega
        have J74 : ∀ q, q < 74 → J2 q = J q := fun q hq => x2.2.2 q (by omega)
        have hyM2 : ∀ i, i < 16 → M_isOf J2 i g → ¬ J2 20 i = -1 → yi = nI (jx yi) ∧ jx yi < 12 := fun i hi a b => by
          unfold M_isOf at a
          rw [J74 17 (by decide)] at a
          rw [J74 20 (by decide)] at b
          exact hyM i hi a b
        refine wp_L (L := [some (.ref 22), some (.int (nI g)), some (.int (nI x)), some (.int yi), none, none, none, some (.ref (am_n h))]) ⟨Or.inr rfl, Or.inr rfl, Or.inr rfl, Or.inr rfl, Or.inl rfl, Or.inl rfl, Or.inl rfl, Or.inr rfl, True.intro⟩ ?_
        refine l_K_e4 B2 T2 g x yi (am_n h) (am_n h + 1) o9 p3 ay sh h74 (by omega) (by omega) ok hg hx hyM2 hd hw (fun ty => ?_)
        refine K _ _ lab1 (am_n h) (am_n h + 1) (ef_new hT hL hW hC hI hM hK e7 B2 W2 R2 (by omega) h74 T2 (fun q hq => ⟨lb q hq, x2.2.1 q hq⟩) x2.2.2 p1 (fun a' z => ?_) hg hx hy hyi hc2 c12 ho0 hno p2 (fun z => ?_) p3 ty)
        · rw [hp] at z; cases z
        · obtain ⟨a', z1, z2⟩ := (hK.2.1 g hg (12 * jn J 11 x + c2) (by have := b11 x; omega)).mp z
          rw [hp] at z1; cases z1
    refine l_K_e2 hB hT g x yi sp hg hx yx hd hw (fun z _ => ?_) (fun z _ => ?_)
    · have g9 := main 0
      rw [hc1 z] at g9
      rw [show (((g * 12) + (jn J 11 x)) * 12) + 0 = 144 * g + (12 * jn J 11 x + 0) by omega]
      exact g9
    · have ej : jx yi = y := by rw [hyi z]; exact jx_nI (by omega)
      have g9 := main c2
      rw [hc2 z] at g9
      rw [ej, show (((g * 12) + (jn J 11 x)) * 12) + jn J 11 y = 144 * g + (12 * jn J 11 x + jn J 11 y) by omega]
      exact g9
  · obtain ⟨w, w1, w2, w3⟩ := fI.mp z
    have ho1 : ow = nI 1 := by
      rcases how with q | q
      · exact absurd w3 (how2.mp q w w1 w2)
      · exact q
    have hsp' := hsp
    obtain ⟨a, b, c, u, d1, d2, d3, d4, d5, d6⟩ := hsp'
    have ne : ¬ sp = u := fun z => by rw [← z, a] at d2; omega
    exact l_K_e1 hB hT g x yi sp u c d1 d4 d5 b d3 ne d6 hg hx hyM hd hw (fun ty => K _ _ lab sp u (ef_own hB hT hL hW hR hC hI hM hK e7 hlv hsp d1 hg hx hy hyi ho1 ty))
