/-! What enter leaves in the reference: the methods in their order. -/
theorem enm_lt {a : Nat → Nat} {lo hi : Nat} {P : Nat → Prop} {lt lt' : Nat → Nat → Prop} (h : enm a lo hi P lt) (hl : ∀ m m', P m → P m' → lt m m' → lt' m m') : enm a lo hi P lt' := ⟨h.1, h.2.1, h.2.2.1, fun i j x y z => hl _ _ (h.2.1 i x (by omega)) (h.2.1 j (by omega) z) (h.2.2.2 i j x y z)⟩
/-- cells that say what is applicable, in the reference -/
def apc (L L' : Nat → Nat → Int32) : Prop := ∀ q, q = 39 ∨ q = 40 ∨ q = 45 ∨ q = 49 ∨ q = 50 ∨ q = 51 ∨ q = 52 ∨ q = 53 → L' q = L q
theorem R_pl_cg {J K : Nat → Nat → Int32} (h : K 39 = J 39) {c : Nat} {x : Int32} : ∀ m k, R_pl c x m k K = R_pl c x m k J := by
  intro m
  induction m with
  | zero => intro k; rfl
  | succ m ih =>
    intro k
    rw [R_pl, R_pl, ih (k + 1), jn_cg h]
theorem R_place_cg {J K : Nat → Nat → Int32} (h : apc J K) {c : Nat} {x : Int32} : R_place K c x = R_place J c x := by
  unfold R_place
  rw [R_pl_cg (h 39 (by decide)), jn_cg (h 40 (by decide))]
theorem R_dist_cg {J K : Nat → Nat → Int32} (h : apc J K) {s i : Nat} : R_dist K s i = R_dist J s i := by
  unfold R_dist
  rw [R_place_cg h, jn_cg (h 45 (by decide))]
theorem R_suits_cg {J K : Nat → Nat → Int32} (h : apc J K) {s i : Nat} : R_suits K s i = R_suits J s i := by
  unfold R_suits R_sub
  rw [R_place_cg h, jn_cg (h 45 (by decide))]
theorem R_bef_cg {J K : Nat → Nat → Int32} (h : apc J K) {w v x y : Nat} : R_bef K w v x y = R_bef J w v x y := by
  unfold R_bef
  rw [jn_cg (h 52 (by decide)), jn_cg (h 52 (by decide)), jn_cg (h 49 (by decide)), jn_cg (h 50 (by decide)), jn_cg (h 53 (by decide)), jn_cg (h 53 (by decide)), R_dist_cg h, R_dist_cg h, R_dist_cg h, R_dist_cg h]
theorem apc_u {L : Nat → Nat → Int32} {q j : Nat} {x : Int32} (hq : q = 59 ∨ q = 60) : apc L (am_u2 L q j x) := fun r hr => fr_u (by omega)
theorem apc_tr {L L1 L2 : Nat → Nat → Int32} (h1 : apc L L1) (h2 : apc L1 L2) : apc L L2 := fun q hq => (h2 q hq).trans (h1 q hq)
/-- inserting from the back -/
theorem R_id_c {w x y row : Nat} {L : Nat → Nat → Int32} : ∀ m J, apc L J → am_ty2 J → ∃ p, p ≤ m ∧ (∀ i, p ≤ i → i < m → R_bef L w (jn J 59 (16 * row + i)) x y) ∧ (0 < p → ¬ R_bef L w (jn J 59 (16 * row + (p - 1))) x y) ∧ (∀ j, j < 16 * row + p ∨ 16 * row + m < j → R_id w x y row m J 59 j = J 59 j) ∧ R_id w x y row m J 59 (16 * row + p) = nI w ∧ (∀ i, p < i → i ≤ m → R_id w x y row m J 59 (16 * row + i) = J 59 (16 * row + (i - 1))) ∧ ∀ q, ¬ q = 59 → R_id w x y row m J q = J q := by
  intro m
  induction m with
  | zero =>
    intro J hJ hT
    rw [R_id]
    exact ⟨0, Nat.le_refl 0, fun i a b => by omega, fun q => by omega, fun j hj => u2_ne (by omega), am_u2_s, fun i a b => by omega, fun q hq => fr_u hq⟩
  | succ m ih =>
    intro J hJ hT
    have b := ty_n hT (q := 59) (B := 16) (by decide) (by decide) (16 * row + m)
    rw [R_id, R_bef_cg hJ, show 16 * row + (m + 1) - 1 = 16 * row + m by omega]
    by_cases z : R_bef L w (jn J 59 (16 * row + m)) x y
    · rw [am_ite_t z]
      obtain ⟨p, h1, h2, h3, h4, h5, h6, h7⟩ := ih (am_u2 J 59 (16 * row + (m + 1)) (nI (jn J 59 (16 * row + m)))) (apc_tr hJ (apc_u (Or.inl rfl))) (ty_w hT (tw_n (B := 16) (by decide) (by decide) (by decide) b.2))
      have jo : ∀ i, i < m + 1 → jn (am_u2 J 59 (16 * row + (m + 1)) (nI (jn J 59 (16 * row + m)))) 59 (16 * row + i) = jn J 59 (16 * row + i) := fun i hi => congrArg Int32.toNatClampNeg (u2_ne (by omega))
      refine ⟨p, by omega, fun i a c => ?_, fun q => ?_, fun j hj => ?_, h5, fun i a c => ?_, fun q hq => by rw [h7 q hq, fr_u hq]⟩
      · by_cases e : i = m
        · rw [e]; exact z
        · have := h2 i a (by omega); rw [jo i (by omega)] at this; exact this
      · have := h3 q; rw [jo (p - 1) (by omega)] at this; exact this
      · rw [h4 j (by omega), u2_ne (by omega)]
      · by_cases e : i = m + 1
        · rw [e, h4 _ (by omega), am_u2_s, Nat.add_sub_cancel]; exact b.1.symm
        · rw [h6 i a (by omega), u2_ne (by omega)]
    · rw [am_ite_f z]
      exact ⟨m + 1, Nat.le_refl _, fun i a c => by omega, fun _ => by rw [Nat.add_sub_cancel]; exact z, fun j hj => u2_ne (by omega), am_u2_s, fun i a c => by omega, fun q hq => fr_u hq⟩
/-- applicable, in the reference -/
def apl (L : Nat → Nat → Int32) (g x y m : Nat) : Prop := L 50 m = nI g ∧ R_suits L (jn L 52 m) x ∧ (jn L 49 g = 2 → R_suits L (jn L 53 m) y)
def ins_ (L : Nat → Nat → Int32) (g m : Nat) : Prop := 15 < jn L 52 m ∨ (jn L 49 g = 2 ∧ 15 < jn L 53 m)
theorem apl_cg {L L' : Nat → Nat → Int32} (h : apc L L') {g x y m : Nat} : (apl L' g x y m ↔ apl L g x y m) ∧ (ins_ L' g m ↔ ins_ L g m) := by
  unfold apl ins_
  rw [h 50 (by decide), jn_cg (h 52 (by decide)), jn_cg (h 53 (by decide)), jn_cg (h 49 (by decide)), R_suits_cg h, R_suits_cg h]
  exact ⟨Iff.rfl, Iff.rfl⟩
/-- the rows of a level, when the methods below k are in -/
def rws (L : Nat → Nat → Int32) (g x y lv k : Nat) (rk : Nat → Int32) : Prop := ∀ kd, kd < 4 → enm (fun i => jn L 59 (16 * (4 * lv + kd) + i)) 0 (mk L lv kd) (fun m => m < k ∧ apl L g x y m ∧ jn L 51 m = kd) (fun m m' => rk m < rk m')
/-- one more method -/
theorem rws_in {L : Nat → Nat → Int32} {g x y lv k : Nat} {rk : Nat → Int32} (hT : am_ty2 L) (h : rws L g x y lv k rk) (hlv : jn L 36 38 = lv) (hk : k < 16) (ha : apl L g x y k) (hn : jn L 60 (4 * lv + jn L 51 k) < 16) (hb : ∀ m, m < k → apl L g x y m → jn L 51 m = jn L 51 k → (R_bef L k m x y ↔ rk k < rk m) ∧ (¬ rk k = rk m)) : rws (R_ins L k x y) g x y lv (k + 1) rk ∧ apc L (R_ins L k x y) ∧ (∀ q, ¬ q = 59 → ¬ q = 60 → R_ins L k x y q = L q) ∧ (∀ j, j < 64 * lv → R_ins L k x y 59 j = L 59 j) ∧ (∀ j, j < 4 * lv → R_ins L k x y 60 j = L 60 j) ∧ ∀ kd, kd < 4 → mk (R_ins L k x y) lv kd ≤ mk L lv kd + 1 := by
  have b51 := ty_n hT (q := 51) (B := 4) (by decide) (by decide) k
  unfold R_ins
  rw [hlv]
  generalize hc : jn L 51 k = c at *
  have nn : jn L 60 (4 * lv + c) = mk L lv c := rfl
  rw [nn] at hn ⊢
  have T1 : am_ty2 (am_u2 L 60 (4 * lv + c) (nI (mk L lv c + 1))) := ty_w hT (tw_n (B := 17) (by decide) (by decide) (by decide) (by omega))
  obtain ⟨p, h1, h2, h3, h4, h5, h6, h7⟩ := R_id_c (w := k) (x := x) (y := y) (row := 4 * lv + c) (L := L) (mk L lv c) _ (apc_u (L := L) (q := 60) (j := 4 * lv + c) (x := nI (mk L lv c + 1)) (Or.inr rfl)) T1
  have o59 : am_u2 L 60 (4 * lv + c) (nI (mk L lv c + 1)) 59 = L 59 := fr_u (by decide)
  rw [jn_cg o59] at h3
  have h2 : ∀ i, p ≤ i → i < mk L lv c → R_bef L k (jn L 59 (16 * (4 * lv + c) + i)) x y := fun i a b => by have := h2 i a b; rw [jn_cg o59] at this; exact this
  rw [o59] at h4 h6
  have q60 : R_id k x y (4 * lv + c) (mk L lv c) (am_u2 L 60 (4 * lv + c) (nI (mk L lv c + 1))) 60 = am_u2 L 60 (4 * lv + c) (nI (mk L lv c + 1)) 60 := h7 60 (by decide)
  have qq : ∀ q, ¬ q = 59 → ¬ q = 60 → R_id k x y (4 * lv + c) (mk L lv c) (am_u2 L 60 (4 * lv + c) (nI (mk L lv c + 1))) q = L q := fun q a b => by rw [h7 q a, fr_u b]
  generalize R_id k x y (4 * lv + c) (mk L lv c) (am_u2 L 60 (4 * lv + c) (nI (mk L lv c + 1))) = L2 at *
  have ap : apc L L2 := fun q hq => qq q (by omega) (by omega)
  have mkc : mk L2 lv c = mk L lv c + 1 := by
    show (L2 60 (4 * lv + c)).toNatClampNeg = _
    rw [q60, am_u2_s]
    exact nI_clamp (by omega)
  have mko : ∀ kd, ¬ kd = c → mk L2 lv kd = mk L lv kd := fun kd hkd => by
    unfold mk jn
    rw [q60, u2_ne (by omega)]
  have b51' : c < 4 := b51.2
  refine ⟨fun kd hkd => ?_, ap, qq, fun j hj => h4 j (by omega), fun j hj => by rw [q60, u2_ne (by omega)], fun kd hkd => ?_⟩
  · by_cases z : kd = c
    · rw [z, mkc]
      have en := h c b51'
      have mem : ∀ i, i < mk L lv c → (jn L 59 (16 * (4 * lv + c) + i) < k ∧ apl L g x y (jn L 59 (16 * (4 * lv + c) + i)) ∧ jn L 51 (jn L 59 (16 * (4 * lv + c) + i)) = c) := fun i hi => en.2.1 i (Nat.zero_le i) hi
      refine enm_ins (w := k) en (Nat.zero_le p) h1 (fun i _ hi => ?_) (fun i a b => ?_) (fun i _ hi => ?_) ?_ (fun i a b => ?_) (fun m => ?_)
      · -- below the place
        have last : rk (jn L 59 (16 * (4 * lv + c) + (p - 1))) < rk k := by
          have q := mem (p - 1) (by omega)
          have r := hb _ q.1 q.2.1 q.2.2
          have nb := h3 (by omega)
          rw [r.1] at nb
          rcases i_trich r.2 with w | w
          · exact absurd w nb
          · exact w
        by_cases e : i = p - 1
        · rw [e]; exact last
        · exact i_tr (en.2.2.2 i (p - 1) (Nat.zero_le i) (by omega) (by omega)) last
      · have q := mem i b
        exact (hb _ q.1 q.2.1 q.2.2).1.mp (h2 i a b)
      · exact congrArg Int32.toNatClampNeg (h4 _ (by omega))
      · show (L2 59 (16 * (4 * lv + c) + p)).toNatClampNeg = k
        rw [h5]; exact nI_clamp (by omega)
      · exact congrArg Int32.toNatClampNeg (h6 i a b)
      · rw [(apl_cg ap).1, jn_cg (ap 51 (by decide))]
        constructor
        · intro q
          by_cases e : m = k
          · exact Or.inr e
          · exact Or.inl ⟨by have := q.1; omega, q.2⟩
        · rintro (q | q)
          · exact ⟨by have := q.1; omega, q.2⟩
          · rw [q]; exact ⟨by omega, ha, hc⟩
    · rw [mko kd z]
      refine enm_a (enm_P (h kd hkd) (fun m => ?_)) (fun i _ hi => congrArg Int32.toNatClampNeg (h4 _ ?_)) (fun _ _ q => q)
      · rw [(apl_cg ap).1, jn_cg (ap 51 (by decide))]
        exact ⟨fun q => ⟨by have a := q.1; have : ¬ m = k := fun e => z (by rw [← q.2.2, e, hc]); omega, q.2⟩, fun q => ⟨by have := q.1; omega, q.2⟩⟩
      · have b60 := ty_n hT (q := 60) (B := 17) (by decide) (by decide) (4 * lv + kd)
        have hi2 : i < jn L 60 (4 * lv + kd) := hi
        rcases Nat.lt_or_gt_of_ne z with w | w
        · left; omega
        · right; omega
  · by_cases z : kd = c
    · rw [z, mkc]; exact Nat.le_refl _
    · rw [mko kd z]; exact Nat.le_succ _
