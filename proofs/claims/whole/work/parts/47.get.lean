/-! get, put, unbind, become, make answer alike. -/
theorem rl_slot1 {K L : Nat → Nat → Int32} (hK : am_ty2 K) (hC : rl_C K L) (hI : rl_I K L) {i nm : Nat} : (C_holder (I_t1 K i) (jn ((I_touch K i).2) 11 i) nm = -1 ∧ R_slotOf (R_touch L i) (jn (R_touch L i) 45 i) nm = -1) ∨ ∃ e, e < 12 ∧ C_holder (I_t1 K i) (jn ((I_touch K i).2) 11 i) nm = nI e ∧ R_slotOf (R_touch L i) (jn (R_touch L i) 45 i) nm = nI (6 * e + nm) ∧ jn (R_touch L i) 43 (6 * e + nm) = jn (I_t1 K i) 6 (e * 6 + nm) ∧ R_touch L i 44 (6 * e + nm) = I_t1 K i 7 (e * 6 + nm) := by
  have e1 : jn ((I_touch K i).2) 11 i = jn K 11 i := by unfold jn; rw [fr_I_touch 11 (by omega)]
  have e2 : jn (R_touch L i) 45 i = jn K 11 i := by rw [← jn_e hI.1]; unfold jn; rw [fr_R_touch 45 (by omega)]
  have hc : ∀ q, 3 ≤ q → q < 8 → I_t1 K i q = K q := fun q h1 h2 => by unfold I_t1; rw [fr_u (by omega)]; exact fr_I_touch q (by omega)
  rw [e1, e2, C_holder_congr (hc 4 (by omega) (by omega)) (hc 6 (by omega) (by omega)) (hc 5 (by omega) (by omega)), R_slotOf_congr (fr_R_touch 39 (by omega)) (fr_R_touch 43 (by omega)) (fr_R_touch 40 (by omega))]
  rcases rl_holder hK hC (c := jn K 11 i) (nm := nm) with ⟨a, b⟩ | ⟨e, he, a, b, _⟩
  · exact Or.inl ⟨a, b⟩
  · refine Or.inr ⟨e, he, a, b, ?_, ?_⟩
    · unfold jn; rw [fr_R_touch 43 (by omega), hc 6 (by omega) (by omega), hC.1, Nat.mul_comm]
    · rw [fr_R_touch 44 (by omega), hc 7 (by omega) (by omega), hC.2.1, Nat.mul_comm]
theorem nI_n1 {e : Nat} (he : e < 2 ^ 31) : ¬ nI e = -1 := fun q => by
  have g : ¬ nI e < 0 := nI_pos he
  exact g (by rw [q]; decide)
theorem rl_IE {K L : Nat → Nat → Int32} {x : Int32} (h : rl_I K L) : rl_I K (am_u2 L 36 40 x) := by
  obtain ⟨h11, h12, h13, h14, h5, h6, hb, hz⟩ := h
  exact ⟨h11, h12, h13, h14, by rw [u2_ne (by decide)]; exact h5, h6, hb, hz⟩
theorem rl_CE {K L : Nat → Nat → Int32} {x : Int32} (h : rl_C K L) : rl_C K (am_u2 L 36 40 x) := h
theorem bt_and1 {x : Int32} {k : Nat} (hk : k < 6) : ((x >>> ((nI k) &&& 31)) &&& (nI 1)) = 0 ∨ ((x >>> ((nI k) &&& 31)) &&& (nI 1)) = nI 1 := by
  have h : ∀ y : Int32, y &&& (nI 1) = 0 ∨ y &&& (nI 1) = nI 1 := by
    intro y
    have e : (y &&& nI 1).toBitVec = y.toBitVec &&& 1#32 := rfl
    have g : y.toBitVec &&& 1#32 = 0#32 ∨ y.toBitVec &&& 1#32 = 1#32 := by
      by_cases c : y.toBitVec &&& 1#32 = 0#32
      · exact Or.inl c
      · right
        have t : y.toBitVec.getLsbD 0 = true := by
          cases hc : y.toBitVec.getLsbD 0 with
          | true => rfl
          | false => exact absurd (bv_bit0.mpr hc) c
        ext i hi
        simp
        cases i with
        | zero => simp at t ⊢; exact t
        | succ i => simp
    rcases g with g | g
    · exact Or.inl (Int32.toBitVec_inj.mp g)
    · exact Or.inr (Int32.toBitVec_inj.mp g)
  exact h _
/-- what get, put and unbind reach -/
theorem rl_reach {K L : Nat → Nat → Int32} (hK : am_ty2 K) (hI : rl_I K L) {i nm : Int32} : (¬ I_there K i ∧ D_ref K i nm = -2 ∧ R_reach L i nm = (-2, L)) ∨ (I_there K i ∧ ¬ w_name nm ∧ D_ref K i nm = -1 ∧ R_reach L i nm = (-1, L)) ∨ (I_there K i ∧ w_name nm ∧ D_ref K i nm = 0 ∧ jx i < jn K 10 5 ∧ jx i < 12 ∧ jx nm < 6 ∧ R_reach L i nm = (am_ite (0 ≤ (R_slotOf (R_touch L (jx i)) (jn (R_touch L (jx i)) 45 (jx i)) (jx nm))) ((nI (jx (R_slotOf (R_touch L (jx i)) (jn (R_touch L (jx i)) 45 (jx i)) (jx nm)))), R_touch L (jx i)) ((-6), R_touch L (jx i)))) := by
  unfold D_ref R_reach
  rw [rl_in hI, rl_is]
  by_cases z1 : I_there K i
  · have g := I_there_r hK z1
    rw [am_ite_t z1, am_ite_t z1]
    by_cases z2 : w_name nm
    · have g2 := jx_eq (by decide) (show w_in nm (nI 0) (nI 5) from z2)
      rw [am_ite_t z2, am_ite_t (show w_in nm (nI 0) (nI 5) from z2)]
      exact Or.inr (Or.inr ⟨z1, z2, rfl, g.2.1, g.2.2, by omega, rfl⟩)
    · rw [am_ite_f z2, am_ite_f (show ¬ w_in nm (nI 0) (nI 5) from z2)]
      exact Or.inr (Or.inl ⟨z1, z2, rfl, rfl⟩)
  · rw [am_ite_f z1, am_ite_f z1]
    exact Or.inl ⟨z1, rfl, rfl⟩
theorem sh_t {K : Nat → Nat → Int32} {e nm : Nat} (z : jn K 6 (e * 6 + nm) = 3) : C_shared K e nm := by unfold C_shared; rw [am_ite_t z]; trivial
theorem sh_f {K : Nat → Nat → Int32} {e nm : Nat} (z : ¬ jn K 6 (e * 6 + nm) = 3) : ¬ C_shared K e nm := by unfold C_shared; rw [am_ite_f z]; exact fun q => q
theorem isin_f {x : Int32} {k : Nat} (b : ((x >>> ((nI k) &&& 31)) &&& (nI 1)) = 0) : ¬ w_isin x (nI k) := by unfold w_isin; rw [am_ite_t b]; exact fun q => q
theorem isin_t {x : Int32} {k : Nat} (b : ((x >>> ((nI k) &&& 31)) &&& (nI 1)) = nI 1) : w_isin x (nI k) := by unfold w_isin; rw [am_ite_f (by rw [b]; decide)]; trivial
theorem eq_get {K L : Nat → Nat → Int32} (hK : am_ty2 K) (hC : rl_C K L) (hI : rl_I K L) {i nm : Int32} : (D_get K i nm).1 = (R_get L i nm).1 ∧ rl_C (D_get K i nm).2 (R_get L i nm).2 ∧ rl_I (D_get K i nm).2 (R_get L i nm).2 := by
  unfold D_get R_get
  rcases rl_reach hK hI (i := i) (nm := nm) with ⟨z1, e1, e2⟩ | ⟨z1, z2, e1, e2⟩ | ⟨z1, z2, e1, h1, h2, h3, e2⟩
  · rw [e1, e2]; dsimp only
    rw [am_ite_f (show ¬ (-2 : Int32) = 0 by decide), am_ite_f (show ¬ (0 : Int32) ≤ -2 by decide)]
    exact ⟨rfl, rl_CE hC, rl_IE hI⟩
  · rw [e1, e2]; dsimp only
    rw [am_ite_f (show ¬ (-1 : Int32) = 0 by decide), am_ite_f (show ¬ (0 : Int32) ≤ -1 by decide)]
    exact ⟨rfl, rl_CE hC, rl_IE hI⟩
  · rw [e1, e2, am_ite_t rfl]
    obtain ⟨gC, gI⟩ := rl_touch hK hC hI h1
    unfold I_read
    rw [show am_u2 ((I_touch K (jx i)).2) 10 6 ((K 10 6) + ((I_touch K (jx i)).1)) = I_t1 K (jx i) from rfl]
    have e13 : R_touch L (jx i) 47 = (I_touch K (jx i)).2 13 := gI.2.2.1.symm
    have e14 : R_touch L (jx i) 48 = (I_touch K (jx i)).2 14 := gI.2.2.2.1.symm
    rcases rl_slot1 hK hC hI (i := jx i) (nm := jx nm) with ⟨a, b⟩ | ⟨e, he, a, b, c43, c44⟩
    · rw [a, b, am_ite_t rfl, am_ite_f (show ¬ (0 : Int32) ≤ -1 by decide)]; dsimp only
      rw [am_ite_f (show ¬ (0 : Int32) ≤ -6 by decide)]
      exact ⟨rfl, rl_CE gC, rl_IE gI⟩
    · rw [a, b, am_ite_f (nI_n1 (by omega)), jx_nI (by omega), am_ite_t (nI_pos' (by omega)), jx_nI (by omega)]; dsimp only
      rw [am_ite_t (nI_pos' (by omega)), jx_nI (by omega), c43, c44, e13, e14]
      by_cases z : jn (I_t1 K (jx i)) 6 (e * 6 + jx nm) = 3
      · rw [am_ite_t (sh_t z), am_ite_t z]
        exact ⟨rfl, gC, gI⟩
      · rw [am_ite_f (sh_f z), am_ite_f z]
        rcases bt_and1 (x := (I_touch K (jx i)).2 13 (jx i)) h3 with b0 | b1
        · rw [am_ite_f (isin_f b0), am_ite_f (by rw [b0]; decide)]
          exact ⟨rfl, rl_CE gC, rl_IE gI⟩
        · rw [am_ite_t (isin_t b1), am_ite_t b1]
          refine ⟨?_, gC, gI⟩
          rw [Nat.mul_comm]
/-- a write of the values and the bits of an instance -/
theorem rl_I_w {K L : Nat → Nat → Int32} (gI : rl_I K L) {i : Nat} (hi : i < jn K 10 5) {x : Int32} (hx : ∀ n, n < 6 → (K 12 i) &&& ((nI 1) <<< ((nI n) &&& 31)) = 0 → x &&& ((nI 1) <<< ((nI n) &&& 31)) = 0) : rl_I (am_u2 K 13 i x) (am_u2 L 47 i x) := by
  obtain ⟨h11, h12, h13, h14, h5, h6, hb, hz⟩ := gI
  refine ⟨h11, h12, u2_eq h13 rfl, h14, h5, h6, fun j n h1 h2 => ?_, fun j hj => ?_⟩
  · by_cases e : j = i
    · rw [e] at h2 ⊢; rw [am_u2_s]; exact hx n h1 h2
    · rw [u2_ne e]; exact hb j n h1 h2
  · have hj : jn K 10 5 ≤ j := hj
    rw [u2_ne (by omega)]
    exact hz j hj
theorem rl_I_v {K L : Nat → Nat → Int32} (gI : rl_I K L) {j : Nat} {x : Int32} : rl_I (am_u2 K 14 j x) (am_u2 L 48 j x) := by
  obtain ⟨h11, h12, h13, h14, h5, h6, hb, hz⟩ := gI
  exact ⟨h11, h12, h13, u2_eq h14 rfl, h5, h6, hb, hz⟩
theorem rl_C_v {K L : Nat → Nat → Int32} (gC : rl_C K L) {j : Nat} {x : Int32} : rl_C (am_u2 K 7 j x) (am_u2 L 44 j x) := by
  obtain ⟨h1, h2, h3⟩ := gC
  exact ⟨h1, u2_eq h2 rfl, h3⟩
/-- a name that the class of the instance has as a local one is in its layout behind a touch -/
theorem rl_inl {K L : Nat → Nat → Int32} (hK : am_ty2 K) (hC : rl_C K L) (hI : rl_I K L) {i nm e : Nat} (hn : nm < 6) (he : e < 12) (b : R_slotOf (R_touch L i) (jn (R_touch L i) 45 i) nm = nI (6 * e + nm)) (c43 : jn (R_touch L i) 43 (6 * e + nm) = jn (I_t1 K i) 6 (e * 6 + nm)) : (I_t1 K i 12 i) &&& ((nI 1) <<< ((nI nm) &&& 31)) = 0 ↔ jn (I_t1 K i) 6 (e * 6 + nm) = 3 := by
  obtain ⟨h11, h12, h13, h14, h5, h6, hb, hz⟩ := hI
  obtain ⟨f12, _⟩ := rl_follow hK hC h11 h12 h13 h14 hb i
  have e1 : I_t1 K i 12 i = R_locals L (jn L 45 i) := by
    show (I_touch K i).2 12 i = _
    rw [f12]; unfold R_follow; rw [am_u2_s]
  have g := rl_locals (J := L) (c := jn L 45 i) hn
  rw [e1]
  have e2 : jn (R_touch L i) 45 i = jn L 45 i := by unfold jn; rw [fr_R_touch 45 (by omega)]
  rw [e2, R_slotOf_congr (fr_R_touch 39 (by omega)) (fr_R_touch 43 (by omega)) (fr_R_touch 40 (by omega))] at b
  have e3 : jn L 43 (6 * e + nm) = jn (I_t1 K i) 6 (e * 6 + nm) := by rw [← c43]; unfold jn; rw [fr_R_touch 43 (by omega)]
  unfold rl_good at g
  rw [b, jx_nI (by omega), e3] at g
  have p : ¬ nI (6 * e + nm) < 0 := nI_pos (by omega)
  refine ⟨fun q => Classical.byContradiction (fun r => g.mp q ⟨p, r⟩), fun q => g.mpr (fun r => r.2 q)⟩
theorem eq_put {K L : Nat → Nat → Int32} (hK : am_ty2 K) (hC : rl_C K L) (hI : rl_I K L) {i nm v : Int32} : (D_put K i nm v).1 = (R_put L i nm v).1 ∧ rl_C (D_put K i nm v).2 (R_put L i nm v).2 ∧ rl_I (D_put K i nm v).2 (R_put L i nm v).2 := by
  unfold D_put R_put
  rcases rl_reach hK hI (i := i) (nm := nm) with ⟨z1, e1, e2⟩ | ⟨z1, z2, e1, e2⟩ | ⟨z1, z2, e1, h1, h2, h3, e2⟩
  · rw [e1, e2]; dsimp only
    rw [am_ite_f (show ¬ (-2 : Int32) = 0 by decide), am_ite_f (show ¬ (0 : Int32) ≤ -2 by decide)]
    exact ⟨rfl, rl_CE hC, rl_IE hI⟩
  · rw [e1, e2]; dsimp only
    rw [am_ite_f (show ¬ (-1 : Int32) = 0 by decide), am_ite_f (show ¬ (0 : Int32) ≤ -1 by decide)]
    exact ⟨rfl, rl_CE hC, rl_IE hI⟩
  · rw [e1, e2, am_ite_t rfl]
    obtain ⟨gC, gI⟩ := rl_touch hK hC hI h1
    unfold I_write
    rw [show am_u2 ((I_touch K (jx i)).2) 10 6 ((K 10 6) + ((I_touch K (jx i)).1)) = I_t1 K (jx i) from rfl]
    rcases rl_slot1 hK hC hI (i := jx i) (nm := jx nm) with ⟨a, b⟩ | ⟨e, he, a, b, c43, c44⟩
    · rw [a, b, am_ite_t rfl, am_ite_f (show ¬ (0 : Int32) ≤ -1 by decide)]; dsimp only
      rw [am_ite_f (show ¬ (0 : Int32) ≤ -6 by decide)]
      exact ⟨rfl, rl_CE gC, rl_IE gI⟩
    · have hin := rl_inl hK hC hI h3 he b c43
      rw [a, b, am_ite_f (nI_n1 (by omega)), jx_nI (by omega), am_ite_t (nI_pos' (by omega)), jx_nI (by omega)]; dsimp only
      rw [am_ite_t (nI_pos' (by omega)), jx_nI (by omega), c43]
      by_cases z : jn (I_t1 K (jx i)) 6 (e * 6 + jx nm) = 3
      · rw [am_ite_t (sh_t z), am_ite_t z]
        refine ⟨rfl, ?_, gI⟩
        unfold C_setInt
        rw [Nat.mul_comm e 6]
        exact rl_C_v gC
      · rw [am_ite_f (sh_f z), am_ite_f z]
        refine ⟨rfl, gC, ?_⟩
        unfold I_setVal
        rw [Nat.mul_comm (jx i) 6]
        have e47 : R_touch L (jx i) 47 (jx i) = I_t1 K (jx i) 13 (jx i) := by rw [gI.2.2.1]
        show rl_I (am_u2 (am_u2 (I_t1 K (jx i)) 14 (6 * jx i + jx nm) v) 13 (jx i) _) (am_u2 (am_u2 (R_touch L (jx i)) 48 (6 * jx i + jx nm) v) 47 (jx i) _)
        rw [e47]
        have e5 : jn (I_t1 K (jx i)) 10 5 = jn K 10 5 := by unfold jn I_t1; rw [u2_ne (by decide), fr_I_touch 10 (by omega)]
        refine rl_I_w (rl_I_v gI) (show jx i < jn (I_t1 K (jx i)) 10 5 by rw [e5]; exact h1) (fun n hn hq => ?_)
        have q := gI.2.2.2.2.2.2.1 (jx i) n hn hq
        rw [i_orand, q]
        by_cases en : n = jx nm
        · rw [en] at hq; exact absurd (hin.mp hq) z
        · rw [i_bits (jx nm) h3 n hn (fun x => en x.symm)]; rfl
theorem eq_unbind {K L : Nat → Nat → Int32} (hK : am_ty2 K) (hC : rl_C K L) (hI : rl_I K L) {i nm : Int32} : (D_unbind K i nm).1 = (R_unbind L i nm).1 ∧ rl_C (D_unbind K i nm).2 (R_unbind L i nm).2 ∧ rl_I (D_unbind K i nm).2 (R_unbind L i nm).2 := by
  unfold D_unbind R_unbind
  rcases rl_reach hK hI (i := i) (nm := nm) with ⟨z1, e1, e2⟩ | ⟨z1, z2, e1, e2⟩ | ⟨z1, z2, e1, h1, h2, h3, e2⟩
  · rw [e1, e2]; dsimp only
    rw [am_ite_f (show ¬ (-2 : Int32) = 0 by decide), am_ite_f (show ¬ (0 : Int32) ≤ -2 by decide)]
    exact ⟨rfl, rl_CE hC, rl_IE hI⟩
  · rw [e1, e2]; dsimp only
    rw [am_ite_f (show ¬ (-1 : Int32) = 0 by decide), am_ite_f (show ¬ (0 : Int32) ≤ -1 by decide)]
    exact ⟨rfl, rl_CE hC, rl_IE hI⟩
  · rw [e1, e2, am_ite_t rfl]
    obtain ⟨gC, gI⟩ := rl_touch hK hC hI h1
    unfold I_drop
    rw [show am_u2 ((I_touch K (jx i)).2) 10 6 ((K 10 6) + ((I_touch K (jx i)).1)) = I_t1 K (jx i) from rfl]
    have e47 : R_touch L (jx i) 47 (jx i) = (I_touch K (jx i)).2 13 (jx i) := by rw [← gI.2.2.1]; rfl
    have e12 : (I_touch K (jx i)).2 12 (jx i) = I_t1 K (jx i) 12 (jx i) := rfl
    rw [e12]
    rcases rl_slot1 hK hC hI (i := jx i) (nm := jx nm) with ⟨a, b⟩ | ⟨e, he, a, b, c43, c44⟩
    · have hz : (I_t1 K (jx i) 12 (jx i)) &&& rl_bit (jx nm) = 0 := by
        obtain ⟨h11, h12, h13, h14, h5, h6, hb, hz⟩ := hI
        obtain ⟨f12, _⟩ := rl_follow hK hC h11 h12 h13 h14 hb (jx i)
        have e1 : I_t1 K (jx i) 12 (jx i) = R_locals L (jn L 45 (jx i)) := by
          show (I_touch K (jx i)).2 12 (jx i) = _
          rw [f12]; unfold R_follow; rw [am_u2_s]
        rw [e1]
        refine (rl_locals (J := L) (c := jn L 45 (jx i)) h3).mpr (fun g => g.1 ?_)
        have e2 : jn (R_touch L (jx i)) 45 (jx i) = jn L 45 (jx i) := by unfold jn; rw [fr_R_touch 45 (by omega)]
        rw [e2, R_slotOf_congr (fr_R_touch 39 (by omega)) (fr_R_touch 43 (by omega)) (fr_R_touch 40 (by omega))] at b
        rw [b]; decide
      rw [am_ite_f (isin_f ((i_isin _ h3).mpr hz)), b, am_ite_f (show ¬ (0 : Int32) ≤ -1 by decide)]; dsimp only
      rw [am_ite_f (show ¬ (0 : Int32) ≤ -6 by decide)]
      exact ⟨rfl, rl_CE gC, rl_IE gI⟩
    · have hin := rl_inl hK hC hI h3 he b c43
      rw [b, am_ite_t (nI_pos' (by omega)), jx_nI (by omega)]; dsimp only
      rw [am_ite_t (nI_pos' (by omega)), jx_nI (by omega), c43, e47]
      by_cases z : jn (I_t1 K (jx i)) 6 (e * 6 + jx nm) = 3
      · rw [am_ite_f (isin_f ((i_isin _ h3).mpr (hin.mpr z))), am_ite_t z]
        exact ⟨rfl, rl_CE gC, rl_IE gI⟩
      · have w : w_isin (I_t1 K (jx i) 12 (jx i)) (nI (jx nm)) := by
          unfold w_isin; rw [am_ite_f (fun q => z (hin.mp ((i_isin _ h3).mp q)))]; trivial
        rw [am_ite_t w, am_ite_f z]
        have e5 : jn (I_t1 K (jx i)) 10 5 = jn K 10 5 := by unfold jn I_t1; rw [u2_ne (by decide), fr_I_touch 10 (by omega)]
        have fin : rl_I (am_u2 (I_t1 K (jx i)) 13 (jx i) ((((I_touch K (jx i)).2) 13 (jx i)) &&& (rl_bit (jx nm) ^^^ ((-1))))) (am_u2 (R_touch L (jx i)) 47 (jx i) ((((I_touch K (jx i)).2) 13 (jx i)) &&& (rl_bit (jx nm) ^^^ ((-1))))) :=
          rl_I_w gI (by rw [e5]; exact h1) (fun n hn hq => i_andc (gI.2.2.2.2.2.2.1 (jx i) n hn hq))
        rcases bt_and1 (x := (I_touch K (jx i)).2 13 (jx i)) h3 with b0 | b1
        · rw [am_ite_f (isin_f b0), b0]
          refine ⟨rfl, gC, ?_⟩
          have e9 : (((I_touch K (jx i)).2) 13 (jx i)) &&& (rl_bit (jx nm) ^^^ ((-1))) = I_t1 K (jx i) 13 (jx i) := i_and0 ((i_isin _ h3).mp b0)
          rw [e9] at fin
          have e10 : am_u2 (I_t1 K (jx i)) 13 (jx i) (I_t1 K (jx i) 13 (jx i)) = I_t1 K (jx i) := by
            funext q j
            show (if q = 13 then (if j = jx i then _ else I_t1 K (jx i) q j) else I_t1 K (jx i) q j) = _
            by_cases q1 : q = 13
            · by_cases q2 : j = jx i
              · rw [if_pos q1, if_pos q2, q1, q2]
              · rw [if_pos q1, if_neg q2]
            · rw [if_neg q1]
          rw [e10, ← e9] at fin
          exact fin
        · rw [am_ite_t (isin_t b1), b1]
          exact ⟨rfl, gC, fin⟩
theorem eq_become {K L : Nat → Nat → Int32} (hh : am_H) (hB : am_B hh) (hK : am_ty2 K) (hL : am_ty2 L) (hC : rl_C K L) (hI : rl_I K L) {i c : Int32} : (D_become K i c).1 = (R_become L i c).1 ∧ rl_C (D_become K i c).2 (R_become L i c).2 ∧ rl_I (D_become K i c).2 (R_become L i c).2 := by
  unfold D_become R_become
  rw [rl_in hI, rl_th hL hC]
  by_cases z1 : I_there K i
  · have g := I_there_r hK z1
    rw [am_ite_t z1, am_ite_t z1]
    by_cases z2 : C_there K c
    · have g2 := C_there_r z2
      rw [am_ite_t z2, am_ite_t z2]
      refine ⟨rfl, ?_⟩
      show rl_C (I_chg K (jx i) (jx c)) (R_touch (am_u2 (R_touch L (jx i)) 45 (jx i) (nI (jx c))) (jx i)) ∧ rl_I (I_chg K (jx i) (jx c)) (R_touch (am_u2 (R_touch L (jx i)) 45 (jx i) (nI (jx c))) (jx i))
      have e : I_chg K (jx i) (jx c) = I_t1 (am_u2 (I_t1 K (jx i)) 11 (jx i) (nI (jx c))) (jx i) := by
        unfold I_chg I_t1
        rfl
      rw [e]
      obtain ⟨gC, gI⟩ := rl_touch hK hC hI g.2.1
      have hT : am_ty2 (I_touch K (jx i)).2 := by
        obtain ⟨n, r, h', _, _, _, q⟩ := s_I_touch (d := (11, 434)) hB hK (jx i) (by omega) (by decide) (by decide)
        exact q
      have hT2 : am_ty2 (am_u2 (I_t1 K (jx i)) 11 (jx i) (nI (jx c))) := ty_w (ty_w hT (tw_u (by decide) (by decide) (by decide))) (tw_n (B := 12) (by decide) (by decide) (by decide) (by omega))
      obtain ⟨h11, h12, h13, h14, h5, h6, hb, hz⟩ := gI
      refine rl_touch hT2 (rl_C_cg gC (fun q _ _ => fr_u (by omega)) (fun q _ _ => fr_u (by omega))) ⟨u2_eq h11 rfl, h12, h13, h14, h5, h6, hb, hz⟩ ?_
      have e5 : jn (am_u2 (I_t1 K (jx i)) 11 (jx i) (nI (jx c))) 10 5 = jn K 10 5 := by
        show ((I_t1 K (jx i)) 10 5).toNatClampNeg = _
        unfold jn I_t1; rw [u2_ne (by decide), fr_I_touch 10 (by omega)]
      rw [e5]; exact g.2.1
    · rw [am_ite_f z2, am_ite_f z2]; exact ⟨rfl, hC, hI⟩
  · rw [am_ite_f z1, am_ite_f z1]; exact ⟨rfl, hC, hI⟩
theorem eq_make {K L : Nat → Nat → Int32} (hK : am_ty2 K) (hL : am_ty2 L) (hC : rl_C K L) (hI : rl_I K L) {c : Int32} : (D_make K c).1 = (R_make L c).1 ∧ rl_C (D_make K c).2 (R_make L c).2 ∧ rl_I (D_make K c).2 (R_make L c).2 := by
  unfold D_make R_make
  rw [rl_th hL hC]
  by_cases z2 : C_there K c
  · have g2 := C_there_r z2
    rw [am_ite_t z2, am_ite_t z2]
    have e5 : jn L 36 37 = jn K 10 5 := by unfold jn; rw [hI.2.2.2.2.1]
    rw [e5]
    show (I_make K (jx c)).1 = _ ∧ rl_C (I_make K (jx c)).2 _ ∧ rl_I (I_make K (jx c)).2 _
    unfold I_make
    have b5 := ty_f hK (q := 10) (j := 5) (B := 13) (by decide) (by decide)
    by_cases z : jn K 10 5 = 12
    · rw [am_ite_t z, am_ite_t z]; exact ⟨rfl, hC, hI⟩
    · rw [am_ite_f z, am_ite_f z]
      refine ⟨rfl, ?_⟩
      obtain ⟨h11, h12, h13, h14, h5, h6, hb, hz⟩ := hI
      have hz0 := hz (jn K 10 5) (Nat.le_refl _)
      show rl_C (I_touch (am_u2 (am_u2 K 10 5 (nI (jn K 10 5 + 1))) 11 (jn K 10 5) (nI (jx c))) (jn K 10 5)).2 (R_follow (am_u2 (am_u2 (am_u2 (am_u2 L 36 37 (nI (jn K 10 5 + 1))) 45 (jn K 10 5) (nI (jx c))) 46 (jn K 10 5) (nI 0)) 47 (jn K 10 5) (nI 0)) (jn K 10 5)) ∧ rl_I (I_touch (am_u2 (am_u2 K 10 5 (nI (jn K 10 5 + 1))) 11 (jn K 10 5) (nI (jx c))) (jn K 10 5)).2 (R_follow (am_u2 (am_u2 (am_u2 (am_u2 L 36 37 (nI (jn K 10 5 + 1))) 45 (jn K 10 5) (nI (jx c))) 46 (jn K 10 5) (nI 0)) 47 (jn K 10 5) (nI 0)) (jn K 10 5))
      have hT2 : am_ty2 (am_u2 (am_u2 K 10 5 (nI (jn K 10 5 + 1))) 11 (jn K 10 5) (nI (jx c))) := ty_w (ty_w hK (tw_f (B := 13) (by decide) (by decide) (by decide) (by omega))) (tw_n (B := 12) (by decide) (by decide) (by decide) (by omega))
      generalize hn : jn K 10 5 = n at *
      have e12 : (am_u2 (am_u2 K 10 5 (nI (n + 1))) 11 n (nI (jx c))) 12 = (am_u2 (am_u2 (am_u2 (am_u2 L 36 37 (nI (n + 1))) 45 n (nI (jx c))) 46 n (nI 0)) 47 n (nI 0)) 46 := by
        show K 12 = am_u2 (am_u2 (am_u2 L 36 37 (nI (n + 1))) 45 n (nI (jx c))) 46 n (nI 0) 46
        funext j
        by_cases e : j = n
        · rw [e, am_u2_s, hz0.1]; rfl
        · rw [u2_ne e, h12]; rfl
      have e13 : (am_u2 (am_u2 K 10 5 (nI (n + 1))) 11 n (nI (jx c))) 13 = (am_u2 (am_u2 (am_u2 (am_u2 L 36 37 (nI (n + 1))) 45 n (nI (jx c))) 46 n (nI 0)) 47 n (nI 0)) 47 := by
        show K 13 = am_u2 (am_u2 (am_u2 (am_u2 L 36 37 (nI (n + 1))) 45 n (nI (jx c))) 46 n (nI 0)) 47 n (nI 0) 47
        funext j
        by_cases e : j = n
        · rw [e, am_u2_s, hz0.2]; rfl
        · rw [u2_ne e, h13]; rfl
      have hC2 : rl_C (am_u2 (am_u2 K 10 5 (nI (n + 1))) 11 n (nI (jx c))) (am_u2 (am_u2 (am_u2 (am_u2 L 36 37 (nI (n + 1))) 45 n (nI (jx c))) 46 n (nI 0)) 47 n (nI 0)) := rl_C_cg hC (fun q _ _ => by rw [fr_u (by omega), fr_u (by omega)]) (fun q _ _ => by rw [fr_u (by omega), fr_u (by omega), fr_u (by omega), fr_u (by omega)])
      have e11 : (am_u2 (am_u2 K 10 5 (nI (n + 1))) 11 n (nI (jx c))) 11 = (am_u2 (am_u2 (am_u2 (am_u2 L 36 37 (nI (n + 1))) 45 n (nI (jx c))) 46 n (nI 0)) 47 n (nI 0)) 45 := by
        show am_u2 (am_u2 K 10 5 (nI (n + 1))) 11 n (nI (jx c)) 11 = am_u2 (am_u2 L 36 37 (nI (n + 1))) 45 n (nI (jx c)) 45
        exact u2_eq h11 rfl
      obtain ⟨f12, f13, f14, fb, fj, _⟩ := rl_follow hT2 hC2 e11 e12 e13 h14 hb n
      refine ⟨rl_C_cg hC2 (fun q _ _ => fr_I_touch q (by omega)) (fun q _ _ => fr_R_follow q (by omega)), ?_, f12, f13, f14, ?_, ?_, fb, fun j hj => ?_⟩
      · rw [fr_I_touch 11 (by omega), fr_R_follow 45 (by omega)]; exact e11
      · rw [fr_I_touch 10 (by omega), fr_R_follow 36 (by omega)]
        show am_u2 K 10 5 (nI (n + 1)) 10 5 = am_u2 L 36 37 (nI (n + 1)) 36 37
        rw [am_u2_s, am_u2_s]
      · rw [fr_I_touch 10 (by omega), fr_R_follow 73 (by omega)]
        show am_u2 K 10 5 (nI (n + 1)) 10 6 = L 73 7
        rw [u2_ne (by decide)]; exact h6
      · have e6 : jn (I_touch (am_u2 (am_u2 K 10 5 (nI (n + 1))) 11 n (nI (jx c))) n).2 10 5 = n + 1 := by
          unfold jn; rw [fr_I_touch 10 (by omega)]
          show (am_u2 K 10 5 (nI (n + 1)) 10 5).toNatClampNeg = _
          rw [am_u2_s]; exact nI_clamp (by omega)
        rw [e6] at hj
        have g := fj j (by omega)
        have g3 := hz j (by omega)
        exact ⟨g.1.trans g3.1, g.2.trans g3.2⟩
  · rw [am_ite_f z2, am_ite_f z2]; exact ⟨rfl, hC, hI⟩
