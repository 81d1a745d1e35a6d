/-! Slots read and written in a step: values and errors. -/
theorem i64_i (x : Int32) : x.toInt64.toInt = x.toInt := Int32.toInt_toInt64 x
theorem i64_le {x : Int32} {b : Int64} (hb : 2147483647 ≤ b.toInt) : lg_cmp x.toInt64 b ≤ 0 := by
  rw [lg_cmp_le, Int64.le_iff_toInt_le, i64_i]
  have := Int32.toInt_lt x
  omega
theorem ioe_i {K : Nat → Nat → Int32} {x : Int32} : M_ioe K x.toInt64 = (x, K) := by
  unfold M_ioe w_err
  rw [am_ite_t (i64_le (by decide)), am_ite_f (fun q => q), Int32.toInt32_toInt64]
theorem ioe_e {K : Nat → Nat → Int32} {er : Int32} (h : er = -6 ∨ er = -7) : M_ioe K ((Int64.ofInt 1099511627776) + er.toInt64) = (nI 0, am_u2 K 33 11 er) := by
  unfold M_ioe w_err
  rcases h with rfl | rfl
  · rw [am_ite_f (show ¬ lg_cmp (Int64.ofInt 1099511627776 + Int32.toInt64 (-6)) (Int64.ofInt 2147483647) ≤ 0 by decide), am_ite_t True.intro]
    rw [show (Int64.ofInt 1099511627776 + Int32.toInt64 (-6) - Int64.ofInt 1099511627776).toInt32 = -6 by decide]
  · rw [am_ite_f (show ¬ lg_cmp (Int64.ofInt 1099511627776 + Int32.toInt64 (-7)) (Int64.ofInt 2147483647) ≤ 0 by decide), am_ite_t True.intro]
    rw [show (Int64.ofInt 1099511627776 + Int32.toInt64 (-7) - Int64.ofInt 1099511627776).toInt32 = -7 by decide]
theorem e64_big {er : Int32} (h : er = -6 ∨ er = -7) : ¬ lg_cmp ((Int64.ofInt 1099511627776) + er.toInt64) (Int64.ofInt 549755813888) ≤ 0 ∧ ¬ lg_cmp ((Int64.ofInt 1099511627776) + er.toInt64) (Int64.ofInt 1) = 0 := by
  rcases h with rfl | rfl <;> decide
/-- the instance and the name are right -/
theorem I_there_n {K : Nat → Nat → Int32} (hK : am_ty2 K) {i : Nat} (hi : i < jn K 10 5) : I_there K (nI i) := by
  have b := ty_f hK (q := 10) (j := 5) (B := 13) (by decide) (by decide)
  unfold I_there
  rw [w_in_iff, pk_sub_toInt (by omega) (by decide), nI_toInt (show i < 2 ^ 31 by omega), nI_toInt (show 0 < 2 ^ 31 by decide)]
  omega
theorem ref_0 {K : Nat → Nat → Int32} (hK : am_ty2 K) {i nm : Nat} (hi : i < jn K 10 5) (hn : nm < 6) : D_ref K (nI i) (nI nm) = 0 := by
  unfold D_ref
  rw [am_ite_t (I_there_n hK hi), am_ite_t (show w_name (nI nm) from w_in_nI (k := 5) (by omega) (by decide))]
  rfl
theorem get_r {K : Nat → Nat → Int32} (hK : am_ty2 K) {i nm : Nat} (hi : i < jn K 10 5) (hn : nm < 6) : D_get K (nI i) (nI nm) = I_read K i nm := by
  have b := ty_f hK (q := 10) (j := 5) (B := 13) (by decide) (by decide)
  unfold D_get
  rw [am_ite_t (ref_0 hK hi hn), jx_nI (by omega), jx_nI (by omega)]
theorem put_r {K : Nat → Nat → Int32} (hK : am_ty2 K) {i nm : Nat} {v : Int32} (hi : i < jn K 10 5) (hn : nm < 6) : D_put K (nI i) (nI nm) v = I_write K i nm v := by
  have b := ty_f hK (q := 10) (j := 5) (B := 13) (by decide) (by decide)
  unfold D_put
  rw [am_ite_t (ref_0 hK hi hn), jx_nI (by omega), jx_nI (by omega)]
theorem itp {α : Type} {p : Prop} {A B : α} (P : α → Prop) (ha : p → P A) (hb : ¬ p → P B) : P (am_ite p A B) := by
  by_cases z : p
  · rw [am_ite_t z]; exact ha z
  · rw [am_ite_f z]; exact hb z
theorem t1_10 {K : Nat → Nat → Int32} {i : Nat} : I_t1 K i 10 5 = K 10 5 ∧ ∀ q, ¬ (10 ≤ q ∧ q ≤ 14) → I_t1 K i q = K q := by
  unfold I_t1
  refine ⟨by rw [u2_ne (by decide), fr_I_touch 10 (by decide)], fun q hq => by rw [fr_u (by omega), fr_I_touch q (by omega)]⟩
theorem read_2 {K : Nat → Nat → Int32} {i nm : Nat} : (I_read K i nm).2 = I_t1 K i := by
  unfold I_read
  exact itp (fun x : Int64 × (Nat → Nat → Int32) => x.2 = I_t1 K i) (fun _ => rfl) (fun _ => itp (fun x : Int64 × (Nat → Nat → Int32) => x.2 = I_t1 K i) (fun _ => rfl) (fun _ => itp (fun x : Int64 × (Nat → Nat → Int32) => x.2 = I_t1 K i) (fun _ => rfl) (fun _ => rfl)))
theorem write_2 {K : Nat → Nat → Int32} {i nm : Nat} {v : Int32} : (I_write K i nm v).2 10 5 = K 10 5 ∧ ∀ q, ¬ q = 7 → ¬ (10 ≤ q ∧ q ≤ 14) → (I_write K i nm v).2 q = K q := by
  refine ⟨?_, fun q a b => fr_I_write q (by omega)⟩
  unfold I_write
  refine itp (fun x : Int64 × (Nat → Nat → Int32) => x.2 10 5 = K 10 5) (fun _ => (t1_10 (K := K) (i := i)).1) (fun _ => itp (fun x : Int64 × (Nat → Nat → Int32) => x.2 10 5 = K 10 5) (fun _ => ?_) (fun _ => ?_))
  · exact (congrFun (fr_C_setInt (J := I_t1 K i) (c := jx (C_holder (am_u2 (I_touch K i).2 10 6 (K 10 6 + (I_touch K i).1)) (jn (I_touch K i).2 11 i) nm)) (nm := nm) (v := v) 10 (by decide)) 5).trans t1_10.1
  · show I_setVal (I_t1 K i) i nm v 10 5 = K 10 5
    rw [fr_I_setVal 10 (by decide)]; exact t1_10.1
/-- touching leaves most of the reference alone -/
theorem R_tch {L : Nat → Nat → Int32} {i : Nat} : (∀ q, ¬ (46 ≤ q ∧ q ≤ 48) → ¬ q = 73 → R_touch L i q = L q) ∧ ∀ j, ¬ j = 7 → R_touch L i 73 j = L 73 j := ⟨fun q a b => fr_R_touch q (by omega), fun j hj => by rw [R_touch_73, u2_ne hj]⟩
theorem R_get_v {L : Nat → Nat → Int32} {i nm : Nat} (hi : R_inst L (nI i)) (h12 : i < 12) (hn : nm < 6) : (∃ x : Int32, R_get L (nI i) (nI nm) = (x.toInt64, R_touch L i)) ∨ ∃ er : Int32, (er = -6 ∨ er = -7) ∧ R_get L (nI i) (nI nm) = ((Int64.ofInt 1099511627776) + er.toInt64, am_u2 (R_touch L i) 36 40 er) := by
  have e : R_reach L (nI i) (nI nm) = am_ite (0 ≤ (R_slotOf (R_touch L i) (jn (R_touch L i) 45 i) nm)) ((nI (jx (R_slotOf (R_touch L i) (jn (R_touch L i) 45 i) nm))), R_touch L i) ((-6), R_touch L i) := by
    unfold R_reach
    rw [am_ite_t hi, am_ite_t (show r_is (nI nm) (nI 0) (nI 5) from w_in_nI (k := 5) (by omega) (by decide)), jx_nI (by omega), jx_nI (by omega)]
  unfold R_get
  rw [e]
  by_cases z : 0 ≤ (R_slotOf (R_touch L i) (jn (R_touch L i) 45 i) nm)
  · rw [am_ite_t z]
    refine itp (fun x => (∃ y : Int32, x = (y.toInt64, R_touch L i)) ∨ ∃ er : Int32, (er = -6 ∨ er = -7) ∧ x = ((Int64.ofInt 1099511627776) + er.toInt64, am_u2 (R_touch L i) 36 40 er)) (fun _ => ?_) (fun y => absurd (show 0 ≤ nI (jx (R_slotOf (R_touch L i) (jn (R_touch L i) 45 i) nm)) from ?_) y)
    · refine itp (fun x => (∃ y : Int32, x = (y.toInt64, R_touch L i)) ∨ ∃ er : Int32, (er = -6 ∨ er = -7) ∧ x = ((Int64.ofInt 1099511627776) + er.toInt64, am_u2 (R_touch L i) 36 40 er)) (fun _ => Or.inl ⟨_, rfl⟩) (fun _ => ?_)
      exact itp (fun x => (∃ y : Int32, x = (y.toInt64, R_touch L i)) ∨ ∃ er : Int32, (er = -6 ∨ er = -7) ∧ x = ((Int64.ofInt 1099511627776) + er.toInt64, am_u2 (R_touch L i) 36 40 er)) (fun _ => Or.inl ⟨_, rfl⟩) (fun _ => Or.inr ⟨-7, Or.inr rfl, rfl⟩)
    · have g : R_slotOf (R_touch L i) (jn (R_touch L i) 45 i) nm = nI (jx (R_slotOf (R_touch L i) (jn (R_touch L i) 45 i) nm)) := by
        obtain ⟨j, hj, ej⟩ := nI_of (show ¬ R_slotOf (R_touch L i) (jn (R_touch L i) 45 i) nm < 0 from fun q => by
          rw [Int32.le_iff_toInt_le] at z
          rw [Int32.lt_iff_toInt_lt] at q
          omega)
        rw [ej, jx_nI hj]
      rw [← g]
      exact z
  · rw [am_ite_f z]
    exact Or.inr ⟨-6, Or.inl rfl, by rw [am_ite_f (show ¬ (0 : Int32) ≤ (-6 : Int32) by decide)]; rfl⟩
theorem R_put_v {L : Nat → Nat → Int32} {i nm : Nat} {v : Int32} (hi : R_inst L (nI i)) (h12 : i < 12) (hn : nm < 6) : (∃ T, R_put L (nI i) (nI nm) v = (Int64.ofInt 1, T) ∧ ((∃ s, T = am_u2 (R_touch L i) 44 s v) ∨ ∃ s b, T = am_u2 (am_u2 (R_touch L i) 48 s v) 47 i b)) ∨ R_put L (nI i) (nI nm) v = ((Int64.ofInt 1099511627776) + (-6 : Int32).toInt64, am_u2 (R_touch L i) 36 40 (-6)) := by
  have e : R_reach L (nI i) (nI nm) = am_ite (0 ≤ (R_slotOf (R_touch L i) (jn (R_touch L i) 45 i) nm)) ((nI (jx (R_slotOf (R_touch L i) (jn (R_touch L i) 45 i) nm))), R_touch L i) ((-6), R_touch L i) := by
    unfold R_reach
    rw [am_ite_t hi, am_ite_t (show r_is (nI nm) (nI 0) (nI 5) from w_in_nI (k := 5) (by omega) (by decide)), jx_nI (by omega), jx_nI (by omega)]
  unfold R_put
  rw [e]
  by_cases z : 0 ≤ (R_slotOf (R_touch L i) (jn (R_touch L i) 45 i) nm)
  · rw [am_ite_t z]
    have g : R_slotOf (R_touch L i) (jn (R_touch L i) 45 i) nm = nI (jx (R_slotOf (R_touch L i) (jn (R_touch L i) 45 i) nm)) := by
      obtain ⟨j, hj, ej⟩ := nI_of (show ¬ R_slotOf (R_touch L i) (jn (R_touch L i) 45 i) nm < 0 from fun q => by
        rw [Int32.le_iff_toInt_le] at z
        rw [Int32.lt_iff_toInt_lt] at q
        omega)
      rw [ej, jx_nI hj]
    rw [am_ite_t (show 0 ≤ nI (jx (R_slotOf (R_touch L i) (jn (R_touch L i) 45 i) nm)) by rw [← g]; exact z)]
    refine Or.inl (itp (fun x => ∃ T, x = (Int64.ofInt 1, T) ∧ ((∃ s, T = am_u2 (R_touch L i) 44 s v) ∨ ∃ s b, T = am_u2 (am_u2 (R_touch L i) 48 s v) 47 i b)) (fun _ => ⟨_, rfl, Or.inl ⟨_, rfl⟩⟩) (fun _ => ⟨_, rfl, Or.inr ⟨6 * jx (nI i) + jx (nI nm), (R_touch L i 47 i) ||| ((nI 1) <<< ((nI (jx (nI nm))) &&& 31)), ?_⟩⟩))
    rw [show jx (nI i) = i from jx_nI (by omega)]
  · rw [am_ite_f z]
    exact Or.inr (by rw [am_ite_f (show ¬ (0 : Int32) ≤ (-6 : Int32) by decide)]; rfl)
