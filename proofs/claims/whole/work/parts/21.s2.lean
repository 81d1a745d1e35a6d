/-! Classes: reads. -/
theorem s_C_total {d : am_D} {h : am_H} {J : Nat → Nat → Int32} (hB : am_B h) : am_wp d 84 0 [some (.ref 2)] [] (am_si h J) (fun r h' => r = some (.int (J 2 5)) ∧ h' = am_si h J) := by
  refine r_aload k84_0 rfl ?_
  refine j_get (v := (J 2 5)) k84_1 hB rfl rfl ?_
  exact r_iret k84_4 rfl ⟨rfl, rfl⟩
/-- class c is there -/
def c_th (J : Nat → Nat → Int32) (c : Int32) : Prop := ∃ n, n < 12 ∧ c = nI n ∧ 0 < J 5 n
theorem s_C_isThere {d : am_D} {h : am_H} {J : Nat → Nat → Int32} (hB : am_B h) (c : Int32) (hd : 1 ≤ d.1) (hw : 22 ≤ d.2) : am_wp d 85 0 [some (.ref 2), some (.int (c))] [] (am_si h J) (fun r h' => r = some (.int (am_b (c_th J c))) ∧ h' = am_si h J) := by
  refine r_iload k85_0 rfl ?_
  refine r_pushn (v := nI 0) k85_1 rfl ?_
  refine r_pushn (v := nI 11) k85_2 rfl ?_
  refine j_call (ml := 3) k85_4 rfl (show 0 < d.1 by omega) (show 19 + 3 ≤ d.2 by omega) ⟨Nat.le_of_ble_eq_true rfl, Nat.le_of_ble_eq_true rfl, True.intro, Nat.le_of_ble_eq_true rfl⟩ rfl rfl (s_isWithin c (nI 0) (nI 11)) (fun r h1 hq => ?_)
  obtain ⟨rfl, rfl⟩ := hq
  refine r_ifeqB k85_7 (fun z7 => ?_) (fun z7 => ?_)
  · refine r_pushn (v := nI 0) k85_23 rfl ?_
    refine r_zret k85_24 rfl (by decide) ⟨?_, rfl⟩
    rw [am_b_f (fun q => ?_)]; rfl
    obtain ⟨n9, h1, h2, h3⟩ := q
    first | (subst h2; exact z7 (am_rng_of (by omega) (by decide))) | (have e := (nI_eq (by omega) (by omega)).mp h2; subst e; exact absurd z16 (Int32.not_le.mpr h3))
  · obtain ⟨n, hn, rfl⟩ := am_rng (by decide) z7
    refine r_aload k85_10 rfl ?_
    refine j_ref (b := 5) k85_11 hB rfl ?_
    refine r_iload k85_14 rfl ?_
    refine j_ald (n := 12) (j := n) (v := (J 5 n)) k85_15 hB rfl rfl (by omega) rfl ?_
    refine r_ifle k85_16 (fun z16 => ?_) (fun z16 => ?_)
    · refine r_pushn (v := nI 0) k85_23 rfl ?_
      refine r_zret k85_24 rfl (by decide) ⟨?_, rfl⟩
      rw [am_b_f (fun q => ?_)]; rfl
      obtain ⟨n9, h1, h2, h3⟩ := q
      first | (subst h2; exact z7 (am_rng_of (by omega) (by decide))) | (have e := (nI_eq (by omega) (by omega)).mp h2; subst e; exact absurd z16 (Int32.not_le.mpr h3))
    · refine r_pushn (v := nI 1) k85_19 rfl ?_
      refine r_goto k85_20 ?_
      exact r_zret k85_24 rfl (by decide) ⟨by rw [am_b_t ⟨n, by omega, rfl, Classical.byContradiction (fun q => z16 (by rw [Int32.not_lt] at q; exact q))⟩]; rfl, rfl⟩
/-- where d stands in the row of class c, of length n -/
noncomputable def c_pl (J : Nat → Nat → Int32) (c n : Nat) (dd : Int32) (k m : Nat) : Option Nat := am_se (fun k => J 4 (c * 12 + k) = dd) m k
theorem l_C_placeOf {d : am_D} {Q : Option Value → am_H → Prop} {h : am_H} {J : Nat → Nat → Int32} (hB : am_B h) {c n : Nat} {dd : Int32} (hc : c < 12) (hn : n ≤ 12) (hl : J 5 c = nI n) : ∀ m k, k + m = n → Q (some (.int (am_oi (c_pl J c n dd k m)))) (am_si h J) → am_wp d 99 2 [some (.ref 2), some (.int (nI (c))), some (.int (dd)), some (.int (nI (k)))] [] (am_si h J) Q := by
  intro m
  induction m using Nat.strongRecOn with
  | ind m ih =>
    intro k hk HQ
    unfold c_pl at HQ ih
    refine r_iload k99_2 rfl ?_
    refine r_aload k99_3 rfl ?_
    refine j_ref (b := 5) k99_4 hB rfl ?_
    refine r_iload k99_7 rfl ?_
    refine j_ald (n := 12) (j := c) (v := (nI n)) k99_8 hB rfl rfl (by omega) hl ?_
    refine r_icmpgeN (by omega) (by omega) k99_9 (fun z9 => ?_) (fun z9 => ?_)
    · refine r_pushn (v := -1) k99_35 rfl ?_
      refine r_iret k99_36 rfl ?_
      obtain rfl : m = 0 := by omega
      exact HQ
    · refine r_aload k99_12 rfl ?_
      refine j_ref (b := 4) k99_13 hB rfl ?_
      refine r_iload k99_16 rfl ?_
      refine r_pushn (v := nI 12) k99_17 rfl ?_
      refine r_imulN k99_19 ?_
      refine r_iload k99_20 rfl ?_
      refine r_iaddN k99_21 ?_
      refine j_ald (n := 144) (j := ((c * 12) + k)) (v := (J 4 (((c * 12) + k)))) k99_22 hB rfl rfl (by omega) rfl ?_
      refine r_iload k99_23 rfl ?_
      refine r_icmpne k99_24 (fun z24 => ?_) (fun z24 => ?_)
      · refine r_iinc (v := (nI (k + 1))) (L' := [some (.ref 2), some (.int (nI (c))), some (.int (dd)), some (.int (nI (k + 1)))]) k99_29 rfl (Nat.le_of_ble_eq_true rfl) (nI_1 _) rfl ?_
        refine r_goto k99_32 ?_
        obtain ⟨m, rfl⟩ : ∃ m', m = m' + 1 := ⟨m - 1, by omega⟩
        rw [am_se_f (p := fun k => J 4 (c * 12 + k) = dd) z24] at HQ
        exact ih m (by omega) (k + 1) (by omega) HQ
      · refine r_iload k99_27 rfl ?_
        refine r_iret k99_28 rfl ?_
        obtain ⟨m, rfl⟩ : ∃ m', m = m' + 1 := ⟨m - 1, by omega⟩
        rw [am_se_t (p := fun k => J 4 (c * 12 + k) = dd) z24] at HQ
        exact HQ
theorem s_C_placeOf {d : am_D} {h : am_H} {J : Nat → Nat → Int32} (hB : am_B h) {c n : Nat} {dd : Int32} (hc : c < 12) (hn : n ≤ 12) (hl : J 5 c = nI n) : am_wp d 99 0 [some (.ref 2), some (.int (nI (c))), some (.int (dd)), none] [] (am_si h J) (fun r h' => r = some (.int (am_oi (c_pl J c n dd 0 n))) ∧ h' = am_si h J) := by
  refine r_pushn (v := nI 0) k99_0 rfl ?_
  refine r_istore (L' := [some (.ref 2), some (.int (nI (c))), some (.int (dd)), some (.int (nI 0))]) k99_1 (Nat.le_of_ble_eq_true rfl) rfl ?_
  exact l_C_placeOf hB hc hn hl n 0 (by omega) ⟨rfl, rfl⟩
