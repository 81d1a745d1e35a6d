/-! The law's loop. -/
theorem len_lt {n j : Nat} (hn : n ≤ 3072) (hj : j ≤ 4000) : nI n - nI 6 < nI j ↔ n < j + 6 := by
  by_cases z : 6 ≤ n
  · rw [pk_sub z, nI_ltI (by omega) (by omega)]
    omega
  · have c : n = 0 ∨ n = 1 ∨ n = 2 ∨ n = 3 ∨ n = 4 ∨ n = 5 := by omega
    have neg : nI n - nI 6 < 0 := by
      rcases c with rfl | rfl | rfl | rfl | rfl | rfl <;> decide
    refine ⟨fun _ => by omega, fun _ => ?_⟩
    have p := nI_pos' (show j < 2 ^ 31 by omega)
    rw [Int32.lt_iff_toInt_lt] at neg ⊢
    rw [Int32.le_iff_toInt_le] at p
    omega
theorem law_lp {n : Nat} (hn : n ≤ 3072) {Q : Option Value → am_H → Prop} (fin : ∀ h K, am_R h → Q (some (.int 1)) (am_si h K)) : ∀ m k h K nn cc, n ≤ 6 * k + m → 6 * k ≤ n + 6 → Inv h K nn cc → cc ≤ 2 * k → nn ≤ 42200 * k → am_vh (am_si h K) → (am_sh h 0).2.2 = n → am_wp (11, 434) 0 18 [some (.ref 0), some (.ref 1), some (.ref 36), some (.int (nI (6 * k)))] [] (am_si h K) Q := by
  have exit : ∀ k h K, am_R h → am_wp (11, 434) 0 774 [some (.ref 0), some (.ref 1), some (.ref 36), some (.int (nI (6 * k)))] [] (am_si h K) Q := fun k h K hR => by
    refine r_pushn (v := 1) k0_774 rfl ?_
    exact r_zret k0_775 rfl (by decide) (fin h K hR)
  have head : ∀ k h K nn cc, 6 * k ≤ n + 6 → Inv h K nn cc → (am_sh h 0).2.2 = n → (6 * k + 5 < n → am_wp (11, 434) 0 27 [some (.ref 0), some (.ref 1), some (.ref 36), some (.int (nI (6 * k)))] [] (am_si h K) Q) → am_wp (11, 434) 0 18 [some (.ref 0), some (.ref 1), some (.ref 36), some (.int (nI (6 * k)))] [] (am_si h K) Q := fun k h K nn cc hk hI hs go => by
    obtain ⟨lab, F, V, ev⟩ := hI
    refine r_iload k0_18 rfl ?_
    refine r_aload k0_19 rfl ?_
    refine r_slen k0_20 ?_
    rw [show (am_sh (am_si h K) 0).2.2 = n from hs]
    refine r_pushn (v := nI 6) k0_21 rfl ?_
    refine r_isub k0_23 ?_
    refine r_icmpgt k0_24 (fun _ => exit k h K F.2.1.2.2.2.1) (fun z => go ?_)
    have z' : ¬ nI n - nI 6 < nI (6 * k) := z
    rw [len_lt hn (by omega)] at z'
    omega
  intro m
  induction m with
  | zero =>
    intro k h K nn cc h1 h2 hI hc hb hv hs
    exact head k h K nn cc h2 hI hs (fun z => by omega)
  | succ m ih =>
    intro k h K nn cc h1 h2 hI hc hb hv hs
    refine head k h K nn cc h2 hI hs (fun z => ?_)
    refine r_aload k0_27 rfl ?_
    refine r_iload k0_28 rfl ?_
    refine r_sld (j := 6 * k) (n := n) k0_29 hs rfl (by omega) (by omega) ?_
    refine r_pushn (v := nI 31) k0_30 rfl ?_
    refine r_iand k0_32 ?_
    refine L_disp hI (by omega) (by omega) hv hs z (by omega) (fun h1 L2 nn' nb I2 vh2 hn2 => ?_)
    refine r_iinc (v := nI (6 * (k + 1))) (L' := [some (.ref 0), some (.ref 1), some (.ref 36), some (.int (nI (6 * (k + 1))))]) k0_768 rfl (Nat.le_of_ble_eq_true rfl) ?_ rfl ?_
    · show nI (6 * k) + nI 6 = _
      rw [nI_add]
      rfl
    · refine r_goto k0_771 ?_
      exact ih (k + 1) h1 L2 nn' (cc + 2) (by omega) (by omega) I2 (by omega) (by omega) vh2 hn2
theorem R_room {h : am_H} (hR : am_R h) : am_n h ≤ 600001 ∧ am_sl h ≤ 7302250 := by
  have a := cn_le (p := fun k => ¬ am_P h 23 k = none) 720
  have b := cn_le (p := fun l => ¬ am_P h 34 l = none) 12
  have c := cn_le (p := fun i => ¬ am_P h 35 i = none) 192
  unfold am_R at hR
  omega
