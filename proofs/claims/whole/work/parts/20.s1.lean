/-! Leaf methods of the class. -/
theorem s_isWithin {d : am_D} {h : am_H} (n lo hi : Int32) : am_wp d 27 0 [some (.int (n)), some (.int (lo)), some (.int (hi))] [] h (fun r h' => r = some (.int (am_b (lo.toInt ≤ n.toInt ∧ n.toInt ≤ hi.toInt))) ∧ h' = h) := by
  refine r_iload k27_0 rfl ?_
  refine r_iload k27_1 rfl ?_
  refine r_icmplt k27_2 (fun z2 => ?_) (fun z2 => ?_)
  · refine r_pushn (v := nI 0) k27_14 rfl ?_
    refine r_zret k27_15 rfl (by decide) ⟨?_, rfl⟩
    rw [am_b_f (by simp only [Int32.lt_iff_toInt_lt] at *; omega)]; rfl
  · refine r_iload k27_5 rfl ?_
    refine r_iload k27_6 rfl ?_
    refine r_icmpgt k27_7 (fun z7 => ?_) (fun z7 => ?_)
    · refine r_pushn (v := nI 0) k27_14 rfl ?_
      refine r_zret k27_15 rfl (by decide) ⟨?_, rfl⟩
      rw [am_b_f (by simp only [Int32.lt_iff_toInt_lt] at *; omega)]; rfl
    · refine r_pushn (v := nI 1) k27_10 rfl ?_
      refine r_goto k27_11 ?_
      refine r_zret k27_15 rfl (by decide) ⟨?_, rfl⟩
      rw [am_b_t (by simp only [Int32.lt_iff_toInt_lt] at *; omega)]; rfl
theorem s_isName {d : am_D} {h : am_H} (n : Int32) (hd : 1 ≤ d.1) (hw : 22 ≤ d.2) : am_wp d 24 0 [some (.int (n))] [] h (fun r h' => r = some (.int (am_b (0 ≤ n.toInt ∧ n.toInt ≤ 5))) ∧ h' = h) := by
  refine r_iload k24_0 rfl ?_
  refine r_pushn (v := nI 0) k24_1 rfl ?_
  refine r_pushn (v := nI 5) k24_2 rfl ?_
  refine j_call (ml := 3) k24_3 rfl (show 0 < d.1 by omega) (show 19 + 3 ≤ d.2 by omega) ⟨Nat.le_of_ble_eq_true rfl, Nat.le_of_ble_eq_true rfl, True.intro, Nat.le_of_ble_eq_true rfl⟩ rfl rfl (s_isWithin n (nI 0) (nI 5)) (fun r h1 hq => ?_)
  obtain ⟨rfl, rfl⟩ := hq
  exact r_zret k24_6 rfl am_b_1 ⟨rfl, rfl⟩
theorem s_isGeneric {d : am_D} {h : am_H} (n : Int32) (hd : 1 ≤ d.1) (hw : 22 ≤ d.2) : am_wp d 25 0 [some (.int (n))] [] h (fun r h' => r = some (.int (am_b (0 ≤ n.toInt ∧ n.toInt ≤ 4))) ∧ h' = h) := by
  refine r_iload k25_0 rfl ?_
  refine r_pushn (v := nI 0) k25_1 rfl ?_
  refine r_pushn (v := nI 4) k25_2 rfl ?_
  refine j_call (ml := 3) k25_3 rfl (show 0 < d.1 by omega) (show 19 + 3 ≤ d.2 by omega) ⟨Nat.le_of_ble_eq_true rfl, Nat.le_of_ble_eq_true rfl, True.intro, Nat.le_of_ble_eq_true rfl⟩ rfl rfl (s_isWithin n (nI 0) (nI 4)) (fun r h1 hq => ?_)
  obtain ⟨rfl, rfl⟩ := hq
  exact r_zret k25_6 rfl am_b_1 ⟨rfl, rfl⟩
theorem s_isBody {d : am_D} {h : am_H} (n : Int32) (hd : 1 ≤ d.1) (hw : 22 ≤ d.2) : am_wp d 26 0 [some (.int (n))] [] h (fun r h' => r = some (.int (am_b (0 ≤ n.toInt ∧ n.toInt ≤ 7))) ∧ h' = h) := by
  refine r_iload k26_0 rfl ?_
  refine r_pushn (v := nI 0) k26_1 rfl ?_
  refine r_pushn (v := nI 7) k26_2 rfl ?_
  refine j_call (ml := 3) k26_4 rfl (show 0 < d.1 by omega) (show 19 + 3 ≤ d.2 by omega) ⟨Nat.le_of_ble_eq_true rfl, Nat.le_of_ble_eq_true rfl, True.intro, Nat.le_of_ble_eq_true rfl⟩ rfl rfl (s_isWithin n (nI 0) (nI 7)) (fun r h1 hq => ?_)
  obtain ⟨rfl, rfl⟩ := hq
  exact r_zret k26_7 rfl am_b_1 ⟨rfl, rfl⟩
