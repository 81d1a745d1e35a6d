/-! The class: which BODY is innermost. -/
theorem r_aretN {d : am_D} {mi pc nx : Nat} {L : am_L} {h : am_H} {Q : Option Value → am_H → Prop} {C : String} (hat : am_at mi pc = some (.areturn, nx)) (hr : am_rt mi = some (.object C)) (q : Q (some .null) h) : am_wp d mi pc L [.null] h Q := wp_ret hat rfl (by rw [hr]; rfl) q
set_option maxRecDepth 20000 in
theorem s_inn0 {d : am_D} {h : am_H} {J : Nat → Nat → Int32} (hB : am_B h) (hT : am_ty2 J) (z : jn J 33 9 = 0) : am_wp d 145 0 [some (.ref 33)] [] (am_si h J) (fun r h' => r = some .null ∧ h' = am_si h J) := by
  refine r_aload k145_0 rfl ?_
  have b1 := ty_f hT (q := 33) (j := 9) (B := 193) (by decide) (by decide)
  refine j_get (j := 9) (v := (nI (jn J 33 9))) k145_1 hB rfl (b1.1) ?_
  refine r_ifleN (by omega) k145_4 (fun z4 => ?_) (fun z4 => absurd z z4)
  refine r_null k145_21 ?_
  exact r_aretN k145_22 rfl ⟨rfl, rfl⟩
set_option maxRecDepth 20000 in
theorem s_inn1 {d : am_D} {h : am_H} {J : Nat → Nat → Int32} (hB : am_B h) (hT : am_ty2 J) (f : Nat) (z : ¬ jn J 33 9 = 0) (hp : am_P h 35 (jn J 33 9 - 1) = some f) : am_wp d 145 0 [some (.ref 33)] [] (am_si h J) (fun r h' => r = some (.ref f) ∧ h' = am_si h J) := by
  refine r_aload k145_0 rfl ?_
  have b1 := ty_f hT (q := 33) (j := 9) (B := 193) (by decide) (by decide)
  refine j_get (j := 9) (v := (nI (jn J 33 9))) k145_1 hB rfl (b1.1) ?_
  refine r_ifleN (by omega) k145_4 (fun z4 => absurd z4 z) (fun z4 => ?_)
  refine r_aload k145_7 rfl ?_
  refine j_ref (b := 35) k145_8 hB rfl ?_
  refine r_aload k145_11 rfl ?_
  refine j_get (j := 9) (v := (nI (jn J 33 9))) k145_12 hB rfl (b1.1) ?_
  refine r_pushn (v := nI 1) k145_15 rfl ?_
  refine r_isubN (by omega) k145_16 ?_
  refine v_aal (n := 192) (j := ((jn J 33 9) - 1)) (b := f) k145_17 hB rfl rfl (by omega) hp ?_
  refine r_goto k145_18 ?_
  exact r_aret k145_22 rfl ⟨rfl, rfl⟩
set_option maxRecDepth 20000 in
/-- whatever stands there -/
theorem s_innA {d : am_D} {h : am_H} {J : Nat → Nat → Int32} (hB : am_B h) (hT : am_ty2 J) : am_wp d 145 0 [some (.ref 33)] [] (am_si h J) (fun r h' => ((∃ f, r = some (.ref f)) ∨ r = some .null) ∧ h' = am_si h J) := by
  by_cases z : jn J 33 9 = 0
  · exact wp_mono (s_inn0 hB hT z) (fun r h' q => ⟨Or.inr q.1, q.2⟩)
  · cases hp : am_P h 35 (jn J 33 9 - 1) with
    | some f => exact wp_mono (s_inn1 hB hT f z hp) (fun r h' q => ⟨Or.inl ⟨f, q.1⟩, q.2⟩)
    | none =>
      refine r_aload k145_0 rfl ?_
      have b1 := ty_f hT (q := 33) (j := 9) (B := 193) (by decide) (by decide)
      refine j_get (j := 9) (v := (nI (jn J 33 9))) k145_1 hB rfl (b1.1) ?_
      refine r_ifleN (by omega) k145_4 (fun z4 => absurd z4 z) (fun z4 => ?_)
      refine r_aload k145_7 rfl ?_
      refine j_ref (b := 35) k145_8 hB rfl ?_
      refine r_aload k145_11 rfl ?_
      refine j_get (j := 9) (v := (nI (jn J 33 9))) k145_12 hB rfl (b1.1) ?_
      refine r_pushn (v := nI 1) k145_15 rfl ?_
      refine r_isubN (by omega) k145_16 ?_
      refine v_aalN (n := 192) (j := ((jn J 33 9) - 1)) k145_17 hB rfl rfl (by omega) hp ?_
      refine r_goto k145_18 ?_
      exact r_aretN k145_22 rfl ⟨Or.inr rfl, rfl⟩
