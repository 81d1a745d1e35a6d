/-! The reference: methods and counts. -/
def am_pd : Nat → Int32
  | 0 => -1
  | m + 1 => nI m
theorem am_pd_dec (m : Nat) : nI m + Int32.ofInt (-1) = am_pd m := by
  cases m with
  | zero => decide
  | succ m => exact pk_m1 m
theorem jx_eqL {x : Int32} {lo k : Nat} (hl : lo < 2 ^ 31) (hk : k < 2 ^ 31) (h : w_in x (nI lo) (nI k)) : x = nI (jx x) ∧ jx x ≤ k ∧ lo ≤ jx x := by
  rw [w_in_iff, nI_toInt hl, nI_toInt hk] at h
  have h1 : ¬ x < 0 := fun z => by
    rw [Int32.lt_iff_toInt_lt] at z
    have : (0 : Int32).toInt = 0 := rfl
    omega
  obtain ⟨j, hj, rfl⟩ := nI_of h1
  rw [nI_toInt hj] at h
  rw [jx_nI hj]
  exact ⟨rfl, by omega, by omega⟩
theorem R_spec_r {J : Nat → Nat → Int32} {s : Int32} (h : R_spec J s) : s = nI (jx s) ∧ jx s < 28 ∧ (jx s < 12 ∨ 16 ≤ jx s) := by
  unfold R_spec at h
  by_cases h1 : r_is s (nI 0) (nI 11)
  · have g := jx_eqL (by decide) (by decide) (show w_in _ _ _ from h1)
    exact ⟨g.1, by omega, by omega⟩
  · rw [am_ite_f h1] at h
    by_cases h2 : r_is s (nI 16) (nI 27)
    · have g := jx_eqL (by decide) (by decide) (show w_in _ _ _ from h2)
      exact ⟨g.1, by omega, by omega⟩
    · rw [am_ite_f h2] at h; exact h.elim
theorem R_sl_r {J : Nat → Nat → Int32} (hT : am_ty2 J) {c nm : Nat} (hn : nm < 6) : ∀ m k, R_sl c nm m k J = -1 ∨ ∃ n, n < 72 ∧ R_sl c nm m k J = nI n := by
  intro m
  induction m with
  | zero => intro k; exact Or.inl rfl
  | succ m ih =>
    intro k
    rw [R_sl]
    by_cases h1 : (jn J 43 ((6 * (jn J 39 ((12 * c) + k))) + nm)) = 0
    · rw [am_ite_t h1]; exact ih (k + 1)
    · rw [am_ite_f h1]
      have b := ty_n hT (q := 39) (B := 12) (by decide) (by decide) ((12 * c) + k)
      exact Or.inr ⟨_, by omega, rfl⟩
theorem am_mn {x : Int32} {B : Nat} (hB : B < 5000) (h : x = -1 ∨ ∃ n, n < B ∧ x = nI n) (z : ¬ x = -1) : x = nI (jx x) ∧ jx x < B := by
  rcases h with h | ⟨n, h1, rfl⟩
  · exact absurd h z
  · rw [jx_nI (by omega)]; exact ⟨rfl, h1⟩
theorem R_slotOf_n {J : Nat → Nat → Int32} (hT : am_ty2 J) {c nm : Nat} (hn : nm < 6) (z : ¬ R_slotOf J c nm = -1) : R_slotOf J c nm = nI (jx (R_slotOf J c nm)) ∧ jx (R_slotOf J c nm) < 72 := am_mn (by decide) (R_sl_r hT hn _ _) z
theorem R_slotOf_nl {J : Nat → Nat → Int32} (hT : am_ty2 J) {c nm : Nat} (hn : nm < 6) (z : ¬ R_slotOf J c nm < 0) : R_slotOf J c nm = nI (jx (R_slotOf J c nm)) ∧ jx (R_slotOf J c nm) < 72 := R_slotOf_n hT hn (fun e => z (by rw [e]; decide))
theorem R_slotOf_ng {J : Nat → Nat → Int32} (hT : am_ty2 J) {c nm : Nat} (hn : nm < 6) (z : 0 ≤ R_slotOf J c nm) : R_slotOf J c nm = nI (jx (R_slotOf J c nm)) ∧ jx (R_slotOf J c nm) < 72 := R_slotOf_n hT hn (fun e => by rw [e] at z; exact absurd z (by decide))
noncomputable def R_fg (g : Nat) : Nat → Nat → (Nat → Nat → Int32) → (Nat → Nat → Int32)
  | 0, k, J => (J)
  | m + 1, k, J => (R_fg g m (k + 1) (am_u2 J 58 ((144 * g) + k) (nI 0)))
set_option maxRecDepth 20000 in
theorem l_R_fg {d : am_D} {h : am_H} {Q : Option Value → am_H → Prop} (hB : am_B h) (g : Nat) (hg : g < 5) : ∀ (m k : Nat) (J : Nat → Nat → Int32), am_ty2 J → k + m = 144 → (am_ty2 (R_fg g m k J) → Q none (am_si h (R_fg g m k J))) → am_wp d 50 2 [some (.ref 36), some (.int (nI (g))), some (.int (nI (k)))] [] (am_si h J) Q := by
  intro m
  induction m with
  | zero =>
    intro k J hT hk HQ
    refine r_iload k50_2 rfl ?_
    refine r_pushn (v := nI 144) k50_3 rfl ?_
    refine r_icmpgeN (by omega) (by omega) k50_6 (fun z6 => ?_) (fun z6 => ?_)
    · have e9 : R_fg g 0 k J = (J) := by rw [R_fg]
      rw [e9] at HQ
      exact r_vret k50_28 rfl (HQ hT)
    · exact absurd z6 (by omega)
  | succ m ih =>
    intro k J hT hk HQ
    refine r_iload k50_2 rfl ?_
    refine r_pushn (v := nI 144) k50_3 rfl ?_
    refine r_icmpgeN (by omega) (by omega) k50_6 (fun z6 => ?_) (fun z6 => ?_)
    · exact absurd z6 (by omega)
    · refine r_aload k50_9 rfl ?_
      refine j_ref (b := 58) k50_10 hB rfl ?_
      refine r_pushn (v := nI 144) k50_13 rfl ?_
      refine r_iload k50_16 rfl ?_
      refine r_imulN k50_17 ?_
      refine r_iload k50_18 rfl ?_
      refine r_iaddN k50_19 ?_
      refine r_pushn (v := nI 0) k50_20 rfl ?_
      refine j_zst (n := 720) (j := ((144 * g) + k)) k50_21 hB rfl rfl (by omega) (by decide) ?_
      have hT21 : am_ty2 (am_u2 J 58 ((144 * g) + k) (nI 0)) := ty_w hT (tw_n (B := 2) (by decide) (by decide) (by decide) (by omega))
      refine r_iinc (v := (nI (k + 1))) (L' := [some (.ref 36), some (.int (nI (g))), some (.int (nI (k + 1)))]) k50_22 rfl (Nat.le_of_ble_eq_true rfl) (nI_1 _) rfl ?_
      refine r_goto k50_25 ?_
      have e9 : R_fg g (m + 1) k J = R_fg g m (k + 1) (am_u2 J 58 ((144 * g) + k) (nI 0)) := by rw [R_fg]
      rw [e9] at HQ
      exact ih (k + 1) (am_u2 J 58 ((144 * g) + k) (nI 0)) hT21 (by omega) HQ
theorem fl_R_fg {g : Nat} (q : Nat) (hq : ¬ q = 58) : ∀ (m k : Nat) (J : Nat → Nat → Int32), (R_fg g m k J) q = J q := by
  intro m
  induction m with
  | zero =>
    intro k J
    rw [R_fg]
    first | done | exact rfl
  | succ m ih =>
    intro k J
    rw [R_fg]
    first | done | exact (ih (k + 1) (am_u2 J 58 ((144 * g) + k) (nI 0))).trans (fr_u (by omega))
noncomputable def R_forget (J : Nat → Nat → Int32) (g : Nat) : (Nat → Nat → Int32) := (R_fg g 144 0 J)
set_option maxRecDepth 20000 in
theorem s_R_forget {d : am_D} {h : am_H} {J : Nat → Nat → Int32} (hB : am_B h) (hT : am_ty2 J) (g : Nat) (hg : g < 5) : am_wp d 50 0 [some (.ref 36), some (.int (nI (g))), none] [] (am_si h J) (fun r h' => r = none ∧ h' = am_si h (R_forget J g) ∧ am_ty2 (R_forget J g)) := by
  refine r_pushn (v := nI 0) k50_0 rfl ?_
  refine r_istore (L' := [some (.ref 36), some (.int (nI (g))), some (.int (nI 0))]) k50_1 (Nat.le_of_ble_eq_true rfl) rfl ?_
  have e9 : R_forget J g = (R_fg g 144 0 J) := rfl
  exact (l_R_fg hB g (by omega) 144 0 J hT (by omega) (fun hT9 => ⟨rfl, by rw [e9], by rw [e9]; exact hT9⟩))
theorem fr_R_forget {J : Nat → Nat → Int32} {g : Nat} (q : Nat) (hq : ¬ q = 58) : (R_forget J g) q = J q := by
  unfold R_forget
  exact fl_R_fg q (by omega) _ _ _
noncomputable def R_there (J : Nat → Nat → Int32) (s : Nat) : Prop := (am_ite (12 ≤ s) ((R_inst J ((nI s) - (nI 16)))) (((jn J 37 s) = 1)))
set_option maxRecDepth 20000 in
theorem s_R_there {d : am_D} {h : am_H} {J : Nat → Nat → Int32} (hB : am_B h) (hT : am_ty2 J) (s : Nat) (hs : s < 28) (hd : 2 ≤ d.1) (hw : 43 ≤ d.2) : am_wp d 53 0 [some (.ref 36), some (.int (nI (s)))] [] (am_si h J) (fun r h' => r = some (.int (am_b (R_there J s))) ∧ h' = (am_si h J)) := by
  refine r_iload k53_0 rfl ?_
  refine r_pushn (v := nI 12) k53_1 rfl ?_
  refine r_icmpgeN (by omega) (by omega) k53_3 (fun z3 => ?_) (fun z3 => ?_)
  · refine r_aload k53_15 rfl ?_
    refine r_iload k53_16 rfl ?_
    refine r_pushn (v := nI 16) k53_17 rfl ?_
    refine r_isub k53_19 ?_
    refine j_call (ml := 2) k53_20 rfl (show 0 < d.1 by omega) (show 19 + 2 ≤ d.2 by omega) ⟨Nat.le_of_ble_eq_true rfl, Nat.le_of_ble_eq_true rfl, am_obB hB rfl, Nat.le_of_ble_eq_true rfl⟩ rfl (rest := []) rfl (s_R_inst hB hT ((nI s) - (nI 16)) (show 1 ≤ d.1 - 1 by omega) (show 22 ≤ d.2 - 21 by omega)) (fun r h1 hq => ?_)
    obtain ⟨rfl, rfl⟩ := hq
    show am_wp _ _ _ [some (.ref 36), some (.int (nI (s)))] [.int (am_b (R_inst J ((nI s) - (nI 16))))] _ _
    have e9 : R_there J s = ((R_inst J ((nI s) - (nI 16)))) := by unfold R_there; rw [am_ite_t z3]
    exact r_zret k53_23 rfl am_b_1 ⟨by rw [e9], rfl⟩
  · refine r_aload k53_6 rfl ?_
    refine j_ref (b := 37) k53_7 hB rfl ?_
    refine r_iload k53_10 rfl ?_
    have b11 := ty_n hT (q := 37) (B := 2) (by decide) (by decide) s
    refine j_zld (n := 12) (j := s) (v := (nI (jn J 37 s))) k53_11 hB rfl rfl (by omega) b11.1 ?_
    refine r_goto k53_12 ?_
    have e9 : R_there J s = (((jn J 37 s) = 1)) := by unfold R_there; rw [am_ite_f z3]
    exact r_zret k53_23 rfl (am_b_n1 (by omega)) ⟨by rw [e9, am_b_n (by omega)], rfl⟩
noncomputable def R_remove (J : Nat → Nat → Int32) (m : Int32) : Int32 × (Nat → Nat → Int32) := (am_ite (r_is m (nI 0) (nI 15)) (am_ite (0 ≤ (J 50 (jx m))) (((nI (jn J 50 (jx m))), R_forget (am_u2 J 50 (jx m) ((-1))) (jn J 50 (jx m)))) ((((-2)), J))) ((((-2)), J)))
set_option maxRecDepth 20000 in
theorem s_R_remove {d : am_D} {h : am_H} {J : Nat → Nat → Int32} (hB : am_B h) (hT : am_ty2 J) (m : Int32) (hd : 1 ≤ d.1) (hw : 22 ≤ d.2) : am_wp d 55 0 [some (.ref 36), some (.int (m)), none] [] (am_si h J) (fun r h' => r = some (.int (R_remove J m).1) ∧ h' = am_si h (R_remove J m).2 ∧ am_ty2 (R_remove J m).2) := by
  refine r_iload k55_0 rfl ?_
  refine r_pushn (v := nI 0) k55_1 rfl ?_
  refine r_pushn (v := nI 15) k55_2 rfl ?_
  refine j_call (ml := 3) k55_4 rfl (show 0 < d.1 by omega) (show 19 + 3 ≤ d.2 by omega) ⟨Nat.le_of_ble_eq_true rfl, Nat.le_of_ble_eq_true rfl, True.intro, Nat.le_of_ble_eq_true rfl⟩ rfl (rest := []) rfl (s_r_is m (nI 0) (nI 15)) (fun r h1 hq => ?_)
  obtain ⟨rfl, rfl⟩ := hq
  show am_wp _ _ _ [some (.ref 36), some (.int (m)), none] [.int (am_b (r_is m (nI 0) (nI 15)))] _ _
  refine r_ifeqB k55_7 (fun z7 => ?_) (fun z7 => ?_)
  · refine r_pushn (v := (-2)) k55_19 rfl ?_
    have e9 : R_remove J m = ((((-2)), J)) := by unfold R_remove; rw [am_ite_f z7]
    exact r_iret k55_21 rfl ⟨by rw [e9], by rw [e9], by rw [e9]; exact hT⟩
  · have e_m := jx_eq (by decide) (show w_in _ _ _ from z7)
    rw [show ([some (.ref 36), some (.int (m)), none] : am_L) = [some (.ref 36), some (.int (nI (jx m))), none] by rw [← e_m.1]]
    refine r_aload k55_10 rfl ?_
    refine j_ref (b := 50) k55_11 hB rfl ?_
    refine r_iload k55_14 rfl ?_
    refine j_ald (n := 16) (j := (jx m)) (v := (J 50 (jx m))) k55_15 hB rfl rfl (by omega) rfl ?_
    refine r_ifge k55_16 (fun z16 => ?_) (fun z16 => ?_)
    · have c16 := ty_mg hT (q := 50) (B := 5) (by decide) (by decide) (jx m) z16
      refine r_aload k55_22 rfl ?_
      refine j_ref (b := 50) k55_23 hB rfl ?_
      refine r_iload k55_26 rfl ?_
      refine j_ald (n := 16) (j := (jx m)) (v := (nI (jn J 50 (jx m)))) k55_27 hB rfl rfl (by omega) c16.1 ?_
      refine r_istore (L' := [some (.ref 36), some (.int (nI (jx m))), some (.int (nI (jn J 50 (jx m))))]) k55_28 (Nat.le_of_ble_eq_true rfl) rfl ?_
      refine r_aload k55_29 rfl ?_
      refine j_ref (b := 50) k55_30 hB rfl ?_
      refine r_iload k55_33 rfl ?_
      refine r_pushn (v := (-1)) k55_34 rfl ?_
      refine j_ast (n := 16) (j := (jx m)) k55_35 hB rfl rfl (by omega) ?_
      have hT35 : am_ty2 (am_u2 J 50 (jx m) ((-1))) := ty_w hT (tw_m (B := 5) (by decide) (by decide) (by decide) (Or.inl rfl))
      refine r_aload k55_36 rfl ?_
      refine r_iload k55_37 rfl ?_
      refine j_call (ml := 3) k55_38 rfl (show 0 < d.1 by omega) (show 19 + 3 ≤ d.2 by omega) ⟨Nat.le_of_ble_eq_true rfl, Nat.le_of_ble_eq_true rfl, am_obB hB rfl, Nat.le_of_ble_eq_true rfl⟩ rfl (rest := []) rfl (s_R_forget hB hT35 (jn J 50 (jx m)) (by omega)) (fun r h1 hq => ?_)
      obtain ⟨rfl, rfl, hT38⟩ := hq
      show am_wp _ _ _ [some (.ref 36), some (.int (nI (jx m))), some (.int (nI (jn J 50 (jx m))))] [] _ _
      refine r_iload k55_41 rfl ?_
      have e9 : R_remove J m = (((nI (jn J 50 (jx m))), R_forget (am_u2 J 50 (jx m) ((-1))) (jn J 50 (jx m)))) := by unfold R_remove; rw [am_ite_t z7, am_ite_t z16]
      exact r_iret k55_42 rfl ⟨by rw [e9], by rw [e9], by rw [e9]; exact hT38⟩
    · refine r_pushn (v := (-2)) k55_19 rfl ?_
      have e9 : R_remove J m = ((((-2)), J)) := by unfold R_remove; rw [am_ite_t z7, am_ite_f z16]
      exact r_iret k55_21 rfl ⟨by rw [e9], by rw [e9], by rw [e9]; exact hT⟩
theorem fr_R_remove {J : Nat → Nat → Int32} {m : Int32} (q : Nat) (hq : ¬ q = 50 ∧ ¬ q = 58) : (R_remove J m).2 q = J q := by
  unfold R_remove
  refine fr_i2 (fun _ => ?_) (fun _ => ?_)
  · refine fr_i2 (fun _ => ?_) (fun _ => ?_)
    · exact (fr_R_forget q (by omega)).trans (fr_u (by omega))
    · exact rfl
  · exact rfl
noncomputable def R_step (J : Nat → Nat → Int32) (b : Int32) (op : Int32) (a : Int32) : Int32 × (Nat → Nat → Int32) := (am_ite (r_is b (nI 0) (nI 7)) (am_ite (r_is op (nI 0) (nI 9)) (am_ite (r_is (nI (jx op)) (nI 2) (nI 3)) (am_ite (r_is a (nI 0) (nI 5)) (am_ite ((jx op) = 7) (am_ite (r_is (nI (jx a)) (nI 0) (nI 4)) (am_ite ((jx op) = 8) (am_ite (r_is (nI (jx a)) (nI 0) (nI 11)) (am_ite ((jn J 57 (jx b)) = 8) ((((-3)), J)) (((nI ((jn J 57 (jx b)) + 1)), am_u2 (am_u2 (am_u2 J 55 ((8 * (jx b)) + (jn J 57 (jx b))) (nI (jx op))) 56 ((8 * (jx b)) + (jn J 57 (jx b))) (nI (jx a))) 57 (jx b) (nI ((jn J 57 (jx b)) + 1))))) ((((-1)), J))) (am_ite ((jn J 57 (jx b)) = 8) ((((-3)), J)) (((nI ((jn J 57 (jx b)) + 1)), am_u2 (am_u2 (am_u2 J 55 ((8 * (jx b)) + (jn J 57 (jx b))) (nI (jx op))) 56 ((8 * (jx b)) + (jn J 57 (jx b))) (nI (jx a))) 57 (jx b) (nI ((jn J 57 (jx b)) + 1)))))) ((((-1)), J))) (am_ite ((jx op) = 8) (am_ite (r_is (nI (jx a)) (nI 0) (nI 11)) (am_ite ((jn J 57 (jx b)) = 8) ((((-3)), J)) (((nI ((jn J 57 (jx b)) + 1)), am_u2 (am_u2 (am_u2 J 55 ((8 * (jx b)) + (jn J 57 (jx b))) (nI (jx op))) 56 ((8 * (jx b)) + (jn J 57 (jx b))) (nI (jx a))) 57 (jx b) (nI ((jn J 57 (jx b)) + 1))))) ((((-1)), J))) (am_ite ((jn J 57 (jx b)) = 8) ((((-3)), J)) (((nI ((jn J 57 (jx b)) + 1)), am_u2 (am_u2 (am_u2 J 55 ((8 * (jx b)) + (jn J 57 (jx b))) (nI (jx op))) 56 ((8 * (jx b)) + (jn J 57 (jx b))) (nI (jx a))) 57 (jx b) (nI ((jn J 57 (jx b)) + 1))))))) ((((-1)), J))) (am_ite ((jx op) = 7) (am_ite (r_is a (nI 0) (nI 4)) (am_ite ((jx op) = 8) (am_ite (r_is (nI (jx a)) (nI 0) (nI 11)) (am_ite ((jn J 57 (jx b)) = 8) ((((-3)), J)) (((nI ((jn J 57 (jx b)) + 1)), am_u2 (am_u2 (am_u2 J 55 ((8 * (jx b)) + (jn J 57 (jx b))) (nI (jx op))) 56 ((8 * (jx b)) + (jn J 57 (jx b))) (nI (jx a))) 57 (jx b) (nI ((jn J 57 (jx b)) + 1))))) ((((-1)), J))) (am_ite ((jn J 57 (jx b)) = 8) ((((-3)), J)) (((nI ((jn J 57 (jx b)) + 1)), am_u2 (am_u2 (am_u2 J 55 ((8 * (jx b)) + (jn J 57 (jx b))) (nI (jx op))) 56 ((8 * (jx b)) + (jn J 57 (jx b))) (nI (jx a))) 57 (jx b) (nI ((jn J 57 (jx b)) + 1)))))) ((((-1)), J))) (am_ite ((jx op) = 8) (am_ite (r_is a (nI 0) (nI 11)) (am_ite ((jn J 57 (jx b)) = 8) ((((-3)), J)) (((nI ((jn J 57 (jx b)) + 1)), am_u2 (am_u2 (am_u2 J 55 ((8 * (jx b)) + (jn J 57 (jx b))) (nI (jx op))) 56 ((8 * (jx b)) + (jn J 57 (jx b))) (nI (jx a))) 57 (jx b) (nI ((jn J 57 (jx b)) + 1))))) ((((-1)), J))) (am_ite ((jn J 57 (jx b)) = 8) ((((-3)), J)) (((nI ((jn J 57 (jx b)) + 1)), am_u2 (am_u2 (am_u2 J 55 ((8 * (jx b)) + (jn J 57 (jx b))) (nI (jx op))) 56 ((8 * (jx b)) + (jn J 57 (jx b))) a) 57 (jx b) (nI ((jn J 57 (jx b)) + 1)))))))) ((((-1)), J))) ((((-1)), J)))
set_option maxRecDepth 20000 in
theorem s_R_step {d : am_D} {h : am_H} {J : Nat → Nat → Int32} (hB : am_B h) (hT : am_ty2 J) (b : Int32) (op : Int32) (a : Int32) (hd : 1 ≤ d.1) (hw : 22 ≤ d.2) : am_wp d 56 0 [some (.ref 36), some (.int (b)), some (.int (op)), some (.int (a))] [] (am_si h J) (fun r h' => r = some (.int (R_step J b op a).1) ∧ h' = am_si h (R_step J b op a).2 ∧ am_ty2 (R_step J b op a).2) := by
  refine r_iload k56_0 rfl ?_
  refine r_pushn (v := nI 0) k56_1 rfl ?_
  refine r_pushn (v := nI 7) k56_2 rfl ?_
  refine j_call (ml := 3) k56_4 rfl (show 0 < d.1 by omega) (show 19 + 3 ≤ d.2 by omega) ⟨Nat.le_of_ble_eq_true rfl, Nat.le_of_ble_eq_true rfl, True.intro, Nat.le_of_ble_eq_true rfl⟩ rfl (rest := []) rfl (s_r_is b (nI 0) (nI 7)) (fun r h1 hq => ?_)
  obtain ⟨rfl, rfl⟩ := hq
  show am_wp _ _ _ [some (.ref 36), some (.int (b)), some (.int (op)), some (.int (a))] [.int (am_b (r_is b (nI 0) (nI 7)))] _ _
  refine r_ifeqB k56_7 (fun z7 => ?_) (fun z7 => ?_)
  · refine r_pushn (v := (-1)) k56_69 rfl ?_
    have e9 : R_step J b op a = ((((-1)), J)) := by unfold R_step; rw [am_ite_f z7]
    exact r_iret k56_70 rfl ⟨by rw [e9], by rw [e9], by rw [e9]; exact hT⟩
  · have e_b := jx_eq (by decide) (show w_in _ _ _ from z7)
    rw [show ([some (.ref 36), some (.int (b)), some (.int (op)), some (.int (a))] : am_L) = [some (.ref 36), some (.int (nI (jx b))), some (.int (op)), some (.int (a))] by rw [← e_b.1]]
    refine r_iload k56_10 rfl ?_
    refine r_pushn (v := nI 0) k56_11 rfl ?_
    refine r_pushn (v := nI 9) k56_12 rfl ?_
    refine j_call (ml := 3) k56_14 rfl (show 0 < d.1 by omega) (show 19 + 3 ≤ d.2 by omega) ⟨Nat.le_of_ble_eq_true rfl, Nat.le_of_ble_eq_true rfl, True.intro, Nat.le_of_ble_eq_true rfl⟩ rfl (rest := []) rfl (s_r_is op (nI 0) (nI 9)) (fun r h1 hq => ?_)
    obtain ⟨rfl, rfl⟩ := hq
    show am_wp _ _ _ [some (.ref 36), some (.int (nI (jx b))), some (.int (op)), some (.int (a))] [.int (am_b (r_is op (nI 0) (nI 9)))] _ _
    refine r_ifeqB k56_17 (fun z17 => ?_) (fun z17 => ?_)
    · refine r_pushn (v := (-1)) k56_69 rfl ?_
      have e9 : R_step J b op a = ((((-1)), J)) := by unfold R_step; rw [am_ite_t z7, am_ite_f z17]
      exact r_iret k56_70 rfl ⟨by rw [e9], by rw [e9], by rw [e9]; exact hT⟩
    · have e_op := jx_eq (by decide) (show w_in _ _ _ from z17)
      rw [show ([some (.ref 36), some (.int (nI (jx b))), some (.int (op)), some (.int (a))] : am_L) = [some (.ref 36), some (.int (nI (jx b))), some (.int (nI (jx op))), some (.int (a))] by rw [← e_op.1]]
      refine r_iload k56_20 rfl ?_
      refine r_pushn (v := nI 2) k56_21 rfl ?_
      refine r_pushn (v := nI 3) k56_22 rfl ?_
      refine j_call (ml := 3) k56_23 rfl (show 0 < d.1 by omega) (show 19 + 3 ≤ d.2 by omega) ⟨Nat.le_of_ble_eq_true rfl, Nat.le_of_ble_eq_true rfl, True.intro, Nat.le_of_ble_eq_true rfl⟩ rfl (rest := []) rfl (s_r_is (nI (jx op)) (nI 2) (nI 3)) (fun r h1 hq => ?_)
      obtain ⟨rfl, rfl⟩ := hq
      show am_wp _ _ _ [some (.ref 36), some (.int (nI (jx b))), some (.int (nI (jx op))), some (.int (a))] [.int (am_b (r_is (nI (jx op)) (nI 2) (nI 3)))] _ _
      refine r_ifeqB k56_26 (fun z26 => ?_) (fun z26 => ?_)
      · refine r_iload k56_38 rfl ?_
        refine r_pushn (v := nI 7) k56_39 rfl ?_
        refine r_icmpneN (by omega) (by omega) k56_41 (fun z41 => ?_) (fun z41 => ?_)
        · refine r_iload k56_53 rfl ?_
          refine r_pushn (v := nI 8) k56_54 rfl ?_
          refine r_icmpneN (by omega) (by omega) k56_56 (fun z56 => ?_) (fun z56 => ?_)
          · refine r_aload k56_71 rfl ?_
            refine j_ref (b := 57) k56_72 hB rfl ?_
            refine r_iload k56_75 rfl ?_
            have b76 := ty_n hT (q := 57) (B := 9) (by decide) (by decide) (jx b)
            refine j_ald (n := 8) (j := (jx b)) (v := (nI (jn J 57 (jx b)))) k56_76 hB rfl rfl (by omega) b76.1 ?_
            refine r_pushn (v := nI 8) k56_77 rfl ?_
            refine r_icmpneN (by omega) (by omega) k56_79 (fun z79 => ?_) (fun z79 => ?_)
            · refine r_aload k56_85 rfl ?_
              refine j_ref (b := 55) k56_86 hB rfl ?_
              refine r_pushn (v := nI 8) k56_89 rfl ?_
              refine r_iload k56_91 rfl ?_
              refine r_imulN k56_92 ?_
              refine r_aload k56_93 rfl ?_
              refine j_ref (b := 57) k56_94 hB rfl ?_
              refine r_iload k56_97 rfl ?_
              have b98 := ty_n hT (q := 57) (B := 9) (by decide) (by decide) (jx b)
              refine j_ald (n := 8) (j := (jx b)) (v := (nI (jn J 57 (jx b)))) k56_98 hB rfl rfl (by omega) b98.1 ?_
              refine r_iaddN k56_99 ?_
              refine r_iload k56_100 rfl ?_
              refine j_ast (n := 64) (j := ((8 * (jx b)) + (jn J 57 (jx b)))) k56_101 hB rfl rfl (by omega) ?_
              have hT101 : am_ty2 (am_u2 J 55 ((8 * (jx b)) + (jn J 57 (jx b))) (nI (jx op))) := ty_w hT (tw_n (B := 10) (by decide) (by decide) (by decide) (by omega))
              refine r_aload k56_102 rfl ?_
              refine j_ref (b := 56) k56_103 hB rfl ?_
              refine r_pushn (v := nI 8) k56_106 rfl ?_
              refine r_iload k56_108 rfl ?_
              refine r_imulN k56_109 ?_
              refine r_aload k56_110 rfl ?_
              refine j_ref (b := 57) k56_111 hB rfl ?_
              refine r_iload k56_114 rfl ?_
              have b115 := ty_n hT (q := 57) (B := 9) (by decide) (by decide) (jx b)
              refine j_ald (n := 8) (j := (jx b)) (v := (nI (jn J 57 (jx b)))) k56_115 hB rfl rfl (by omega) b115.1 ?_
              refine r_iaddN k56_116 ?_
              refine r_iload k56_117 rfl ?_
              refine j_ast (n := 64) (j := ((8 * (jx b)) + (jn J 57 (jx b)))) k56_118 hB rfl rfl (by omega) ?_
              have hT118 : am_ty2 (am_u2 (am_u2 J 55 ((8 * (jx b)) + (jn J 57 (jx b))) (nI (jx op))) 56 ((8 * (jx b)) + (jn J 57 (jx b))) a) := ty_w hT101 (tw_a (by decide) (by decide) (by decide))
              refine r_aload k56_119 rfl ?_
              refine j_ref (b := 57) k56_120 hB rfl ?_
              refine r_iload k56_123 rfl ?_
              refine r_dup2 rfl rfl k56_124 ?_
              have b125 := ty_n hT (q := 57) (B := 9) (by decide) (by decide) (jx b)
              refine j_ald (n := 8) (j := (jx b)) (v := (nI (jn J 57 (jx b)))) k56_125 hB rfl rfl (by omega) b125.1 ?_
              refine r_pushn (v := nI 1) k56_126 rfl ?_
              refine r_iaddN k56_127 ?_
              refine r_dupx2 rfl rfl rfl k56_128 ?_
              refine j_ast (n := 8) (j := (jx b)) k56_129 hB rfl rfl (by omega) ?_
              have hT129 : am_ty2 (am_u2 (am_u2 (am_u2 J 55 ((8 * (jx b)) + (jn J 57 (jx b))) (nI (jx op))) 56 ((8 * (jx b)) + (jn J 57 (jx b))) a) 57 (jx b) (nI ((jn J 57 (jx b)) + 1))) := ty_w hT118 (tw_n (B := 9) (by decide) (by decide) (by decide) (by omega))
              have e9 : R_step J b op a = (((nI ((jn J 57 (jx b)) + 1)), am_u2 (am_u2 (am_u2 J 55 ((8 * (jx b)) + (jn J 57 (jx b))) (nI (jx op))) 56 ((8 * (jx b)) + (jn J 57 (jx b))) a) 57 (jx b) (nI ((jn J 57 (jx b)) + 1)))) := by unfold R_step; rw [am_ite_t z7, am_ite_t z17, am_ite_f z26, am_ite_f z41, am_ite_f z56, am_ite_f z79]
              exact r_iret k56_130 rfl ⟨by rw [e9], by rw [e9], by rw [e9]; exact hT129⟩
            · refine r_pushn (v := (-3)) k56_82 rfl ?_
              have e9 : R_step J b op a = ((((-3)), J)) := by unfold R_step; rw [am_ite_t z7, am_ite_t z17, am_ite_f z26, am_ite_f z41, am_ite_f z56, am_ite_t z79]
              exact r_iret k56_84 rfl ⟨by rw [e9], by rw [e9], by rw [e9]; exact hT⟩
          · refine r_iload k56_59 rfl ?_
            refine r_pushn (v := nI 0) k56_60 rfl ?_
            refine r_pushn (v := nI 11) k56_61 rfl ?_
            refine j_call (ml := 3) k56_63 rfl (show 0 < d.1 by omega) (show 19 + 3 ≤ d.2 by omega) ⟨Nat.le_of_ble_eq_true rfl, Nat.le_of_ble_eq_true rfl, True.intro, Nat.le_of_ble_eq_true rfl⟩ rfl (rest := []) rfl (s_r_is a (nI 0) (nI 11)) (fun r h1 hq => ?_)
            obtain ⟨rfl, rfl⟩ := hq
            show am_wp _ _ _ [some (.ref 36), some (.int (nI (jx b))), some (.int (nI (jx op))), some (.int (a))] [.int (am_b (r_is a (nI 0) (nI 11)))] _ _
            refine r_ifneB k56_66 (fun z66 => ?_) (fun z66 => ?_)
            · have e_a := jx_eq (by decide) (show w_in _ _ _ from z66)
              rw [show ([some (.ref 36), some (.int (nI (jx b))), some (.int (nI (jx op))), some (.int (a))] : am_L) = [some (.ref 36), some (.int (nI (jx b))), some (.int (nI (jx op))), some (.int (nI (jx a)))] by rw [← e_a.1]]
              refine r_aload k56_71 rfl ?_
              refine j_ref (b := 57) k56_72 hB rfl ?_
              refine r_iload k56_75 rfl ?_
              have b76 := ty_n hT (q := 57) (B := 9) (by decide) (by decide) (jx b)
              refine j_ald (n := 8) (j := (jx b)) (v := (nI (jn J 57 (jx b)))) k56_76 hB rfl rfl (by omega) b76.1 ?_
              refine r_pushn (v := nI 8) k56_77 rfl ?_
              refine r_icmpneN (by omega) (by omega) k56_79 (fun z79 => ?_) (fun z79 => ?_)
              · refine r_aload k56_85 rfl ?_
                refine j_ref (b := 55) k56_86 hB rfl ?_
                refine r_pushn (v := nI 8) k56_89 rfl ?_
                refine r_iload k56_91 rfl ?_
                refine r_imulN k56_92 ?_
                refine r_aload k56_93 rfl ?_
                refine j_ref (b := 57) k56_94 hB rfl ?_
                refine r_iload k56_97 rfl ?_
                have b98 := ty_n hT (q := 57) (B := 9) (by decide) (by decide) (jx b)
                refine j_ald (n := 8) (j := (jx b)) (v := (nI (jn J 57 (jx b)))) k56_98 hB rfl rfl (by omega) b98.1 ?_
                refine r_iaddN k56_99 ?_
                refine r_iload k56_100 rfl ?_
                refine j_ast (n := 64) (j := ((8 * (jx b)) + (jn J 57 (jx b)))) k56_101 hB rfl rfl (by omega) ?_
                have hT101 : am_ty2 (am_u2 J 55 ((8 * (jx b)) + (jn J 57 (jx b))) (nI (jx op))) := ty_w hT (tw_n (B := 10) (by decide) (by decide) (by decide) (by omega))
                refine r_aload k56_102 rfl ?_
                refine j_ref (b := 56) k56_103 hB rfl ?_
                refine r_pushn (v := nI 8) k56_106 rfl ?_
                refine r_iload k56_108 rfl ?_
                refine r_imulN k56_109 ?_
                refine r_aload k56_110 rfl ?_
                refine j_ref (b := 57) k56_111 hB rfl ?_
                refine r_iload k56_114 rfl ?_
                have b115 := ty_n hT (q := 57) (B := 9) (by decide) (by decide) (jx b)
                refine j_ald (n := 8) (j := (jx b)) (v := (nI (jn J 57 (jx b)))) k56_115 hB rfl rfl (by omega) b115.1 ?_
                refine r_iaddN k56_116 ?_
                refine r_iload k56_117 rfl ?_
                refine j_ast (n := 64) (j := ((8 * (jx b)) + (jn J 57 (jx b)))) k56_118 hB rfl rfl (by omega) ?_
                have hT118 : am_ty2 (am_u2 (am_u2 J 55 ((8 * (jx b)) + (jn J 57 (jx b))) (nI (jx op))) 56 ((8 * (jx b)) + (jn J 57 (jx b))) (nI (jx a))) := ty_w hT101 (tw_a (by decide) (by decide) (by decide))
                refine r_aload k56_119 rfl ?_
                refine j_ref (b := 57) k56_120 hB rfl ?_
                refine r_iload k56_123 rfl ?_
                refine r_dup2 rfl rfl k56_124 ?_
                have b125 := ty_n hT (q := 57) (B := 9) (by decide) (by decide) (jx b)
                refine j_ald (n := 8) (j := (jx b)) (v := (nI (jn J 57 (jx b)))) k56_125 hB rfl rfl (by omega) b125.1 ?_
                refine r_pushn (v := nI 1) k56_126 rfl ?_
                refine r_iaddN k56_127 ?_
                refine r_dupx2 rfl rfl rfl k56_128 ?_
                refine j_ast (n := 8) (j := (jx b)) k56_129 hB rfl rfl (by omega) ?_
                have hT129 : am_ty2 (am_u2 (am_u2 (am_u2 J 55 ((8 * (jx b)) + (jn J 57 (jx b))) (nI (jx op))) 56 ((8 * (jx b)) + (jn J 57 (jx b))) (nI (jx a))) 57 (jx b) (nI ((jn J 57 (jx b)) + 1))) := ty_w hT118 (tw_n (B := 9) (by decide) (by decide) (by decide) (by omega))
                have e9 : R_step J b op a = (((nI ((jn J 57 (jx b)) + 1)), am_u2 (am_u2 (am_u2 J 55 ((8 * (jx b)) + (jn J 57 (jx b))) (nI (jx op))) 56 ((8 * (jx b)) + (jn J 57 (jx b))) (nI (jx a))) 57 (jx b) (nI ((jn J 57 (jx b)) + 1)))) := by unfold R_step; rw [am_ite_t z7, am_ite_t z17, am_ite_f z26, am_ite_f z41, am_ite_t z56, am_ite_t z66, am_ite_f z79]
                exact r_iret k56_130 rfl ⟨by rw [e9], by rw [e9], by rw [e9]; exact hT129⟩
              · refine r_pushn (v := (-3)) k56_82 rfl ?_
                have e9 : R_step J b op a = ((((-3)), J)) := by unfold R_step; rw [am_ite_t z7, am_ite_t z17, am_ite_f z26, am_ite_f z41, am_ite_t z56, am_ite_t z66, am_ite_t z79]
                exact r_iret k56_84 rfl ⟨by rw [e9], by rw [e9], by rw [e9]; exact hT⟩
            · refine r_pushn (v := (-1)) k56_69 rfl ?_
              have e9 : R_step J b op a = ((((-1)), J)) := by unfold R_step; rw [am_ite_t z7, am_ite_t z17, am_ite_f z26, am_ite_f z41, am_ite_t z56, am_ite_f z66]
              exact r_iret k56_70 rfl ⟨by rw [e9], by rw [e9], by rw [e9]; exact hT⟩
        · refine r_iload k56_44 rfl ?_
          refine r_pushn (v := nI 0) k56_45 rfl ?_
          refine r_pushn (v := nI 4) k56_46 rfl ?_
          refine j_call (ml := 3) k56_47 rfl (show 0 < d.1 by omega) (show 19 + 3 ≤ d.2 by omega) ⟨Nat.le_of_ble_eq_true rfl, Nat.le_of_ble_eq_true rfl, True.intro, Nat.le_of_ble_eq_true rfl⟩ rfl (rest := []) rfl (s_r_is a (nI 0) (nI 4)) (fun r h1 hq => ?_)
          obtain ⟨rfl, rfl⟩ := hq
          show am_wp _ _ _ [some (.ref 36), some (.int (nI (jx b))), some (.int (nI (jx op))), some (.int (a))] [.int (am_b (r_is a (nI 0) (nI 4)))] _ _
          refine r_ifeqB k56_50 (fun z50 => ?_) (fun z50 => ?_)
          · refine r_pushn (v := (-1)) k56_69 rfl ?_
            have e9 : R_step J b op a = ((((-1)), J)) := by unfold R_step; rw [am_ite_t z7, am_ite_t z17, am_ite_f z26, am_ite_t z41, am_ite_f z50]
            exact r_iret k56_70 rfl ⟨by rw [e9], by rw [e9], by rw [e9]; exact hT⟩
          · have e_a := jx_eq (by decide) (show w_in _ _ _ from z50)
            rw [show ([some (.ref 36), some (.int (nI (jx b))), some (.int (nI (jx op))), some (.int (a))] : am_L) = [some (.ref 36), some (.int (nI (jx b))), some (.int (nI (jx op))), some (.int (nI (jx a)))] by rw [← e_a.1]]
            refine r_iload k56_53 rfl ?_
            refine r_pushn (v := nI 8) k56_54 rfl ?_
            refine r_icmpneN (by omega) (by omega) k56_56 (fun z56 => ?_) (fun z56 => ?_)
            · refine r_aload k56_71 rfl ?_
              refine j_ref (b := 57) k56_72 hB rfl ?_
              refine r_iload k56_75 rfl ?_
              have b76 := ty_n hT (q := 57) (B := 9) (by decide) (by decide) (jx b)
              refine j_ald (n := 8) (j := (jx b)) (v := (nI (jn J 57 (jx b)))) k56_76 hB rfl rfl (by omega) b76.1 ?_
              refine r_pushn (v := nI 8) k56_77 rfl ?_
              refine r_icmpneN (by omega) (by omega) k56_79 (fun z79 => ?_) (fun z79 => ?_)
              · refine r_aload k56_85 rfl ?_
                refine j_ref (b := 55) k56_86 hB rfl ?_
                refine r_pushn (v := nI 8) k56_89 rfl ?_
                refine r_iload k56_91 rfl ?_
                refine r_imulN k56_92 ?_
                refine r_aload k56_93 rfl ?_
                refine j_ref (b := 57) k56_94 hB rfl ?_
                refine r_iload k56_97 rfl ?_
                have b98 := ty_n hT (q := 57) (B := 9) (by decide) (by decide) (jx b)
                refine j_ald (n := 8) (j := (jx b)) (v := (nI (jn J 57 (jx b)))) k56_98 hB rfl rfl (by omega) b98.1 ?_
                refine r_iaddN k56_99 ?_
                refine r_iload k56_100 rfl ?_
                refine j_ast (n := 64) (j := ((8 * (jx b)) + (jn J 57 (jx b)))) k56_101 hB rfl rfl (by omega) ?_
                have hT101 : am_ty2 (am_u2 J 55 ((8 * (jx b)) + (jn J 57 (jx b))) (nI (jx op))) := ty_w hT (tw_n (B := 10) (by decide) (by decide) (by decide) (by omega))
                refine r_aload k56_102 rfl ?_
                refine j_ref (b := 56) k56_103 hB rfl ?_
                refine r_pushn (v := nI 8) k56_106 rfl ?_
                refine r_iload k56_108 rfl ?_
                refine r_imulN k56_109 ?_
                refine r_aload k56_110 rfl ?_
                refine j_ref (b := 57) k56_111 hB rfl ?_
                refine r_iload k56_114 rfl ?_
                have b115 := ty_n hT (q := 57) (B := 9) (by decide) (by decide) (jx b)
                refine j_ald (n := 8) (j := (jx b)) (v := (nI (jn J 57 (jx b)))) k56_115 hB rfl rfl (by omega) b115.1 ?_
                refine r_iaddN k56_116 ?_
                refine r_iload k56_117 rfl ?_
                refine j_ast (n := 64) (j := ((8 * (jx b)) + (jn J 57 (jx b)))) k56_118 hB rfl rfl (by omega) ?_
                have hT118 : am_ty2 (am_u2 (am_u2 J 55 ((8 * (jx b)) + (jn J 57 (jx b))) (nI (jx op))) 56 ((8 * (jx b)) + (jn J 57 (jx b))) (nI (jx a))) := ty_w hT101 (tw_a (by decide) (by decide) (by decide))
                refine r_aload k56_119 rfl ?_
                refine j_ref (b := 57) k56_120 hB rfl ?_
                refine r_iload k56_123 rfl ?_
                refine r_dup2 rfl rfl k56_124 ?_
                have b125 := ty_n hT (q := 57) (B := 9) (by decide) (by decide) (jx b)
                refine j_ald (n := 8) (j := (jx b)) (v := (nI (jn J 57 (jx b)))) k56_125 hB rfl rfl (by omega) b125.1 ?_
                refine r_pushn (v := nI 1) k56_126 rfl ?_
                refine r_iaddN k56_127 ?_
                refine r_dupx2 rfl rfl rfl k56_128 ?_
                refine j_ast (n := 8) (j := (jx b)) k56_129 hB rfl rfl (by omega) ?_
                have hT129 : am_ty2 (am_u2 (am_u2 (am_u2 J 55 ((8 * (jx b)) + (jn J 57 (jx b))) (nI (jx op))) 56 ((8 * (jx b)) + (jn J 57 (jx b))) (nI (jx a))) 57 (jx b) (nI ((jn J 57 (jx b)) + 1))) := ty_w hT118 (tw_n (B := 9) (by decide) (by decide) (by decide) (by omega))
                have e9 : R_step J b op a = (((nI ((jn J 57 (jx b)) + 1)), am_u2 (am_u2 (am_u2 J 55 ((8 * (jx b)) + (jn J 57 (jx b))) (nI (jx op))) 56 ((8 * (jx b)) + (jn J 57 (jx b))) (nI (jx a))) 57 (jx b) (nI ((jn J 57 (jx b)) + 1)))) := by unfold R_step; rw [am_ite_t z7, am_ite_t z17, am_ite_f z26, am_ite_t z41, am_ite_t z50, am_ite_f z56, am_ite_f z79]
                exact r_iret k56_130 rfl ⟨by rw [e9], by rw [e9], by rw [e9]; exact hT129⟩
              · refine r_pushn (v := (-3)) k56_82 rfl ?_
                have e9 : R_step J b op a = ((((-3)), J)) := by unfold R_step; rw [am_ite_t z7, am_ite_t z17, am_ite_f z26, am_ite_t z41, am_ite_t z50, am_ite_f z56, am_ite_t z79]
                exact r_iret k56_84 rfl ⟨by rw [e9], by rw [e9], by rw [e9]; exact hT⟩
            · refine r_iload k56_59 rfl ?_
              refine r_pushn (v := nI 0) k56_60 rfl ?_
              refine r_pushn (v := nI 11) k56_61 rfl ?_
              refine j_call (ml := 3) k56_63 rfl (show 0 < d.1 by omega) (show 19 + 3 ≤ d.2 by omega) ⟨Nat.le_of_ble_eq_true rfl, Nat.le_of_ble_eq_true rfl, True.intro, Nat.le_of_ble_eq_true rfl⟩ rfl (rest := []) rfl (s_r_is (nI (jx a)) (nI 0) (nI 11)) (fun r h1 hq => ?_)
              obtain ⟨rfl, rfl⟩ := hq
              show am_wp _ _ _ [some (.ref 36), some (.int (nI (jx b))), some (.int (nI (jx op))), some (.int (nI (jx a)))] [.int (am_b (r_is (nI (jx a)) (nI 0) (nI 11)))] _ _
              refine r_ifneB k56_66 (fun z66 => ?_) (fun z66 => ?_)
              · refine r_aload k56_71 rfl ?_
                refine j_ref (b := 57) k56_72 hB rfl ?_
                refine r_iload k56_75 rfl ?_
                have b76 := ty_n hT (q := 57) (B := 9) (by decide) (by decide) (jx b)
                refine j_ald (n := 8) (j := (jx b)) (v := (nI (jn J 57 (jx b)))) k56_76 hB rfl rfl (by omega) b76.1 ?_
                refine r_pushn (v := nI 8) k56_77 rfl ?_
                refine r_icmpneN (by omega) (by omega) k56_79 (fun z79 => ?_) (fun z79 => ?_)
                · refine r_aload k56_85 rfl ?_
                  refine j_ref (b := 55) k56_86 hB rfl ?_
                  refine r_pushn (v := nI 8) k56_89 rfl ?_
                  refine r_iload k56_91 rfl ?_
                  refine r_imulN k56_92 ?_
                  refine r_aload k56_93 rfl ?_
                  refine j_ref (b := 57) k56_94 hB rfl ?_
                  refine r_iload k56_97 rfl ?_
                  have b98 := ty_n hT (q := 57) (B := 9) (by decide) (by decide) (jx b)
                  refine j_ald (n := 8) (j := (jx b)) (v := (nI (jn J 57 (jx b)))) k56_98 hB rfl rfl (by omega) b98.1 ?_
                  refine r_iaddN k56_99 ?_
                  refine r_iload k56_100 rfl ?_
                  refine j_ast (n := 64) (j := ((8 * (jx b)) + (jn J 57 (jx b)))) k56_101 hB rfl rfl (by omega) ?_
                  have hT101 : am_ty2 (am_u2 J 55 ((8 * (jx b)) + (jn J 57 (jx b))) (nI (jx op))) := ty_w hT (tw_n (B := 10) (by decide) (by decide) (by decide) (by omega))
                  refine r_aload k56_102 rfl ?_
                  refine j_ref (b := 56) k56_103 hB rfl ?_
                  refine r_pushn (v := nI 8) k56_106 rfl ?_
                  refine r_iload k56_108 rfl ?_
                  refine r_imulN k56_109 ?_
                  refine r_aload k56_110 rfl ?_
                  refine j_ref (b := 57) k56_111 hB rfl ?_
                  refine r_iload k56_114 rfl ?_
                  have b115 := ty_n hT (q := 57) (B := 9) (by decide) (by decide) (jx b)
                  refine j_ald (n := 8) (j := (jx b)) (v := (nI (jn J 57 (jx b)))) k56_115 hB rfl rfl (by omega) b115.1 ?_
                  refine r_iaddN k56_116 ?_
                  refine r_iload k56_117 rfl ?_
                  refine j_ast (n := 64) (j := ((8 * (jx b)) + (jn J 57 (jx b)))) k56_118 hB rfl rfl (by omega) ?_
                  have hT118 : am_ty2 (am_u2 (am_u2 J 55 ((8 * (jx b)) + (jn J 57 (jx b))) (nI (jx op))) 56 ((8 * (jx b)) + (jn J 57 (jx b))) (nI (jx a))) := ty_w hT101 (tw_a (by decide) (by decide) (by decide))
                  refine r_aload k56_119 rfl ?_
                  refine j_ref (b := 57) k56_120 hB rfl ?_
                  refine r_iload k56_123 rfl ?_
                  refine r_dup2 rfl rfl k56_124 ?_
                  have b125 := ty_n hT (q := 57) (B := 9) (by decide) (by decide) (jx b)
                  refine j_ald (n := 8) (j := (jx b)) (v := (nI (jn J 57 (jx b)))) k56_125 hB rfl rfl (by omega) b125.1 ?_
                  refine r_pushn (v := nI 1) k56_126 rfl ?_
                  refine r_iaddN k56_127 ?_
                  refine r_dupx2 rfl rfl rfl k56_128 ?_
                  refine j_ast (n := 8) (j := (jx b)) k56_129 hB rfl rfl (by omega) ?_
                  have hT129 : am_ty2 (am_u2 (am_u2 (am_u2 J 55 ((8 * (jx b)) + (jn J 57 (jx b))) (nI (jx op))) 56 ((8 * (jx b)) + (jn J 57 (jx b))) (nI (jx a))) 57 (jx b) (nI ((jn J 57 (jx b)) + 1))) := ty_w hT118 (tw_n (B := 9) (by decide) (by decide) (by decide) (by omega))
                  have e9 : R_step J b op a = (((nI ((jn J 57 (jx b)) + 1)), am_u2 (am_u2 (am_u2 J 55 ((8 * (jx b)) + (jn J 57 (jx b))) (nI (jx op))) 56 ((8 * (jx b)) + (jn J 57 (jx b))) (nI (jx a))) 57 (jx b) (nI ((jn J 57 (jx b)) + 1)))) := by unfold R_step; rw [am_ite_t z7, am_ite_t z17, am_ite_f z26, am_ite_t z41, am_ite_t z50, am_ite_t z56, am_ite_t z66, am_ite_f z79]
                  exact r_iret k56_130 rfl ⟨by rw [e9], by rw [e9], by rw [e9]; exact hT129⟩
                · refine r_pushn (v := (-3)) k56_82 rfl ?_
                  have e9 : R_step J b op a = ((((-3)), J)) := by unfold R_step; rw [am_ite_t z7, am_ite_t z17, am_ite_f z26, am_ite_t z41, am_ite_t z50, am_ite_t z56, am_ite_t z66, am_ite_t z79]
                  exact r_iret k56_84 rfl ⟨by rw [e9], by rw [e9], by rw [e9]; exact hT⟩
              · refine r_pushn (v := (-1)) k56_69 rfl ?_
                have e9 : R_step J b op a = ((((-1)), J)) := by unfold R_step; rw [am_ite_t z7, am_ite_t z17, am_ite_f z26, am_ite_t z41, am_ite_t z50, am_ite_t z56, am_ite_f z66]
                exact r_iret k56_70 rfl ⟨by rw [e9], by rw [e9], by rw [e9]; exact hT⟩
      · refine r_iload k56_29 rfl ?_
        refine r_pushn (v := nI 0) k56_30 rfl ?_
        refine r_pushn (v := nI 5) k56_31 rfl ?_
        refine j_call (ml := 3) k56_32 rfl (show 0 < d.1 by omega) (show 19 + 3 ≤ d.2 by omega) ⟨Nat.le_of_ble_eq_true rfl, Nat.le_of_ble_eq_true rfl, True.intro, Nat.le_of_ble_eq_true rfl⟩ rfl (rest := []) rfl (s_r_is a (nI 0) (nI 5)) (fun r h1 hq => ?_)
        obtain ⟨rfl, rfl⟩ := hq
        show am_wp _ _ _ [some (.ref 36), some (.int (nI (jx b))), some (.int (nI (jx op))), some (.int (a))] [.int (am_b (r_is a (nI 0) (nI 5)))] _ _
        refine r_ifeqB k56_35 (fun z35 => ?_) (fun z35 => ?_)
        · refine r_pushn (v := (-1)) k56_69 rfl ?_
          have e9 : R_step J b op a = ((((-1)), J)) := by unfold R_step; rw [am_ite_t z7, am_ite_t z17, am_ite_t z26, am_ite_f z35]
          exact r_iret k56_70 rfl ⟨by rw [e9], by rw [e9], by rw [e9]; exact hT⟩
        · have e_a := jx_eq (by decide) (show w_in _ _ _ from z35)
          rw [show ([some (.ref 36), some (.int (nI (jx b))), some (.int (nI (jx op))), some (.int (a))] : am_L) = [some (.ref 36), some (.int (nI (jx b))), some (.int (nI (jx op))), some (.int (nI (jx a)))] by rw [← e_a.1]]
          refine r_iload k56_38 rfl ?_
          refine r_pushn (v := nI 7) k56_39 rfl ?_
          refine r_icmpneN (by omega) (by omega) k56_41 (fun z41 => ?_) (fun z41 => ?_)
          · refine r_iload k56_53 rfl ?_
            refine r_pushn (v := nI 8) k56_54 rfl ?_
            refine r_icmpneN (by omega) (by omega) k56_56 (fun z56 => ?_) (fun z56 => ?_)
            · refine r_aload k56_71 rfl ?_
              refine j_ref (b := 57) k56_72 hB rfl ?_
              refine r_iload k56_75 rfl ?_
              have b76 := ty_n hT (q := 57) (B := 9) (by decide) (by decide) (jx b)
              refine j_ald (n := 8) (j := (jx b)) (v := (nI (jn J 57 (jx b)))) k56_76 hB rfl rfl (by omega) b76.1 ?_
              refine r_pushn (v := nI 8) k56_77 rfl ?_
              refine r_icmpneN (by omega) (by omega) k56_79 (fun z79 => ?_) (fun z79 => ?_)
              · refine r_aload k56_85 rfl ?_
                refine j_ref (b := 55) k56_86 hB rfl ?_
                refine r_pushn (v := nI 8) k56_89 rfl ?_
                refine r_iload k56_91 rfl ?_
                refine r_imulN k56_92 ?_
                refine r_aload k56_93 rfl ?_
                refine j_ref (b := 57) k56_94 hB rfl ?_
                refine r_iload k56_97 rfl ?_
                have b98 := ty_n hT (q := 57) (B := 9) (by decide) (by decide) (jx b)
                refine j_ald (n := 8) (j := (jx b)) (v := (nI (jn J 57 (jx b)))) k56_98 hB rfl rfl (by omega) b98.1 ?_
                refine r_iaddN k56_99 ?_
                refine r_iload k56_100 rfl ?_
                refine j_ast (n := 64) (j := ((8 * (jx b)) + (jn J 57 (jx b)))) k56_101 hB rfl rfl (by omega) ?_
                have hT101 : am_ty2 (am_u2 J 55 ((8 * (jx b)) + (jn J 57 (jx b))) (nI (jx op))) := ty_w hT (tw_n (B := 10) (by decide) (by decide) (by decide) (by omega))
                refine r_aload k56_102 rfl ?_
                refine j_ref (b := 56) k56_103 hB rfl ?_
                refine r_pushn (v := nI 8) k56_106 rfl ?_
                refine r_iload k56_108 rfl ?_
                refine r_imulN k56_109 ?_
                refine r_aload k56_110 rfl ?_
                refine j_ref (b := 57) k56_111 hB rfl ?_
                refine r_iload k56_114 rfl ?_
                have b115 := ty_n hT (q := 57) (B := 9) (by decide) (by decide) (jx b)
                refine j_ald (n := 8) (j := (jx b)) (v := (nI (jn J 57 (jx b)))) k56_115 hB rfl rfl (by omega) b115.1 ?_
                refine r_iaddN k56_116 ?_
                refine r_iload k56_117 rfl ?_
                refine j_ast (n := 64) (j := ((8 * (jx b)) + (jn J 57 (jx b)))) k56_118 hB rfl rfl (by omega) ?_
                have hT118 : am_ty2 (am_u2 (am_u2 J 55 ((8 * (jx b)) + (jn J 57 (jx b))) (nI (jx op))) 56 ((8 * (jx b)) + (jn J 57 (jx b))) (nI (jx a))) := ty_w hT101 (tw_a (by decide) (by decide) (by decide))
                refine r_aload k56_119 rfl ?_
                refine j_ref (b := 57) k56_120 hB rfl ?_
                refine r_iload k56_123 rfl ?_
                refine r_dup2 rfl rfl k56_124 ?_
                have b125 := ty_n hT (q := 57) (B := 9) (by decide) (by decide) (jx b)
                refine j_ald (n := 8) (j := (jx b)) (v := (nI (jn J 57 (jx b)))) k56_125 hB rfl rfl (by omega) b125.1 ?_
                refine r_pushn (v := nI 1) k56_126 rfl ?_
                refine r_iaddN k56_127 ?_
                refine r_dupx2 rfl rfl rfl k56_128 ?_
                refine j_ast (n := 8) (j := (jx b)) k56_129 hB rfl rfl (by omega) ?_
                have hT129 : am_ty2 (am_u2 (am_u2 (am_u2 J 55 ((8 * (jx b)) + (jn J 57 (jx b))) (nI (jx op))) 56 ((8 * (jx b)) + (jn J 57 (jx b))) (nI (jx a))) 57 (jx b) (nI ((jn J 57 (jx b)) + 1))) := ty_w hT118 (tw_n (B := 9) (by decide) (by decide) (by decide) (by omega))
                have e9 : R_step J b op a = (((nI ((jn J 57 (jx b)) + 1)), am_u2 (am_u2 (am_u2 J 55 ((8 * (jx b)) + (jn J 57 (jx b))) (nI (jx op))) 56 ((8 * (jx b)) + (jn J 57 (jx b))) (nI (jx a))) 57 (jx b) (nI ((jn J 57 (jx b)) + 1)))) := by unfold R_step; rw [am_ite_t z7, am_ite_t z17, am_ite_t z26, am_ite_t z35, am_ite_f z41, am_ite_f z56, am_ite_f z79]
                exact r_iret k56_130 rfl ⟨by rw [e9], by rw [e9], by rw [e9]; exact hT129⟩
              · refine r_pushn (v := (-3)) k56_82 rfl ?_
                have e9 : R_step J b op a = ((((-3)), J)) := by unfold R_step; rw [am_ite_t z7, am_ite_t z17, am_ite_t z26, am_ite_t z35, am_ite_f z41, am_ite_f z56, am_ite_t z79]
                exact r_iret k56_84 rfl ⟨by rw [e9], by rw [e9], by rw [e9]; exact hT⟩
            · refine r_iload k56_59 rfl ?_
              refine r_pushn (v := nI 0) k56_60 rfl ?_
              refine r_pushn (v := nI 11) k56_61 rfl ?_
              refine j_call (ml := 3) k56_63 rfl (show 0 < d.1 by omega) (show 19 + 3 ≤ d.2 by omega) ⟨Nat.le_of_ble_eq_true rfl, Nat.le_of_ble_eq_true rfl, True.intro, Nat.le_of_ble_eq_true rfl⟩ rfl (rest := []) rfl (s_r_is (nI (jx a)) (nI 0) (nI 11)) (fun r h1 hq => ?_)
              obtain ⟨rfl, rfl⟩ := hq
              show am_wp _ _ _ [some (.ref 36), some (.int (nI (jx b))), some (.int (nI (jx op))), some (.int (nI (jx a)))] [.int (am_b (r_is (nI (jx a)) (nI 0) (nI 11)))] _ _
              refine r_ifneB k56_66 (fun z66 => ?_) (fun z66 => ?_)
              · refine r_aload k56_71 rfl ?_
                refine j_ref (b := 57) k56_72 hB rfl ?_
                refine r_iload k56_75 rfl ?_
                have b76 := ty_n hT (q := 57) (B := 9) (by decide) (by decide) (jx b)
                refine j_ald (n := 8) (j := (jx b)) (v := (nI (jn J 57 (jx b)))) k56_76 hB rfl rfl (by omega) b76.1 ?_
                refine r_pushn (v := nI 8) k56_77 rfl ?_
                refine r_icmpneN (by omega) (by omega) k56_79 (fun z79 => ?_) (fun z79 => ?_)
                · refine r_aload k56_85 rfl ?_
                  refine j_ref (b := 55) k56_86 hB rfl ?_
                  refine r_pushn (v := nI 8) k56_89 rfl ?_
                  refine r_iload k56_91 rfl ?_
                  refine r_imulN k56_92 ?_
                  refine r_aload k56_93 rfl ?_
                  refine j_ref (b := 57) k56_94 hB rfl ?_
                  refine r_iload k56_97 rfl ?_
                  have b98 := ty_n hT (q := 57) (B := 9) (by decide) (by decide) (jx b)
                  refine j_ald (n := 8) (j := (jx b)) (v := (nI (jn J 57 (jx b)))) k56_98 hB rfl rfl (by omega) b98.1 ?_
                  refine r_iaddN k56_99 ?_
                  refine r_iload k56_100 rfl ?_
                  refine j_ast (n := 64) (j := ((8 * (jx b)) + (jn J 57 (jx b)))) k56_101 hB rfl rfl (by omega) ?_
                  have hT101 : am_ty2 (am_u2 J 55 ((8 * (jx b)) + (jn J 57 (jx b))) (nI (jx op))) := ty_w hT (tw_n (B := 10) (by decide) (by decide) (by decide) (by omega))
                  refine r_aload k56_102 rfl ?_
                  refine j_ref (b := 56) k56_103 hB rfl ?_
                  refine r_pushn (v := nI 8) k56_106 rfl ?_
                  refine r_iload k56_108 rfl ?_
                  refine r_imulN k56_109 ?_
                  refine r_aload k56_110 rfl ?_
                  refine j_ref (b := 57) k56_111 hB rfl ?_
                  refine r_iload k56_114 rfl ?_
                  have b115 := ty_n hT (q := 57) (B := 9) (by decide) (by decide) (jx b)
                  refine j_ald (n := 8) (j := (jx b)) (v := (nI (jn J 57 (jx b)))) k56_115 hB rfl rfl (by omega) b115.1 ?_
                  refine r_iaddN k56_116 ?_
                  refine r_iload k56_117 rfl ?_
                  refine j_ast (n := 64) (j := ((8 * (jx b)) + (jn J 57 (jx b)))) k56_118 hB rfl rfl (by omega) ?_
                  have hT118 : am_ty2 (am_u2 (am_u2 J 55 ((8 * (jx b)) + (jn J 57 (jx b))) (nI (jx op))) 56 ((8 * (jx b)) + (jn J 57 (jx b))) (nI (jx a))) := ty_w hT101 (tw_a (by decide) (by decide) (by decide))
                  refine r_aload k56_119 rfl ?_
                  refine j_ref (b := 57) k56_120 hB rfl ?_
                  refine r_iload k56_123 rfl ?_
                  refine r_dup2 rfl rfl k56_124 ?_
                  have b125 := ty_n hT (q := 57) (B := 9) (by decide) (by decide) (jx b)
                  refine j_ald (n := 8) (j := (jx b)) (v := (nI (jn J 57 (jx b)))) k56_125 hB rfl rfl (by omega) b125.1 ?_
                  refine r_pushn (v := nI 1) k56_126 rfl ?_
                  refine r_iaddN k56_127 ?_
                  refine r_dupx2 rfl rfl rfl k56_128 ?_
                  refine j_ast (n := 8) (j := (jx b)) k56_129 hB rfl rfl (by omega) ?_
                  have hT129 : am_ty2 (am_u2 (am_u2 (am_u2 J 55 ((8 * (jx b)) + (jn J 57 (jx b))) (nI (jx op))) 56 ((8 * (jx b)) + (jn J 57 (jx b))) (nI (jx a))) 57 (jx b) (nI ((jn J 57 (jx b)) + 1))) := ty_w hT118 (tw_n (B := 9) (by decide) (by decide) (by decide) (by omega))
                  have e9 : R_step J b op a = (((nI ((jn J 57 (jx b)) + 1)), am_u2 (am_u2 (am_u2 J 55 ((8 * (jx b)) + (jn J 57 (jx b))) (nI (jx op))) 56 ((8 * (jx b)) + (jn J 57 (jx b))) (nI (jx a))) 57 (jx b) (nI ((jn J 57 (jx b)) + 1)))) := by unfold R_step; rw [am_ite_t z7, am_ite_t z17, am_ite_t z26, am_ite_t z35, am_ite_f z41, am_ite_t z56, am_ite_t z66, am_ite_f z79]
                  exact r_iret k56_130 rfl ⟨by rw [e9], by rw [e9], by rw [e9]; exact hT129⟩
                · refine r_pushn (v := (-3)) k56_82 rfl ?_
                  have e9 : R_step J b op a = ((((-3)), J)) := by unfold R_step; rw [am_ite_t z7, am_ite_t z17, am_ite_t z26, am_ite_t z35, am_ite_f z41, am_ite_t z56, am_ite_t z66, am_ite_t z79]
                  exact r_iret k56_84 rfl ⟨by rw [e9], by rw [e9], by rw [e9]; exact hT⟩
              · refine r_pushn (v := (-1)) k56_69 rfl ?_
                have e9 : R_step J b op a = ((((-1)), J)) := by unfold R_step; rw [am_ite_t z7, am_ite_t z17, am_ite_t z26, am_ite_t z35, am_ite_f z41, am_ite_t z56, am_ite_f z66]
                exact r_iret k56_70 rfl ⟨by rw [e9], by rw [e9], by rw [e9]; exact hT⟩
          · refine r_iload k56_44 rfl ?_
            refine r_pushn (v := nI 0) k56_45 rfl ?_
            refine r_pushn (v := nI 4) k56_46 rfl ?_
            refine j_call (ml := 3) k56_47 rfl (show 0 < d.1 by omega) (show 19 + 3 ≤ d.2 by omega) ⟨Nat.le_of_ble_eq_true rfl, Nat.le_of_ble_eq_true rfl, True.intro, Nat.le_of_ble_eq_true rfl⟩ rfl (rest := []) rfl (s_r_is (nI (jx a)) (nI 0) (nI 4)) (fun r h1 hq => ?_)
            obtain ⟨rfl, rfl⟩ := hq
            show am_wp _ _ _ [some (.ref 36), some (.int (nI (jx b))), some (.int (nI (jx op))), some (.int (nI (jx a)))] [.int (am_b (r_is (nI (jx a)) (nI 0) (nI 4)))] _ _
            refine r_ifeqB k56_50 (fun z50 => ?_) (fun z50 => ?_)
            · refine r_pushn (v := (-1)) k56_69 rfl ?_
              have e9 : R_step J b op a = ((((-1)), J)) := by unfold R_step; rw [am_ite_t z7, am_ite_t z17, am_ite_t z26, am_ite_t z35, am_ite_t z41, am_ite_f z50]
              exact r_iret k56_70 rfl ⟨by rw [e9], by rw [e9], by rw [e9]; exact hT⟩
            · refine r_iload k56_53 rfl ?_
              refine r_pushn (v := nI 8) k56_54 rfl ?_
              refine r_icmpneN (by omega) (by omega) k56_56 (fun z56 => ?_) (fun z56 => ?_)
              · refine r_aload k56_71 rfl ?_
                refine j_ref (b := 57) k56_72 hB rfl ?_
                refine r_iload k56_75 rfl ?_
                have b76 := ty_n hT (q := 57) (B := 9) (by decide) (by decide) (jx b)
                refine j_ald (n := 8) (j := (jx b)) (v := (nI (jn J 57 (jx b)))) k56_76 hB rfl rfl (by omega) b76.1 ?_
                refine r_pushn (v := nI 8) k56_77 rfl ?_
                refine r_icmpneN (by omega) (by omega) k56_79 (fun z79 => ?_) (fun z79 => ?_)
                · refine r_aload k56_85 rfl ?_
                  refine j_ref (b := 55) k56_86 hB rfl ?_
                  refine r_pushn (v := nI 8) k56_89 rfl ?_
                  refine r_iload k56_91 rfl ?_
                  refine r_imulN k56_92 ?_
                  refine r_aload k56_93 rfl ?_
                  refine j_ref (b := 57) k56_94 hB rfl ?_
                  refine r_iload k56_97 rfl ?_
                  have b98 := ty_n hT (q := 57) (B := 9) (by decide) (by decide) (jx b)
                  refine j_ald (n := 8) (j := (jx b)) (v := (nI (jn J 57 (jx b)))) k56_98 hB rfl rfl (by omega) b98.1 ?_
                  refine r_iaddN k56_99 ?_
                  refine r_iload k56_100 rfl ?_
                  refine j_ast (n := 64) (j := ((8 * (jx b)) + (jn J 57 (jx b)))) k56_101 hB rfl rfl (by omega) ?_
                  have hT101 : am_ty2 (am_u2 J 55 ((8 * (jx b)) + (jn J 57 (jx b))) (nI (jx op))) := ty_w hT (tw_n (B := 10) (by decide) (by decide) (by decide) (by omega))
                  refine r_aload k56_102 rfl ?_
                  refine j_ref (b := 56) k56_103 hB rfl ?_
                  refine r_pushn (v := nI 8) k56_106 rfl ?_
                  refine r_iload k56_108 rfl ?_
                  refine r_imulN k56_109 ?_
                  refine r_aload k56_110 rfl ?_
                  refine j_ref (b := 57) k56_111 hB rfl ?_
                  refine r_iload k56_114 rfl ?_
                  have b115 := ty_n hT (q := 57) (B := 9) (by decide) (by decide) (jx b)
                  refine j_ald (n := 8) (j := (jx b)) (v := (nI (jn J 57 (jx b)))) k56_115 hB rfl rfl (by omega) b115.1 ?_
                  refine r_iaddN k56_116 ?_
                  refine r_iload k56_117 rfl ?_
                  refine j_ast (n := 64) (j := ((8 * (jx b)) + (jn J 57 (jx b)))) k56_118 hB rfl rfl (by omega) ?_
                  have hT118 : am_ty2 (am_u2 (am_u2 J 55 ((8 * (jx b)) + (jn J 57 (jx b))) (nI (jx op))) 56 ((8 * (jx b)) + (jn J 57 (jx b))) (nI (jx a))) := ty_w hT101 (tw_a (by decide) (by decide) (by decide))
                  refine r_aload k56_119 rfl ?_
                  refine j_ref (b := 57) k56_120 hB rfl ?_
                  refine r_iload k56_123 rfl ?_
                  refine r_dup2 rfl rfl k56_124 ?_
                  have b125 := ty_n hT (q := 57) (B := 9) (by decide) (by decide) (jx b)
                  refine j_ald (n := 8) (j := (jx b)) (v := (nI (jn J 57 (jx b)))) k56_125 hB rfl rfl (by omega) b125.1 ?_
                  refine r_pushn (v := nI 1) k56_126 rfl ?_
                  refine r_iaddN k56_127 ?_
                  refine r_dupx2 rfl rfl rfl k56_128 ?_
                  refine j_ast (n := 8) (j := (jx b)) k56_129 hB rfl rfl (by omega) ?_
                  have hT129 : am_ty2 (am_u2 (am_u2 (am_u2 J 55 ((8 * (jx b)) + (jn J 57 (jx b))) (nI (jx op))) 56 ((8 * (jx b)) + (jn J 57 (jx b))) (nI (jx a))) 57 (jx b) (nI ((jn J 57 (jx b)) + 1))) := ty_w hT118 (tw_n (B := 9) (by decide) (by decide) (by decide) (by omega))
                  have e9 : R_step J b op a = (((nI ((jn J 57 (jx b)) + 1)), am_u2 (am_u2 (am_u2 J 55 ((8 * (jx b)) + (jn J 57 (jx b))) (nI (jx op))) 56 ((8 * (jx b)) + (jn J 57 (jx b))) (nI (jx a))) 57 (jx b) (nI ((jn J 57 (jx b)) + 1)))) := by unfold R_step; rw [am_ite_t z7, am_ite_t z17, am_ite_t z26, am_ite_t z35, am_ite_t z41, am_ite_t z50, am_ite_f z56, am_ite_f z79]
                  exact r_iret k56_130 rfl ⟨by rw [e9], by rw [e9], by rw [e9]; exact hT129⟩
                · refine r_pushn (v := (-3)) k56_82 rfl ?_
                  have e9 : R_step J b op a = ((((-3)), J)) := by unfold R_step; rw [am_ite_t z7, am_ite_t z17, am_ite_t z26, am_ite_t z35, am_ite_t z41, am_ite_t z50, am_ite_f z56, am_ite_t z79]
                  exact r_iret k56_84 rfl ⟨by rw [e9], by rw [e9], by rw [e9]; exact hT⟩
              · refine r_iload k56_59 rfl ?_
                refine r_pushn (v := nI 0) k56_60 rfl ?_
                refine r_pushn (v := nI 11) k56_61 rfl ?_
                refine j_call (ml := 3) k56_63 rfl (show 0 < d.1 by omega) (show 19 + 3 ≤ d.2 by omega) ⟨Nat.le_of_ble_eq_true rfl, Nat.le_of_ble_eq_true rfl, True.intro, Nat.le_of_ble_eq_true rfl⟩ rfl (rest := []) rfl (s_r_is (nI (jx a)) (nI 0) (nI 11)) (fun r h1 hq => ?_)
                obtain ⟨rfl, rfl⟩ := hq
                show am_wp _ _ _ [some (.ref 36), some (.int (nI (jx b))), some (.int (nI (jx op))), some (.int (nI (jx a)))] [.int (am_b (r_is (nI (jx a)) (nI 0) (nI 11)))] _ _
                refine r_ifneB k56_66 (fun z66 => ?_) (fun z66 => ?_)
                · refine r_aload k56_71 rfl ?_
                  refine j_ref (b := 57) k56_72 hB rfl ?_
                  refine r_iload k56_75 rfl ?_
                  have b76 := ty_n hT (q := 57) (B := 9) (by decide) (by decide) (jx b)
                  refine j_ald (n := 8) (j := (jx b)) (v := (nI (jn J 57 (jx b)))) k56_76 hB rfl rfl (by omega) b76.1 ?_
                  refine r_pushn (v := nI 8) k56_77 rfl ?_
                  refine r_icmpneN (by omega) (by omega) k56_79 (fun z79 => ?_) (fun z79 => ?_)
                  · refine r_aload k56_85 rfl ?_
                    refine j_ref (b := 55) k56_86 hB rfl ?_
                    refine r_pushn (v := nI 8) k56_89 rfl ?_
                    refine r_iload k56_91 rfl ?_
                    refine r_imulN k56_92 ?_
                    refine r_aload k56_93 rfl ?_
                    refine j_ref (b := 57) k56_94 hB rfl ?_
                    refine r_iload k56_97 rfl ?_
                    have b98 := ty_n hT (q := 57) (B := 9) (by decide) (by decide) (jx b)
                    refine j_ald (n := 8) (j := (jx b)) (v := (nI (jn J 57 (jx b)))) k56_98 hB rfl rfl (by omega) b98.1 ?_
                    refine r_iaddN k56_99 ?_
                    refine r_iload k56_100 rfl ?_
                    refine j_ast (n := 64) (j := ((8 * (jx b)) + (jn J 57 (jx b)))) k56_101 hB rfl rfl (by omega) ?_
                    have hT101 : am_ty2 (am_u2 J 55 ((8 * (jx b)) + (jn J 57 (jx b))) (nI (jx op))) := ty_w hT (tw_n (B := 10) (by decide) (by decide) (by decide) (by omega))
                    refine r_aload k56_102 rfl ?_
                    refine j_ref (b := 56) k56_103 hB rfl ?_
                    refine r_pushn (v := nI 8) k56_106 rfl ?_
                    refine r_iload k56_108 rfl ?_
                    refine r_imulN k56_109 ?_
                    refine r_aload k56_110 rfl ?_
                    refine j_ref (b := 57) k56_111 hB rfl ?_
                    refine r_iload k56_114 rfl ?_
                    have b115 := ty_n hT (q := 57) (B := 9) (by decide) (by decide) (jx b)
                    refine j_ald (n := 8) (j := (jx b)) (v := (nI (jn J 57 (jx b)))) k56_115 hB rfl rfl (by omega) b115.1 ?_
                    refine r_iaddN k56_116 ?_
                    refine r_iload k56_117 rfl ?_
                    refine j_ast (n := 64) (j := ((8 * (jx b)) + (jn J 57 (jx b)))) k56_118 hB rfl rfl (by omega) ?_
                    have hT118 : am_ty2 (am_u2 (am_u2 J 55 ((8 * (jx b)) + (jn J 57 (jx b))) (nI (jx op))) 56 ((8 * (jx b)) + (jn J 57 (jx b))) (nI (jx a))) := ty_w hT101 (tw_a (by decide) (by decide) (by decide))
                    refine r_aload k56_119 rfl ?_
                    refine j_ref (b := 57) k56_120 hB rfl ?_
                    refine r_iload k56_123 rfl ?_
                    refine r_dup2 rfl rfl k56_124 ?_
                    have b125 := ty_n hT (q := 57) (B := 9) (by decide) (by decide) (jx b)
                    refine j_ald (n := 8) (j := (jx b)) (v := (nI (jn J 57 (jx b)))) k56_125 hB rfl rfl (by omega) b125.1 ?_
                    refine r_pushn (v := nI 1) k56_126 rfl ?_
                    refine r_iaddN k56_127 ?_
                    refine r_dupx2 rfl rfl rfl k56_128 ?_
                    refine j_ast (n := 8) (j := (jx b)) k56_129 hB rfl rfl (by omega) ?_
                    have hT129 : am_ty2 (am_u2 (am_u2 (am_u2 J 55 ((8 * (jx b)) + (jn J 57 (jx b))) (nI (jx op))) 56 ((8 * (jx b)) + (jn J 57 (jx b))) (nI (jx a))) 57 (jx b) (nI ((jn J 57 (jx b)) + 1))) := ty_w hT118 (tw_n (B := 9) (by decide) (by decide) (by decide) (by omega))
                    have e9 : R_step J b op a = (((nI ((jn J 57 (jx b)) + 1)), am_u2 (am_u2 (am_u2 J 55 ((8 * (jx b)) + (jn J 57 (jx b))) (nI (jx op))) 56 ((8 * (jx b)) + (jn J 57 (jx b))) (nI (jx a))) 57 (jx b) (nI ((jn J 57 (jx b)) + 1)))) := by unfold R_step; rw [am_ite_t z7, am_ite_t z17, am_ite_t z26, am_ite_t z35, am_ite_t z41, am_ite_t z50, am_ite_t z56, am_ite_t z66, am_ite_f z79]
                    exact r_iret k56_130 rfl ⟨by rw [e9], by rw [e9], by rw [e9]; exact hT129⟩
                  · refine r_pushn (v := (-3)) k56_82 rfl ?_
                    have e9 : R_step J b op a = ((((-3)), J)) := by unfold R_step; rw [am_ite_t z7, am_ite_t z17, am_ite_t z26, am_ite_t z35, am_ite_t z41, am_ite_t z50, am_ite_t z56, am_ite_t z66, am_ite_t z79]
                    exact r_iret k56_84 rfl ⟨by rw [e9], by rw [e9], by rw [e9]; exact hT⟩
                · refine r_pushn (v := (-1)) k56_69 rfl ?_
                  have e9 : R_step J b op a = ((((-1)), J)) := by unfold R_step; rw [am_ite_t z7, am_ite_t z17, am_ite_t z26, am_ite_t z35, am_ite_t z41, am_ite_t z50, am_ite_t z56, am_ite_f z66]
                  exact r_iret k56_70 rfl ⟨by rw [e9], by rw [e9], by rw [e9]; exact hT⟩
theorem fr_R_step {J : Nat → Nat → Int32} {b : Int32} {op : Int32} {a : Int32} (q : Nat) (hq : ¬ q = 55 ∧ ¬ q = 56 ∧ ¬ q = 57) : (R_step J b op a).2 q = J q := by
  unfold R_step
  refine fr_i2 (fun _ => ?_) (fun _ => ?_)
  · refine fr_i2 (fun _ => ?_) (fun _ => ?_)
    · refine fr_i2 (fun _ => ?_) (fun _ => ?_)
      · refine fr_i2 (fun _ => ?_) (fun _ => ?_)
        · refine fr_i2 (fun _ => ?_) (fun _ => ?_)
          · refine fr_i2 (fun _ => ?_) (fun _ => ?_)
            · refine fr_i2 (fun _ => ?_) (fun _ => ?_)
              · refine fr_i2 (fun _ => ?_) (fun _ => ?_)
                · refine fr_i2 (fun _ => ?_) (fun _ => ?_)
                  · exact rfl
                  · exact (fr_u (by omega)).trans ((fr_u (by omega)).trans (fr_u (by omega)))
                · exact rfl
              · refine fr_i2 (fun _ => ?_) (fun _ => ?_)
                · exact rfl
                · exact (fr_u (by omega)).trans ((fr_u (by omega)).trans (fr_u (by omega)))
            · exact rfl
          · refine fr_i2 (fun _ => ?_) (fun _ => ?_)
            · refine fr_i2 (fun _ => ?_) (fun _ => ?_)
              · refine fr_i2 (fun _ => ?_) (fun _ => ?_)
                · exact rfl
                · exact (fr_u (by omega)).trans ((fr_u (by omega)).trans (fr_u (by omega)))
              · exact rfl
            · refine fr_i2 (fun _ => ?_) (fun _ => ?_)
              · exact rfl
              · exact (fr_u (by omega)).trans ((fr_u (by omega)).trans (fr_u (by omega)))
        · exact rfl
      · refine fr_i2 (fun _ => ?_) (fun _ => ?_)
        · refine fr_i2 (fun _ => ?_) (fun _ => ?_)
          · refine fr_i2 (fun _ => ?_) (fun _ => ?_)
            · refine fr_i2 (fun _ => ?_) (fun _ => ?_)
              · refine fr_i2 (fun _ => ?_) (fun _ => ?_)
                · exact rfl
                · exact (fr_u (by omega)).trans ((fr_u (by omega)).trans (fr_u (by omega)))
              · exact rfl
            · refine fr_i2 (fun _ => ?_) (fun _ => ?_)
              · exact rfl
              · exact (fr_u (by omega)).trans ((fr_u (by omega)).trans (fr_u (by omega)))
          · exact rfl
        · refine fr_i2 (fun _ => ?_) (fun _ => ?_)
          · refine fr_i2 (fun _ => ?_) (fun _ => ?_)
            · refine fr_i2 (fun _ => ?_) (fun _ => ?_)
              · exact rfl
              · exact (fr_u (by omega)).trans ((fr_u (by omega)).trans (fr_u (by omega)))
            · exact rfl
          · refine fr_i2 (fun _ => ?_) (fun _ => ?_)
            · exact rfl
            · exact (fr_u (by omega)).trans ((fr_u (by omega)).trans (fr_u (by omega)))
    · exact rfl
  · exact rfl
noncomputable def R_has (J : Nat → Nat → Int32) (c : Int32) (nm : Int32) : Int32 := (am_ite (R_class J c) (am_ite (r_is nm (nI 0) (nI 5)) (am_ite (0 ≤ (R_slotOf J (jx c) (jx nm))) ((((nI (jx (R_slotOf J (jx c) (jx nm)))) / (nI 6)))) ((((-1))))) ((((-1))))) ((((-2)))))
set_option maxRecDepth 20000 in
theorem s_R_has {d : am_D} {h : am_H} {J : Nat → Nat → Int32} (hB : am_B h) (hT : am_ty2 J) (c : Int32) (nm : Int32) (hd : 2 ≤ d.1) (hw : 43 ≤ d.2) : am_wp d 72 0 [some (.ref 36), some (.int (c)), some (.int (nm)), none] [] (am_si h J) (fun r h' => r = some (.int (R_has J c nm)) ∧ h' = (am_si h J)) := by
  refine r_aload k72_0 rfl ?_
  refine r_iload k72_1 rfl ?_
  refine j_call (ml := 2) k72_2 rfl (show 0 < d.1 by omega) (show 19 + 2 ≤ d.2 by omega) ⟨Nat.le_of_ble_eq_true rfl, Nat.le_of_ble_eq_true rfl, am_obB hB rfl, Nat.le_of_ble_eq_true rfl⟩ rfl (rest := []) rfl (s_R_class hB hT c (show 1 ≤ d.1 - 1 by omega) (show 22 ≤ d.2 - 21 by omega)) (fun r h1 hq => ?_)
  obtain ⟨rfl, rfl⟩ := hq
  show am_wp _ _ _ [some (.ref 36), some (.int (c)), some (.int (nm)), none] [.int (am_b (R_class J c))] _ _
  refine r_ifneB k72_5 (fun z5 => ?_) (fun z5 => ?_)
  · have e_c := R_class_r z5
    rw [show ([some (.ref 36), some (.int (c)), some (.int (nm)), none] : am_L) = [some (.ref 36), some (.int (nI (jx c))), some (.int (nm)), none] by rw [← e_c.1]]
    refine r_iload k72_11 rfl ?_
    refine r_pushn (v := nI 0) k72_12 rfl ?_
    refine r_pushn (v := nI 5) k72_13 rfl ?_
    refine j_call (ml := 3) k72_14 rfl (show 0 < d.1 by omega) (show 19 + 3 ≤ d.2 by omega) ⟨Nat.le_of_ble_eq_true rfl, Nat.le_of_ble_eq_true rfl, True.intro, Nat.le_of_ble_eq_true rfl⟩ rfl (rest := []) rfl (s_r_is nm (nI 0) (nI 5)) (fun r h1 hq => ?_)
    obtain ⟨rfl, rfl⟩ := hq
    show am_wp _ _ _ [some (.ref 36), some (.int (nI (jx c))), some (.int (nm)), none] [.int (am_b (r_is nm (nI 0) (nI 5)))] _ _
    refine r_ifneB k72_17 (fun z17 => ?_) (fun z17 => ?_)
    · have e_nm := jx_eq (by decide) (show w_in _ _ _ from z17)
      rw [show ([some (.ref 36), some (.int (nI (jx c))), some (.int (nm)), none] : am_L) = [some (.ref 36), some (.int (nI (jx c))), some (.int (nI (jx nm))), none] by rw [← e_nm.1]]
      refine r_aload k72_22 rfl ?_
      refine r_iload k72_23 rfl ?_
      refine r_iload k72_24 rfl ?_
      refine j_call (ml := 5) k72_25 rfl (show 0 < d.1 by omega) (show 19 + 5 ≤ d.2 by omega) ⟨Nat.le_of_ble_eq_true rfl, Nat.le_of_ble_eq_true rfl, am_obB hB rfl, Nat.le_of_ble_eq_true rfl⟩ rfl (rest := []) rfl (s_R_slotOf hB hT (jx c) (jx nm) (by omega) (by omega)) (fun r h1 hq => ?_)
      obtain ⟨rfl, rfl⟩ := hq
      show am_wp _ _ _ [some (.ref 36), some (.int (nI (jx c))), some (.int (nI (jx nm))), none] [.int (R_slotOf J (jx c) (jx nm))] _ _
      refine r_istore (L' := [some (.ref 36), some (.int (nI (jx c))), some (.int (nI (jx nm))), some (.int (R_slotOf J (jx c) (jx nm)))]) k72_28 (Nat.le_of_ble_eq_true rfl) rfl ?_
      refine r_iload k72_29 rfl ?_
      refine r_ifge k72_30 (fun z30 => ?_) (fun z30 => ?_)
      · have c30 := R_slotOf_ng hT (by omega) z30
        rw [show ([some (.ref 36), some (.int (nI (jx c))), some (.int (nI (jx nm))), some (.int (R_slotOf J (jx c) (jx nm)))] : am_L) = [some (.ref 36), some (.int (nI (jx c))), some (.int (nI (jx nm))), some (.int (nI (jx (R_slotOf J (jx c) (jx nm)))))] by rw [← c30.1]]
        refine r_iload k72_37 rfl ?_
        refine r_pushn (v := nI 6) k72_38 rfl ?_
        refine r_idiv (by decide) k72_40 ?_
        have e9 : R_has J c nm = ((((nI (jx (R_slotOf J (jx c) (jx nm)))) / (nI 6)))) := by unfold R_has; rw [am_ite_t z5, am_ite_t z17, am_ite_t z30]
        exact r_iret k72_41 rfl ⟨by rw [e9], rfl⟩
      · refine r_pushn (v := (-1)) k72_33 rfl ?_
        refine r_goto k72_34 ?_
        have e9 : R_has J c nm = ((((-1)))) := by unfold R_has; rw [am_ite_t z5, am_ite_t z17, am_ite_f z30]
        exact r_iret k72_41 rfl ⟨by rw [e9], rfl⟩
    · refine r_pushn (v := (-1)) k72_20 rfl ?_
      have e9 : R_has J c nm = ((((-1)))) := by unfold R_has; rw [am_ite_t z5, am_ite_f z17]
      exact r_iret k72_21 rfl ⟨by rw [e9], rfl⟩
  · refine r_pushn (v := (-2)) k72_8 rfl ?_
    have e9 : R_has J c nm = ((((-2)))) := by unfold R_has; rw [am_ite_f z5]
    exact r_iret k72_10 rfl ⟨by rw [e9], rfl⟩
noncomputable def R_noted (J : Nat → Nat → Int32) (k : Int32) : Int32 := (am_ite (r_is k (nI 0) (nI 19)) (am_ite ((J 73 3) ≤ (nI (jx k))) ((((-2)))) (((J 72 (jx k))))) ((((-2)))))
set_option maxRecDepth 20000 in
theorem s_R_noted {d : am_D} {h : am_H} {J : Nat → Nat → Int32} (hB : am_B h) (hT : am_ty2 J) (k : Int32) (hd : 1 ≤ d.1) (hw : 22 ≤ d.2) : am_wp d 74 0 [some (.ref 36), some (.int (k))] [] (am_si h J) (fun r h' => r = some (.int (R_noted J k)) ∧ h' = (am_si h J)) := by
  refine r_iload k74_0 rfl ?_
  refine r_pushn (v := nI 0) k74_1 rfl ?_
  refine r_pushn (v := nI 19) k74_2 rfl ?_
  refine j_call (ml := 3) k74_4 rfl (show 0 < d.1 by omega) (show 19 + 3 ≤ d.2 by omega) ⟨Nat.le_of_ble_eq_true rfl, Nat.le_of_ble_eq_true rfl, True.intro, Nat.le_of_ble_eq_true rfl⟩ rfl (rest := []) rfl (s_r_is k (nI 0) (nI 19)) (fun r h1 hq => ?_)
  obtain ⟨rfl, rfl⟩ := hq
  show am_wp _ _ _ [some (.ref 36), some (.int (k))] [.int (am_b (r_is k (nI 0) (nI 19)))] _ _
  refine r_ifeqB k74_7 (fun z7 => ?_) (fun z7 => ?_)
  · refine r_pushn (v := (-2)) k74_29 rfl ?_
    have e9 : R_noted J k = ((((-2)))) := by unfold R_noted; rw [am_ite_f z7]
    exact r_iret k74_31 rfl ⟨by rw [e9], rfl⟩
  · have e_k := jx_eq (by decide) (show w_in _ _ _ from z7)
    rw [show ([some (.ref 36), some (.int (k))] : am_L) = [some (.ref 36), some (.int (nI (jx k)))] by rw [← e_k.1]]
    refine r_iload k74_10 rfl ?_
    refine r_aload k74_11 rfl ?_
    refine j_ref (b := 73) k74_12 hB rfl ?_
    refine r_pushn (v := nI 3) k74_15 rfl ?_
    refine j_ald (n := 10) (j := 3) (v := (J 73 3)) k74_16 hB rfl rfl (by omega) rfl ?_
    refine r_icmpge k74_17 (fun z17 => ?_) (fun z17 => ?_)
    · refine r_pushn (v := (-2)) k74_29 rfl ?_
      have e9 : R_noted J k = ((((-2)))) := by unfold R_noted; rw [am_ite_t z7, am_ite_t z17]
      exact r_iret k74_31 rfl ⟨by rw [e9], rfl⟩
    · refine r_aload k74_20 rfl ?_
      refine j_ref (b := 72) k74_21 hB rfl ?_
      refine r_iload k74_24 rfl ?_
      refine j_ald (n := 20) (j := (jx k)) (v := (J 72 (jx k))) k74_25 hB rfl rfl (by omega) rfl ?_
      refine r_goto k74_26 ?_
      have e9 : R_noted J k = (((J 72 (jx k)))) := by unfold R_noted; rw [am_ite_t z7, am_ite_f z17]
      exact r_iret k74_31 rfl ⟨by rw [e9], rfl⟩
noncomputable def R_prec (J : Nat → Nat → Int32) (c : Int32) (k : Int32) : Int32 := (am_ite (R_class J c) (am_ite (r_is k (nI 0) ((nI (jn J 40 (jx c))) - (nI 1))) (((nI (jn J 39 ((12 * (jx c)) + (jx k)))))) ((((-2))))) ((((-2)))))
set_option maxRecDepth 20000 in
theorem s_R_prec {d : am_D} {h : am_H} {J : Nat → Nat → Int32} (hB : am_B h) (hT : am_ty2 J) (c : Int32) (k : Int32) (hd : 2 ≤ d.1) (hw : 43 ≤ d.2) : am_wp d 71 0 [some (.ref 36), some (.int (c)), some (.int (k))] [] (am_si h J) (fun r h' => r = some (.int (R_prec J c k)) ∧ h' = (am_si h J)) := by
  refine r_aload k71_0 rfl ?_
  refine r_iload k71_1 rfl ?_
  refine j_call (ml := 2) k71_2 rfl (show 0 < d.1 by omega) (show 19 + 2 ≤ d.2 by omega) ⟨Nat.le_of_ble_eq_true rfl, Nat.le_of_ble_eq_true rfl, am_obB hB rfl, Nat.le_of_ble_eq_true rfl⟩ rfl (rest := []) rfl (s_R_class hB hT c (show 1 ≤ d.1 - 1 by omega) (show 22 ≤ d.2 - 21 by omega)) (fun r h1 hq => ?_)
  obtain ⟨rfl, rfl⟩ := hq
  show am_wp _ _ _ [some (.ref 36), some (.int (c)), some (.int (k))] [.int (am_b (R_class J c))] _ _
  refine r_ifeqB k71_5 (fun z5 => ?_) (fun z5 => ?_)
  · refine r_pushn (v := (-2)) k71_38 rfl ?_
    have e9 : R_prec J c k = ((((-2)))) := by unfold R_prec; rw [am_ite_f z5]
    exact r_iret k71_40 rfl ⟨by rw [e9], rfl⟩
  · have e_c := R_class_r z5
    rw [show ([some (.ref 36), some (.int (c)), some (.int (k))] : am_L) = [some (.ref 36), some (.int (nI (jx c))), some (.int (k))] by rw [← e_c.1]]
    refine r_iload k71_8 rfl ?_
    refine r_pushn (v := nI 0) k71_9 rfl ?_
    refine r_aload k71_10 rfl ?_
    refine j_ref (b := 40) k71_11 hB rfl ?_
    refine r_iload k71_14 rfl ?_
    have b15 := ty_n hT (q := 40) (B := 13) (by decide) (by decide) (jx c)
    refine j_ald (n := 12) (j := (jx c)) (v := (nI (jn J 40 (jx c)))) k71_15 hB rfl rfl (by omega) b15.1 ?_
    refine r_pushn (v := nI 1) k71_16 rfl ?_
    refine r_isub k71_17 ?_
    refine j_call (ml := 3) k71_18 rfl (show 0 < d.1 by omega) (show 19 + 3 ≤ d.2 by omega) ⟨Nat.le_of_ble_eq_true rfl, Nat.le_of_ble_eq_true rfl, True.intro, Nat.le_of_ble_eq_true rfl⟩ rfl (rest := []) rfl (s_r_is k (nI 0) ((nI (jn J 40 (jx c))) - (nI 1))) (fun r h1 hq => ?_)
    obtain ⟨rfl, rfl⟩ := hq
    show am_wp _ _ _ [some (.ref 36), some (.int (nI (jx c))), some (.int (k))] [.int (am_b (r_is k (nI 0) ((nI (jn J 40 (jx c))) - (nI 1))))] _ _
    refine r_ifeqB k71_21 (fun z21 => ?_) (fun z21 => ?_)
    · refine r_pushn (v := (-2)) k71_38 rfl ?_
      have e9 : R_prec J c k = ((((-2)))) := by unfold R_prec; rw [am_ite_t z5, am_ite_f z21]
      exact r_iret k71_40 rfl ⟨by rw [e9], rfl⟩
    · have e_k := w_in_lt (by omega) (show w_in _ _ _ from z21)
      rw [show ([some (.ref 36), some (.int (nI (jx c))), some (.int (k))] : am_L) = [some (.ref 36), some (.int (nI (jx c))), some (.int (nI (jx k)))] by rw [← e_k.1]]
      refine r_aload k71_24 rfl ?_
      refine j_ref (b := 39) k71_25 hB rfl ?_
      refine r_pushn (v := nI 12) k71_28 rfl ?_
      refine r_iload k71_30 rfl ?_
      refine r_imulN k71_31 ?_
      refine r_iload k71_32 rfl ?_
      refine r_iaddN k71_33 ?_
      have b34 := ty_n hT (q := 39) (B := 12) (by decide) (by decide) ((12 * (jx c)) + (jx k))
      refine j_ald (n := 144) (j := ((12 * (jx c)) + (jx k))) (v := (nI (jn J 39 ((12 * (jx c)) + (jx k))))) k71_34 hB rfl rfl (by omega) b34.1 ?_
      refine r_goto k71_35 ?_
      have e9 : R_prec J c k = (((nI (jn J 39 ((12 * (jx c)) + (jx k)))))) := by unfold R_prec; rw [am_ite_t z5, am_ite_t z21]
      exact r_iret k71_40 rfl ⟨by rw [e9], rfl⟩
