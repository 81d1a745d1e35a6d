/-! The fixed cells: shapes and pointers, by program. -/
def am_bs : List am_S := [(9, 0, 0), (0, 0, 0), (0, 1, 0), (1, 0, 36), (1, 0, 144), (1, 0, 12), (1, 0, 72), (1, 0, 72), (1, 0, 12), (1, 0, 12), (0, 2, 0), (1, 0, 12), (1, 0, 12), (1, 0, 12), (1, 0, 72), (0, 3, 0), (1, 0, 5), (1, 0, 16), (1, 0, 16), (1, 0, 16), (1, 0, 16), (1, 0, 16), (0, 4, 0), (2, 9, 720), (1, 0, 5), (1, 0, 5), (1, 0, 16), (0, 5, 0), (1, 0, 8), (1, 0, 64), (1, 0, 64), (0, 6, 0), (1, 0, 20), (0, 7, 0), (2, 8, 12), (2, 10, 192), (0, 11, 0), (3, 0, 12), (1, 0, 36), (1, 0, 144), (1, 0, 12), (1, 0, 36), (1, 0, 12), (1, 0, 72), (1, 0, 72), (1, 0, 12), (1, 0, 12), (1, 0, 12), (1, 0, 72), (1, 0, 5), (1, 0, 16), (1, 0, 16), (1, 0, 16), (1, 0, 16), (1, 0, 16), (1, 0, 64), (1, 0, 64), (1, 0, 8), (3, 0, 720), (1, 0, 832), (1, 0, 52), (1, 0, 13), (1, 0, 13), (1, 0, 13), (1, 0, 320), (1, 0, 320), (1, 0, 320), (1, 0, 320), (1, 0, 320), (1, 0, 320), (1, 0, 320), (1, 0, 320), (1, 0, 20), (1, 0, 10)]
def am_bp : List (Nat × Nat × Nat) := [(2, 0, 3), (2, 1, 4), (2, 2, 5), (2, 3, 6), (2, 4, 7), (2, 6, 8), (2, 7, 9), (1, 0, 2), (10, 0, 2), (10, 1, 11), (10, 2, 12), (10, 3, 13), (10, 4, 14), (1, 1, 10), (15, 0, 16), (15, 1, 17), (15, 2, 18), (15, 3, 19), (15, 4, 20), (15, 5, 21), (1, 2, 15), (22, 3, 23), (22, 4, 24), (22, 5, 25), (22, 6, 26), (22, 0, 2), (22, 1, 10), (22, 2, 15), (1, 3, 22), (27, 0, 28), (27, 1, 29), (27, 2, 30), (1, 4, 27), (31, 0, 32), (1, 5, 31), (33, 6, 34), (33, 7, 35), (33, 0, 2), (33, 1, 10), (33, 2, 15), (33, 3, 22), (33, 4, 27), (33, 5, 31), (1, 6, 33), (36, 0, 37), (36, 1, 38), (36, 2, 39), (36, 3, 40), (36, 4, 41), (36, 5, 42), (36, 6, 43), (36, 7, 44), (36, 8, 45), (36, 9, 46), (36, 10, 47), (36, 11, 48), (36, 12, 49), (36, 13, 50), (36, 14, 51), (36, 15, 52), (36, 16, 53), (36, 17, 54), (36, 18, 55), (36, 19, 56), (36, 20, 57), (36, 21, 58), (36, 22, 59), (36, 23, 60), (36, 24, 61), (36, 25, 62), (36, 26, 63), (36, 27, 64), (36, 28, 65), (36, 29, 66), (36, 30, 67), (36, 31, 68), (36, 32, 69), (36, 33, 70), (36, 34, 71), (36, 35, 72), (36, 36, 73)]
/-- the heap stands on the fixed cells -/
def am_B (h : am_H) : Prop := 74 ≤ am_n h ∧ (∀ q, 0 < q → q < 74 → am_sh h q = am_bs.getD q (9, 0, 0)) ∧ ∀ t ∈ am_bp, am_P h t.1 t.2.1 = some t.2.2
def am_si (h : am_H) (J : Nat → Nat → Int32) : am_H := (h.1, h.2.1, h.2.2.1, J, h.2.2.2.2)
/-- q is a fixed object with an int field cf at place j -/
def am_ckI (q cf j : Nat) : Bool := decide (0 < q ∧ q < 74 ∧ (am_bs.getD q (9, 0, 0)).1 = 0 ∧ (am_bs.getD q (9, 0, 0)).2.1 = cf / 64 ∧ cf % 64 = j ∧ cf % 64 < am_nf (cf / 64)) && !am_rf (cf / 64) (cf % 64) && !am_lg (cf / 64) (cf % 64)
def am_ckP (q cf b : Nat) : Bool := decide (0 < q ∧ q < 74 ∧ (am_bs.getD q (9, 0, 0)).1 = 0 ∧ (am_bs.getD q (9, 0, 0)).2.1 = cf / 64 ∧ cf % 64 < am_nf (cf / 64) ∧ (q, cf % 64, b) ∈ am_bp) && am_rf (cf / 64) (cf % 64)
def am_ckA (q t n : Nat) : Bool := decide (0 < q ∧ q < 74 ∧ (am_bs.getD q (9, 0, 0)).1 = t ∧ (am_bs.getD q (9, 0, 0)).2.2 = n ∧ n < 1000)
theorem am_wI_si {h : am_H} {J : Nat → Nat → Int32} {a j : Nat} {x : Int32} : am_wI (am_si h J) a j x = am_si h (am_u2 J a j x) := rfl
noncomputable def am_ite {α : Type} (p : Prop) (a b : α) : α := @ite α p (Classical.propDecidable p) a b
theorem am_ite_t {α : Type} {p : Prop} {a b : α} (h : p) : am_ite p a b = a := by unfold am_ite; exact if_pos h
theorem am_ite_f {α : Type} {p : Prop} {a b : α} (h : ¬ p) : am_ite p a b = b := by unfold am_ite; exact if_neg h
noncomputable def am_b (p : Prop) : Int32 := @ite Int32 p (Classical.propDecidable p) 1 0
theorem am_b_t {p : Prop} (h : p) : am_b p = 1 := by unfold am_b; exact if_pos h
theorem am_b_f {p : Prop} (h : ¬ p) : am_b p = 0 := by unfold am_b; exact if_neg h
theorem am_b_1 {p : Prop} : am_b p &&& 1 = am_b p := by
  by_cases h : p
  · rw [am_b_t h]; decide
  · rw [am_b_f h]; decide
theorem am_b_iff {p q : Prop} (h : p ↔ q) : am_b p = am_b q := by rw [show p = q from propext h]
section JRU
variable {d : am_D} {mi pc nx : Nat} {L : am_L} {st : List Value} {h : am_H} {J : Nat → Nat → Int32} {Q : Option Value → am_H → Prop}
theorem j_get {cf q j : Nat} {v : Int32} (hat : am_at mi pc = some (.getfield cf, nx)) (hB : am_B h) (hc : am_ckI q cf j = true) (hv : J q j = v) (k : am_wp d mi nx L (.int v :: st) (am_si h J) Q) : am_wp d mi pc L (.ref q :: st) (am_si h J) Q := by
  subst hv
  unfold am_ckI at hc
  simp only [Bool.and_eq_true, decide_eq_true_eq, Bool.not_eq_true'] at hc
  obtain ⟨⟨⟨h0, h1, h2, h3, rfl, h4⟩, h5⟩, h6⟩ := hc
  have hs := hB.2.1 q h0 h1
  exact r_getI hat ⟨h0, Nat.lt_of_lt_of_le h1 hB.1, by show (am_sh h q).1 = 0; rw [hs]; exact h2, by show (am_sh h q).2.1 = _; rw [hs]; exact h3⟩ h4 h5 h6 k
theorem j_ref {cf q b : Nat} (hat : am_at mi pc = some (.getfield cf, nx)) (hB : am_B h) (hc : am_ckP q cf b = true) (k : am_wp d mi nx L (.ref b :: st) (am_si h J) Q) : am_wp d mi pc L (.ref q :: st) (am_si h J) Q := by
  unfold am_ckP at hc
  simp only [Bool.and_eq_true, decide_eq_true_eq] at hc
  obtain ⟨⟨h0, h1, h2, h3, h4, h5⟩, h6⟩ := hc
  have hs := hB.2.1 q h0 h1
  exact r_getP hat ⟨h0, Nat.lt_of_lt_of_le h1 hB.1, by show (am_sh h q).1 = 0; rw [hs]; exact h2, by show (am_sh h q).2.1 = _; rw [hs]; exact h3⟩ h4 h6 (hB.2.2 _ h5) k
theorem j_put {cf q j : Nat} {x : Int32} (hat : am_at mi pc = some (.putfield cf, nx)) (hB : am_B h) (hc : am_ckI q cf j = true) (ht : am_ty (cf / 64) (cf % 64) = .int) (k : am_wp d mi nx L st (am_si h (am_u2 J q j x)) Q) : am_wp d mi pc L (.int x :: .ref q :: st) (am_si h J) Q := by
  unfold am_ckI at hc
  simp only [Bool.and_eq_true, decide_eq_true_eq, Bool.not_eq_true'] at hc
  obtain ⟨⟨⟨h0, h1, h2, h3, rfl, h4⟩, h5⟩, h6⟩ := hc
  have hs := hB.2.1 q h0 h1
  exact r_putI hat ⟨h0, Nat.lt_of_lt_of_le h1 hB.1, by show (am_sh h q).1 = 0; rw [hs]; exact h2, by show (am_sh h q).2.1 = _; rw [hs]; exact h3⟩ h4 h5 h6 (by rw [ht]; rfl) (by rw [ht]; rfl) k
theorem am_ckA_s {q t n : Nat} (hB : am_B h) (hc : am_ckA q t n = true) : am_ay (am_si h J) q t ∧ (am_sh (am_si h J) q).2.2 = n ∧ n < 2 ^ 31 := by
  unfold am_ckA at hc
  simp only [decide_eq_true_eq] at hc
  obtain ⟨h0, h1, h2, h3, h4⟩ := hc
  have hs := hB.2.1 q h0 h1
  exact ⟨⟨h0, Nat.lt_of_lt_of_le h1 hB.1, by show (am_sh h q).1 = t; rw [hs]; exact h2⟩, by show (am_sh h q).2.2 = n; rw [hs]; exact h3, by omega⟩
theorem j_ald {q n j : Nat} {i v : Int32} (hat : am_at mi pc = some (.iaload, nx)) (hB : am_B h) (hc : am_ckA q 1 n = true) (hi : i = nI j) (hj : j < n) (hv : J q j = v) (k : am_wp d mi nx L (.int v :: st) (am_si h J) Q) : am_wp d mi pc L (.int i :: .ref q :: st) (am_si h J) Q := by
  subst hv
  have g := am_ckA_s (J := J) hB hc
  exact r_ild hat g.1 g.2.1 hi hj g.2.2 k
theorem j_zld {q n j : Nat} {i v : Int32} (hat : am_at mi pc = some (.baload, nx)) (hB : am_B h) (hc : am_ckA q 3 n = true) (hi : i = nI j) (hj : j < n) (hv : J q j = v) (k : am_wp d mi nx L (.int v :: st) (am_si h J) Q) : am_wp d mi pc L (.int i :: .ref q :: st) (am_si h J) Q := by
  subst hv
  have g := am_ckA_s (J := J) hB hc
  exact r_zld hat g.1 g.2.1 hi hj g.2.2 k
theorem j_ast {q n j : Nat} {i x : Int32} (hat : am_at mi pc = some (.iastore, nx)) (hB : am_B h) (hc : am_ckA q 1 n = true) (hi : i = nI j) (hj : j < n) (k : am_wp d mi nx L st (am_si h (am_u2 J q j x)) Q) : am_wp d mi pc L (.int x :: .int i :: .ref q :: st) (am_si h J) Q := by
  have g := am_ckA_s (J := J) hB hc
  exact r_ist hat g.1 g.2.1 hi hj g.2.2 k
theorem j_zst {q n j : Nat} {i x : Int32} (hat : am_at mi pc = some (.bastore, nx)) (hB : am_B h) (hc : am_ckA q 3 n = true) (hi : i = nI j) (hj : j < n) (hx : vp_nar .boolean x = x) (k : am_wp d mi nx L st (am_si h (am_u2 J q j x)) Q) : am_wp d mi pc L (.int x :: .int i :: .ref q :: st) (am_si h J) Q := by
  have g := am_ckA_s (J := J) hB hc
  exact r_zst hat g.1 g.2.1 hi hj g.2.2 (by rw [hx]; exact k)
theorem j_call {k ml : Nat} {Lc : am_L} {rest : List Value} {Qc : Option Value → am_H → Prop} {h : am_H} (hat : am_at mi pc = some (.invokestatic k, nx)) (hml : am_ml k = ml) (hd : 0 < d.1) (hw : 19 + ml ≤ d.2) (hcx : am_cx k st h) (hL : am_en ml (st.take (am_na k)).reverse = Lc) (hr : st.drop (am_na k) = rest) (kc : am_wp (d.1 - 1, d.2 - (19 + ml)) k 0 Lc [] h Qc) (kk : ∀ r h1, Qc r h1 → am_wp d mi nx L (r.toList ++ rest) h1 Q) : am_wp d mi pc L st h Q := by
  subst hL; subst hr; subst hml
  exact wp_call hat hd hw hcx kc kk
theorem am_obB {q c : Nat} (hB : am_B h) (hc : decide (0 < q ∧ q < 74 ∧ (am_bs.getD q (9, 0, 0)).1 = 0 ∧ (am_bs.getD q (9, 0, 0)).2.1 = c) = true) : am_ob (am_si h J) q c := by
  simp only [decide_eq_true_eq] at hc
  have hs := hB.2.1 q hc.1 hc.2.1
  exact ⟨hc.1, Nat.lt_of_lt_of_le hc.2.1 hB.1, by show (am_sh h q).1 = 0; rw [hs]; exact hc.2.2.1, by show (am_sh h q).2.1 = _; rw [hs]; exact hc.2.2.2⟩
theorem r_ifeqN {t : Int} {a : Nat} (ha : a < 2 ^ 31) (hat : am_at mi pc = some (.ifCond .eq t, nx)) (kt : a = 0 → am_wp d mi t.toNat L st h Q) (kf : ¬ a = 0 → am_wp d mi nx L st h Q) : am_wp d mi pc L (.int (nI a) :: st) h Q := r_ifeq hat (fun z => kt ((nI_eq ha (by decide)).mp (z.trans nI_0.symm))) (fun z => kf (fun q => z (by rw [q]; rfl)))
theorem r_ifneN {t : Int} {a : Nat} (ha : a < 2 ^ 31) (hat : am_at mi pc = some (.ifCond .ne t, nx)) (kt : ¬ a = 0 → am_wp d mi t.toNat L st h Q) (kf : a = 0 → am_wp d mi nx L st h Q) : am_wp d mi pc L (.int (nI a) :: st) h Q := r_ifne hat (fun z => kt (fun q => z (by rw [q]; rfl))) (fun z => kf ((nI_eq ha (by decide)).mp (z.trans nI_0.symm)))
theorem r_ifltN {t : Int} {a : Nat} (ha : a < 2 ^ 31) (hat : am_at mi pc = some (.ifCond .lt t, nx)) (kf : am_wp d mi nx L st h Q) : am_wp d mi pc L (.int (nI a) :: st) h Q := r_iflt hat (fun z => absurd z (nI_pos ha)) (fun _ => kf)
theorem r_ifgeN {t : Int} {a : Nat} (ha : a < 2 ^ 31) (hat : am_at mi pc = some (.ifCond .ge t, nx)) (kt : am_wp d mi t.toNat L st h Q) : am_wp d mi pc L (.int (nI a) :: st) h Q := r_ifge hat (fun _ => kt) (fun z => absurd (nI_pos' ha) z)
theorem r_ifleN {t : Int} {a : Nat} (ha : a < 2 ^ 31) (hat : am_at mi pc = some (.ifCond .le t, nx)) (kt : a = 0 → am_wp d mi t.toNat L st h Q) (kf : ¬ a = 0 → am_wp d mi nx L st h Q) : am_wp d mi pc L (.int (nI a) :: st) h Q := r_ifle hat (fun z => kt (Nat.le_zero.mp ((nI_leI ha (by decide : 0 < 2 ^ 31)).mp (by rw [nI_0]; exact z)))) (fun z => kf (fun q => z (by rw [q]; decide)))
theorem r_ifgtN {t : Int} {a : Nat} (ha : a < 2 ^ 31) (hat : am_at mi pc = some (.ifCond .gt t, nx)) (kt : ¬ a = 0 → am_wp d mi t.toNat L st h Q) (kf : a = 0 → am_wp d mi nx L st h Q) : am_wp d mi pc L (.int (nI a) :: st) h Q := r_ifgt hat (fun z => kt (fun q => by rw [q] at z; exact absurd z (by decide))) (fun z => kf (Nat.eq_zero_of_not_pos (fun q => z (by have g := (nI_ltI (by decide : 0 < 2 ^ 31) ha).mpr q; rw [nI_0] at g; exact g))))
theorem r_ifeqB {t : Int} {p : Prop} (hat : am_at mi pc = some (.ifCond .eq t, nx)) (kt : ¬ p → am_wp d mi t.toNat L st h Q) (kf : p → am_wp d mi nx L st h Q) : am_wp d mi pc L (.int (am_b p) :: st) h Q := r_ifeq hat (fun z => kt (fun q => by rw [am_b_t q] at z; exact absurd z (by decide))) (fun z => kf (Classical.byContradiction (fun q => z (am_b_f q))))
theorem r_ifneB {t : Int} {p : Prop} (hat : am_at mi pc = some (.ifCond .ne t, nx)) (kt : p → am_wp d mi t.toNat L st h Q) (kf : ¬ p → am_wp d mi nx L st h Q) : am_wp d mi pc L (.int (am_b p) :: st) h Q := r_ifne hat (fun z => kt (Classical.byContradiction (fun q => z (am_b_f q)))) (fun z => kf (fun q => by rw [am_b_t q] at z; exact absurd z (by decide)))
theorem r_iaddN {a b : Nat} (hat : am_at mi pc = some (.iadd, nx)) (k : am_wp d mi nx L (.int (nI (a + b)) :: st) h Q) : am_wp d mi pc L (.int (nI b) :: .int (nI a) :: st) h Q := r_iadd hat (by rw [nI_add]; exact k)
theorem r_imulN {a b : Nat} (hat : am_at mi pc = some (.imul, nx)) (k : am_wp d mi nx L (.int (nI (a * b)) :: st) h Q) : am_wp d mi pc L (.int (nI b) :: .int (nI a) :: st) h Q := r_imul hat (by rw [pk_mul]; exact k)
end JRU
