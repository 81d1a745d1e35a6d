/-! The class and the reference, cell against cell: classes and bodies. -/
/-- classes: the same slots, lengths, rows and supers; a class is there where its row has a length -/
def rl_C (J : Nat → Nat → Int32) : Prop := J 6 = J 43 ∧ J 7 = J 44 ∧ J 5 = J 40 ∧ J 4 = J 39 ∧ J 3 = J 38 ∧ ∀ c, (jn J 37 c = 1 ↔ ¬ jn J 5 c = 0)
def rl_B (J : Nat → Nat → Int32) : Prop := J 28 = J 57 ∧ J 29 = J 55 ∧ J 30 = J 56
theorem rl_is {n lo hi : Int32} : r_is n lo hi = w_in n lo hi := rfl
theorem rl_th {J : Nat → Nat → Int32} (hT : am_ty2 J) (h : rl_C J) {c : Int32} : R_class J c = C_there J c := by
  unfold R_class C_there
  rw [rl_is]
  by_cases z : w_in c (nI 0) (nI 11)
  · rw [am_ite_t z, am_ite_t z]
    have g := h.2.2.2.2.2 (jx c)
    by_cases z2 : (jn J 5 (jx c)) = 0
    · rw [am_ite_t z2]
      have b := ty_n hT (q := 37) (B := 2) (by decide) (by decide) (jx c)
      have e : ¬ jn J 37 (jx c) = 1 := fun e => g.mp e z2
      by_cases z3 : (jn J 37 (jx c)) = 0
      · rw [am_ite_t z3]
      · exact absurd (show jn J 37 (jx c) = 1 by omega) e
    · rw [am_ite_f z2]
      have e := g.mpr z2
      rw [am_ite_f (by omega)]
  · rw [am_ite_f z, am_ite_f z]
/-- clear answers alike, and the bodies stay alike -/
theorem eq_clear {J : Nat → Nat → Int32} (h : rl_B J) {b : Int32} : (D_clear J b).1 = (R_clear (D_clear J b).2 b).1 ∧ rl_B (R_clear (D_clear J b).2 b).2 := by
  unfold D_clear R_clear
  rw [rl_is, show w_body b = w_in b (nI 0) (nI 7) from rfl]
  by_cases z : w_in b (nI 0) (nI 7)
  · rw [am_ite_t z, am_ite_t z]
    refine ⟨?_, ?_, h.2.1, h.2.2⟩
    · show nI (jn J 28 (jx b)) = nI (jn J 57 (jx b))
      unfold jn; rw [h.1]
    · show (am_u2 J 28 (jx b) (nI 0)) 28 = (am_u2 J 57 (jx b) (nI 0)) 57
      funext j
      show (if j = jx b then nI 0 else J 28 j) = (if j = jx b then nI 0 else J 57 j)
      rw [h.1]
  · rw [am_ite_f z, am_ite_f z]
    exact ⟨rfl, h⟩
/-- precedence answers alike -/
theorem eq_prec {J : Nat → Nat → Int32} (hT : am_ty2 J) (h : rl_C J) {c k : Int32} : D_prec J c k = R_prec J c k := by
  unfold D_prec R_prec
  rw [rl_th hT h]
  by_cases z : C_there J c
  · rw [am_ite_t z, am_ite_t z]
    unfold C_prec
    rw [rl_is]
    have e : jn J 40 (jx c) = jn J 5 (jx c) := by unfold jn; rw [h.2.2.1]
    rw [e]
    by_cases z2 : w_in k (nI 0) ((nI (jn J 5 (jx c))) - (nI 1))
    · rw [am_ite_t z2, am_ite_t z2]
      have e2 : jn J 39 ((12 * (jx c)) + (jx k)) = jn J 4 (((jx c) * 12) + (jx k)) := by unfold jn; rw [h.2.2.2.1, Nat.mul_comm]
      rw [e2]
    · rw [am_ite_f z2, am_ite_f z2]
  · rw [am_ite_f z, am_ite_f z]
/-- slot answers alike, and the classes stay alike -/
theorem eq_slot {J : Nat → Nat → Int32} (hT : am_ty2 J) (h : rl_C J) {c nm how v : Int32} : (D_slot J c nm how v).1 = (R_slot (D_slot J c nm how v).2 c nm how v).1 ∧ rl_C (R_slot (D_slot J c nm how v).2 c nm how v).2 := by
  unfold D_slot
  by_cases z1 : w_name nm
  · rw [am_ite_t z1]
    by_cases z2 : w_in how (nI 0) (nI 3)
    · rw [am_ite_t z2]
      by_cases z3 : C_there J c
      · rw [am_ite_t z3]
        have e : R_class (C_setSlot J (jx c) (jx nm) (jx how) v) c = C_there J c := rl_th (J := J) hT h
        unfold R_slot
        rw [rl_is, rl_is, am_ite_t (show w_in nm (nI 0) (nI 5) from z1), am_ite_t z2, e, am_ite_t z3]
        refine ⟨rfl, ?_, ?_, h.2.2⟩
        · show (am_u2 J 6 (((jx c) * 6) + (jx nm)) (nI (jx how))) 6 = (am_u2 J 43 ((6 * (jx c)) + (jx nm)) (nI (jx how))) 43
          funext j
          show (if j = ((jx c) * 6) + (jx nm) then nI (jx how) else J 6 j) = (if j = (6 * (jx c)) + (jx nm) then nI (jx how) else J 43 j)
          rw [h.1, Nat.mul_comm]
        · show (am_u2 J 7 (((jx c) * 6) + (jx nm)) v) 7 = (am_u2 J 44 ((6 * (jx c)) + (jx nm)) v) 44
          funext j
          show (if j = ((jx c) * 6) + (jx nm) then v else J 7 j) = (if j = (6 * (jx c)) + (jx nm) then v else J 44 j)
          rw [h.2.1, Nat.mul_comm]
      · rw [am_ite_f z3]
        unfold R_slot
        rw [rl_is, rl_is, am_ite_t (show w_in nm (nI 0) (nI 5) from z1), am_ite_t z2, rl_th hT h, am_ite_f z3]
        exact ⟨rfl, h⟩
    · rw [am_ite_f z2]
      unfold R_slot
      rw [rl_is, rl_is, am_ite_t (show w_in nm (nI 0) (nI 5) from z1), am_ite_f z2]
      exact ⟨rfl, h⟩
  · rw [am_ite_f z1]
    unfold R_slot
    rw [rl_is, am_ite_f (show ¬ w_in nm (nI 0) (nI 5) from z1)]
    exact ⟨rfl, h⟩
/-- what holder and slotOf find -/
theorem rl_hl {J : Nat → Nat → Int32} (hT : am_ty2 J) (h : rl_C J) {c nm : Nat} : ∀ m k, (C_hl c nm m k J = -1 ∧ R_sl c nm m k J = -1) ∨ ∃ e, e < 12 ∧ C_hl c nm m k J = nI e ∧ R_sl c nm m k J = nI (6 * e + nm) ∧ ¬ jn J 6 (e * 6 + nm) = 0 := by
  intro m
  induction m with
  | zero => intro k; exact Or.inl ⟨rfl, rfl⟩
  | succ m ih =>
    intro k
    rw [C_hl, R_sl]
    have e1 : jn J 39 ((12 * c) + k) = jn J 4 ((c * 12) + k) := by unfold jn; rw [h.2.2.2.1, Nat.mul_comm]
    rw [e1]
    have e2 : jn J 43 ((6 * (jn J 4 ((c * 12) + k))) + nm) = jn J 6 (((jn J 4 ((c * 12) + k)) * 6) + nm) := by
      rw [Nat.mul_comm]; show (J 43 _).toNatClampNeg = (J 6 _).toNatClampNeg; rw [h.1]
    rw [e2]
    have b := ty_n hT (q := 4) (B := 12) (by decide) (by decide) ((c * 12) + k)
    by_cases z : (jn J 6 (((jn J 4 ((c * 12) + k)) * 6) + nm)) = 0
    · rw [am_ite_t z, am_ite_t z]; exact ih (k + 1)
    · rw [am_ite_f z, am_ite_f z]; exact Or.inr ⟨_, b.2, rfl, rfl, z⟩
theorem rl_holder {J : Nat → Nat → Int32} (hT : am_ty2 J) (h : rl_C J) {c nm : Nat} : (C_holder J c nm = -1 ∧ R_slotOf J c nm = -1) ∨ ∃ e, e < 12 ∧ C_holder J c nm = nI e ∧ R_slotOf J c nm = nI (6 * e + nm) ∧ ¬ jn J 6 (e * 6 + nm) = 0 := by
  unfold C_holder R_slotOf
  have e : jn J 40 c = jn J 5 c := by unfold jn; rw [h.2.2.1]
  rw [e]
  exact rl_hl hT h _ _
/-- has answers alike -/
theorem eq_has {J : Nat → Nat → Int32} (hT : am_ty2 J) (h : rl_C J) {c nm : Int32} : D_has J c nm = R_has J c nm := by
  unfold D_has R_has
  rw [rl_th hT h, rl_is]
  by_cases z : C_there J c
  · rw [am_ite_t z, am_ite_t z]
    by_cases z2 : w_in nm (nI 0) (nI 5)
    · rw [am_ite_t (show w_name nm from z2), am_ite_t z2]
      have g := jx_eq (by decide) z2
      rcases rl_holder hT h (c := jx c) (nm := jx nm) with ⟨e1, e2⟩ | ⟨e, he, e1, e2, _⟩
      · rw [e1, e2, am_ite_f (by decide)]
      · rw [e1, e2, am_ite_t (nI_pos' (by omega)), jx_nI (by omega), pk_div (by omega) (by decide) (by decide)]
        congr 1
        omega
    · rw [am_ite_f (show ¬ w_name nm from z2), am_ite_f z2]
  · rw [am_ite_f z, am_ite_f z]
