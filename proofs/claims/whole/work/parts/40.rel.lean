/-! The class (store K) and the reference (store L), cell against cell: classes and bodies. -/
/-- classes: the same slots, lengths, rows and supers; a class is there where its row has a length -/
def rl_C (K L : Nat → Nat → Int32) : Prop := K 6 = L 43 ∧ K 7 = L 44 ∧ K 5 = L 40 ∧ K 4 = L 39 ∧ K 3 = L 38 ∧ ∀ c, (jn L 37 c = 1 ↔ ¬ jn K 5 c = 0)
def rl_B (K L : Nat → Nat → Int32) : Prop := K 28 = L 57 ∧ K 29 = L 55 ∧ K 30 = L 56
theorem jn_e {K L : Nat → Nat → Int32} {q r j : Nat} (h : K q = L r) : jn L r j = jn K q j := by unfold jn; rw [h]
theorem rl_is {n lo hi : Int32} : r_is n lo hi = w_in n lo hi := rfl
theorem rl_th {K L : Nat → Nat → Int32} (hL : am_ty2 L) (h : rl_C K L) {c : Int32} : R_class L c = C_there K c := by
  unfold R_class C_there
  rw [rl_is]
  by_cases z : w_in c (nI 0) (nI 11)
  · rw [am_ite_t z, am_ite_t z]
    have g := h.2.2.2.2.2 (jx c)
    by_cases z2 : (jn K 5 (jx c)) = 0
    · rw [am_ite_t z2]
      have b := ty_n hL (q := 37) (B := 2) (by decide) (by decide) (jx c)
      have e : ¬ jn L 37 (jx c) = 1 := fun e => g.mp e z2
      by_cases z3 : (jn L 37 (jx c)) = 0
      · rw [am_ite_t z3]
      · exact absurd (show jn L 37 (jx c) = 1 by omega) e
    · rw [am_ite_f z2]
      have e := g.mpr z2
      rw [am_ite_f (by omega)]
  · rw [am_ite_f z, am_ite_f z]
/-- clear answers alike, and the bodies stay alike -/
theorem eq_clear {K L : Nat → Nat → Int32} (h : rl_B K L) {b : Int32} : (D_clear K b).1 = (R_clear L b).1 ∧ rl_B (D_clear K b).2 (R_clear L b).2 := by
  unfold D_clear R_clear
  rw [rl_is, show w_body b = w_in b (nI 0) (nI 7) from rfl]
  by_cases z : w_in b (nI 0) (nI 7)
  · rw [am_ite_t z, am_ite_t z]
    refine ⟨?_, ?_, h.2.1, h.2.2⟩
    · show nI (jn K 28 (jx b)) = nI (jn L 57 (jx b))
      rw [jn_e h.1]
    · show (am_u2 K 28 (jx b) (nI 0)) 28 = (am_u2 L 57 (jx b) (nI 0)) 57
      funext j
      show (if j = jx b then nI 0 else K 28 j) = (if j = jx b then nI 0 else L 57 j)
      rw [h.1]
  · rw [am_ite_f z, am_ite_f z]
    exact ⟨rfl, h⟩
/-- precedence answers alike -/
theorem eq_prec {K L : Nat → Nat → Int32} (hL : am_ty2 L) (h : rl_C K L) {c k : Int32} : D_prec K c k = R_prec L c k := by
  unfold D_prec R_prec
  rw [rl_th hL h]
  by_cases z : C_there K c
  · rw [am_ite_t z, am_ite_t z]
    unfold C_prec
    rw [rl_is, jn_e h.2.2.1]
    by_cases z2 : w_in k (nI 0) ((nI (jn K 5 (jx c))) - (nI 1))
    · rw [am_ite_t z2, am_ite_t z2, jn_e h.2.2.2.1, Nat.mul_comm]
    · rw [am_ite_f z2, am_ite_f z2]
  · rw [am_ite_f z, am_ite_f z]
/-- slot answers alike, and the classes stay alike -/
theorem eq_slot {K L : Nat → Nat → Int32} (hL : am_ty2 L) (h : rl_C K L) {c nm how v : Int32} : (D_slot K c nm how v).1 = (R_slot L c nm how v).1 ∧ rl_C (D_slot K c nm how v).2 (R_slot L c nm how v).2 := by
  unfold D_slot R_slot
  rw [rl_is, rl_is, rl_th hL h, show w_name nm = w_in nm (nI 0) (nI 5) from rfl]
  by_cases z1 : w_in nm (nI 0) (nI 5)
  · rw [am_ite_t z1, am_ite_t z1]
    by_cases z2 : w_in how (nI 0) (nI 3)
    · rw [am_ite_t z2, am_ite_t z2]
      by_cases z3 : C_there K c
      · rw [am_ite_t z3, am_ite_t z3]
        refine ⟨rfl, ?_, ?_, h.2.2⟩
        · show (am_u2 K 6 (((jx c) * 6) + (jx nm)) (nI (jx how))) 6 = (am_u2 L 43 ((6 * (jx c)) + (jx nm)) (nI (jx how))) 43
          funext j
          show (if j = ((jx c) * 6) + (jx nm) then nI (jx how) else K 6 j) = (if j = (6 * (jx c)) + (jx nm) then nI (jx how) else L 43 j)
          rw [h.1, Nat.mul_comm]
        · show (am_u2 K 7 (((jx c) * 6) + (jx nm)) v) 7 = (am_u2 L 44 ((6 * (jx c)) + (jx nm)) v) 44
          funext j
          show (if j = ((jx c) * 6) + (jx nm) then v else K 7 j) = (if j = (6 * (jx c)) + (jx nm) then v else L 44 j)
          rw [h.2.1, Nat.mul_comm]
      · rw [am_ite_f z3, am_ite_f z3]
        exact ⟨rfl, h⟩
    · rw [am_ite_f z2, am_ite_f z2]
      exact ⟨rfl, h⟩
  · rw [am_ite_f z1, am_ite_f z1]
    exact ⟨rfl, h⟩
/-- what holder and slotOf find -/
theorem rl_hl {K L : Nat → Nat → Int32} (hK : am_ty2 K) (h : rl_C K L) {c nm : Nat} : ∀ m k, (C_hl c nm m k K = -1 ∧ R_sl c nm m k L = -1) ∨ ∃ e, e < 12 ∧ C_hl c nm m k K = nI e ∧ R_sl c nm m k L = nI (6 * e + nm) ∧ ¬ jn K 6 (e * 6 + nm) = 0 := by
  intro m
  induction m with
  | zero => intro k; exact Or.inl ⟨rfl, rfl⟩
  | succ m ih =>
    intro k
    rw [C_hl, R_sl]
    have e1 : jn L 39 ((12 * c) + k) = jn K 4 ((c * 12) + k) := by rw [jn_e h.2.2.2.1, Nat.mul_comm]
    rw [e1]
    have e2 : jn L 43 ((6 * (jn K 4 ((c * 12) + k))) + nm) = jn K 6 (((jn K 4 ((c * 12) + k)) * 6) + nm) := by rw [jn_e h.1, Nat.mul_comm]
    rw [e2]
    have b := ty_n hK (q := 4) (B := 12) (by decide) (by decide) ((c * 12) + k)
    by_cases z : (jn K 6 (((jn K 4 ((c * 12) + k)) * 6) + nm)) = 0
    · rw [am_ite_t z, am_ite_t z]; exact ih (k + 1)
    · rw [am_ite_f z, am_ite_f z]; exact Or.inr ⟨_, b.2, rfl, rfl, z⟩
theorem rl_holder {K L : Nat → Nat → Int32} (hK : am_ty2 K) (h : rl_C K L) {c nm : Nat} : (C_holder K c nm = -1 ∧ R_slotOf L c nm = -1) ∨ ∃ e, e < 12 ∧ C_holder K c nm = nI e ∧ R_slotOf L c nm = nI (6 * e + nm) ∧ ¬ jn K 6 (e * 6 + nm) = 0 := by
  unfold C_holder R_slotOf
  rw [jn_e h.2.2.1]
  exact rl_hl hK h _ _
/-- has answers alike -/
theorem eq_has {K L : Nat → Nat → Int32} (hK : am_ty2 K) (hL : am_ty2 L) (h : rl_C K L) {c nm : Int32} : D_has K c nm = R_has L c nm := by
  unfold D_has R_has
  rw [rl_th hL h, rl_is]
  by_cases z : C_there K c
  · rw [am_ite_t z, am_ite_t z]
    by_cases z2 : w_in nm (nI 0) (nI 5)
    · rw [am_ite_t (show w_name nm from z2), am_ite_t z2]
      have g := jx_eq (by decide) z2
      rcases rl_holder hK h (c := jx c) (nm := jx nm) with ⟨e1, e2⟩ | ⟨e, he, e1, e2, _⟩
      · rw [e1, e2, am_ite_f (by decide)]
      · rw [e1, e2, am_ite_t (nI_pos' (by omega)), jx_nI (by omega), pk_div (by omega) (by decide) (by decide)]
        congr 1
        omega
    · rw [am_ite_f (show ¬ w_name nm from z2), am_ite_f z2]
  · rw [am_ite_f z, am_ite_f z]
/-- places in a row are alike -/
theorem rl_pl {K L : Nat → Nat → Int32} (h : rl_C K L) {c : Nat} {x : Int32} : ∀ m k, C_pl c x m k K = R_pl c x m k L := by
  intro m
  induction m with
  | zero => intro k; rfl
  | succ m ih =>
    intro k
    rw [C_pl, R_pl, jn_e h.2.2.2.1, Nat.mul_comm 12 c, ih (k + 1)]
theorem rl_place {K L : Nat → Nat → Int32} (h : rl_C K L) {c : Nat} {x : Int32} : C_place K c x = R_place L c x := by
  unfold C_place R_place
  rw [jn_e h.2.2.1]
  exact rl_pl h _ _
