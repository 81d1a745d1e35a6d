/-! Touching: class and reference do the same. -/
theorem C_hl_congr {J K : Nat → Nat → Int32} (h1 : K 4 = J 4) (h2 : K 6 = J 6) {c nm : Nat} : ∀ m k, C_hl c nm m k K = C_hl c nm m k J := by
  intro m
  induction m with
  | zero => intro k; rfl
  | succ m ih =>
    intro k
    rw [C_hl, C_hl, ih (k + 1)]
    unfold jn
    rw [h1, h2]
theorem C_holder_congr {J K : Nat → Nat → Int32} (h1 : K 4 = J 4) (h2 : K 6 = J 6) (h3 : K 5 = J 5) {c nm : Nat} : C_holder K c nm = C_holder J c nm := by
  unfold C_holder
  rw [C_hl_congr h1 h2]
  unfold jn
  rw [h3]
theorem rl_tl2 {J L : Nat → Nat → Int32} (hT : am_ty2 J) (hC : rl_C J L) {i c : Nat} {old : Int32} (hc : jn J 11 i = c) : ∀ m k K loc, K 4 = J 4 → K 5 = J 5 → K 6 = J 6 → K 11 = J 11 → k + m = 6 → (I_tl i old m k K loc).2 = R_lc c m k L loc := by
  intro m
  induction m with
  | zero => intro k K loc _ _ _ _ _; rw [I_tl, R_lc]
  | succ m ih =>
    intro k K loc h4 h5 h6 h11 hk
    rw [I_tl, R_lc]
    have e0 : C_holder K (jn K 11 i) k = C_holder J c k := by
      have e : jn K 11 i = c := by rw [← hc]; unfold jn; rw [h11]
      rw [e]; exact C_holder_congr h4 h6 h5
    rw [e0]
    rcases rl_holder hT hC (c := c) (nm := k) with ⟨e1, e2⟩ | ⟨e, he, e1, e2, _⟩
    · rw [e1, e2, am_ite_t rfl, am_ite_t (by decide)]
      exact ih (k + 1) _ loc h4 h5 h6 h11 (by omega)
    · have n1 : ¬ nI e = -1 := fun q => by
        have g : ¬ nI e < 0 := nI_pos (by omega)
        exact g (by rw [q]; decide)
      rw [e1, e2, am_ite_f n1, jx_nI (by omega), jx_nI (by omega), am_ite_f (nI_pos (by omega))]
      have e3 : jn L 43 (6 * e + k) = jn J 6 (e * 6 + k) := by rw [jn_e hC.1, Nat.mul_comm]
      have e4 : jn K 6 (e * 6 + k) = jn J 6 (e * 6 + k) := by unfold jn; rw [h6]
      rw [e3]
      by_cases z : jn J 6 (e * 6 + k) = 3
      · have s1 : C_shared K e k := by unfold C_shared; rw [e4, am_ite_t z]; trivial
        rw [am_ite_t s1, am_ite_t z]
        exact ih (k + 1) _ loc h4 h5 h6 h11 (by omega)
      · have s1 : ¬ C_shared K e k := by unfold C_shared; rw [e4, am_ite_f z]; exact fun q => q
        rw [am_ite_f s1, am_ite_f z]
        by_cases z2 : w_isin old (nI k)
        · rw [am_ite_t z2]
          exact ih (k + 1) _ _ h4 h5 h6 h11 (by omega)
        · rw [am_ite_f z2]
          by_cases z3 : C_init K e k
          · rw [am_ite_t z3]
            exact ih (k + 1) _ _ h4 h5 h6 h11 (by omega)
          · rw [am_ite_f z3]
            exact ih (k + 1) _ _ h4 h5 h6 h11 (by omega)
/-- the layout that the class finds is the reference's -/
theorem rl_layout {J L : Nat → Nat → Int32} (hT : am_ty2 J) (hC : rl_C J L) (hI : J 11 = L 45) {i : Nat} {old : Int32} : (I_tl i old 6 0 J (nI 0)).2 = R_locals L (jn L 45 i) := by
  rw [jn_e hI]
  exact rl_tl2 hT hC rfl 6 0 J (nI 0) rfl rfl rfl rfl (by omega)
