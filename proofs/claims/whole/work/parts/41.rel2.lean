/-! The class and the reference, cell against cell: instances and notes. -/
/-- instances: the same classes, layouts, bound names and values; what is bound is in the layout; those not made yet have nothing -/
def rl_I (K L : Nat → Nat → Int32) : Prop := K 11 = L 45 ∧ K 12 = L 46 ∧ K 13 = L 47 ∧ K 14 = L 48 ∧ K 10 5 = L 36 37 ∧ K 10 6 = L 73 7 ∧ (∀ i n, n < 6 → (K 12 i) &&& ((nI 1) <<< ((nI n) &&& 31)) = 0 → (K 13 i) &&& ((nI 1) <<< ((nI n) &&& 31)) = 0) ∧ ∀ i, jn K 10 5 ≤ i → K 12 i = 0 ∧ K 13 i = 0
/-- notes: n were noted; the ring holds the latest of them, the latest first in the reference's row -/
def rl_N (K L : Nat → Nat → Int32) (n : Nat) : Prop := L 73 3 = nI n ∧ K 31 3 = nI n ∧ jn K 31 2 = min n 20 ∧ ∀ k, k < min n 20 → K 32 (((((jn K 31 1) + 20) - 1) - k) % 20) = L 72 k
theorem rl_in {K L : Nat → Nat → Int32} (h : rl_I K L) {i : Int32} : R_inst L i = I_there K i := by
  unfold R_inst I_there
  rw [rl_is, show jn L 36 37 = jn K 10 5 by unfold jn; rw [h.2.2.2.2.1]]
/-- look answers alike -/
theorem eq_look {K L : Nat → Nat → Int32} (h : rl_I K L) {i what : Int32} : D_look K i what = R_look L i what := by
  unfold D_look R_look I_layout I_bound
  rw [rl_in h, ← h.2.1, ← h.2.2.1, jn_e h.1]
/-- noted answers alike -/
theorem eq_noted {K L : Nat → Nat → Int32} {n : Nat} (hn : n < 2 ^ 30) (h : rl_N K L n) {k : Int32} : D_noted K k = R_noted L k := by
  unfold D_noted T_before R_noted
  obtain ⟨h1, h2, h3, h4⟩ := h
  rw [rl_is, h1, h3]
  by_cases z : w_in k (nI 0) ((nI (min n 20)) - (nI 1))
  · have g := w_in_lt (by omega) z
    rw [am_ite_t z]
    have z2 : w_in k (nI 0) (nI 19) := by rw [g.1]; exact w_in_nI (by omega) (by decide)
    rw [am_ite_t z2, am_ite_f (fun q => absurd ((nI_leI (by omega) (by omega)).mp q) (by omega)), h4 (jx k) g.2]
  · rw [am_ite_f z]
    by_cases z2 : w_in k (nI 0) (nI 19)
    · have g := jx_eq (by decide) z2
      rw [am_ite_t z2]
      have hle : n ≤ jx k := by
        rcases Nat.lt_or_ge (jx k) n with q | q
        · exfalso
          apply z
          rw [w_in_iff, pk_sub_toInt (by omega) (by decide), g.1, nI_toInt (by decide), nI_toInt (by omega)]
          constructor
          · omega
          · show (jx k : Int) ≤ _; omega
        · exact q
      rw [am_ite_t ((nI_leI (by omega) (by omega)).mpr hle)]
    · rw [am_ite_f z2]
/-- a note in the ring: the latest is in front -/
theorem rl_take {K L : Nat → Nat → Int32} (hT : am_ty2 K) {n : Nat} (h : rl_N K L n) {a : Int32} : T_take K a 31 3 = nI (n + 1) ∧ jn (T_take K a) 31 2 = min (n + 1) 20 ∧ (T_take K a) 32 (((((jn (T_take K a) 31 1) + 20) - 1) - 0) % 20) = a ∧ ∀ k, k + 1 < min (n + 1) 20 → (T_take K a) 32 (((((jn (T_take K a) 31 1) + 20) - 1) - (k + 1)) % 20) = L 72 k := by
  obtain ⟨h1, h2, h3, h4⟩ := h
  have b := ty_f hT (q := 31) (j := 1) (B := 20) (by decide) (by decide)
  have e1 : jn (T_take K a) 31 1 = (jn K 31 1 + 1) % 20 := by
    show (nI ((jn K 31 1 + 1) % 20)).toNatClampNeg = _
    exact nI_clamp (by omega)
  have e2 : jn (T_take K a) 31 2 = min (jn K 31 2 + 1) 20 := by
    show (nI (min (jn K 31 2 + 1) 20)).toNatClampNeg = _
    exact nI_clamp (by omega)
  have e3 : ∀ j, (T_take K a) 32 j = if j = jn K 31 1 then a else K 32 j := fun j => rfl
  refine ⟨?_, by rw [e2, h3]; omega, ?_, fun k hk => ?_⟩
  · show (K 31 3) + (nI 1) = nI (n + 1)
    rw [h2, nI_add]
  · rw [e1, e3, if_pos (by omega)]
  · rw [e1, e3, if_neg (by omega), ← h4 k (by omega)]
    congr 1
    omega
