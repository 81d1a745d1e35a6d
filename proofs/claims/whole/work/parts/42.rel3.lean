/-! Touching: the bits of the locals. -/
def rl_bit (n : Nat) : Int32 := (nI 1) <<< ((nI n) &&& 31)
/-- name n of class c is a local one -/
def rl_good (J : Nat → Nat → Int32) (c n : Nat) : Prop := ¬ R_slotOf J c n < 0 ∧ ¬ jn J 43 (jx (R_slotOf J c n)) = 3
theorem i_or0 {a b : Int32} (h : a ||| b = 0) : b = 0 := by
  have h1 : a.toBitVec ||| b.toBitVec = 0#32 := congrArg Int32.toBitVec h
  exact Int32.toBitVec_inj.mp (BitVec.or_eq_zero_iff.mp h1).2
theorem i_or00 (a : Int32) : a ||| 0 = a := Int32.or_zero
theorem rl_bits : ∀ k, k < 6 → rl_bit k &&& rl_bit k = rl_bit k ∧ ¬ rl_bit k = 0 := by decide
theorem rl_lc {J : Nat → Nat → Int32} {c n : Nat} (hn : n < 6) : ∀ m k w, k + m = 6 → ((R_lc c m k J w) &&& rl_bit n = 0 ↔ (w &&& rl_bit n = 0 ∧ (k ≤ n → ¬ rl_good J c n))) := by
  intro m
  induction m with
  | zero =>
    intro k w hk
    rw [R_lc]
    exact ⟨fun z => ⟨z, fun q => absurd hn (by omega)⟩, fun z => z.1⟩
  | succ m ih =>
    intro k w hk
    rw [R_lc]
    by_cases z1 : (R_slotOf J c k) < 0
    · rw [am_ite_t z1, ih (k + 1) w (by omega)]
      refine ⟨fun z => ⟨z.1, fun q => ?_⟩, fun z => ⟨z.1, fun q => z.2 (by omega)⟩⟩
      by_cases e : n = k
      · rw [e]; exact fun g => g.1 z1
      · exact z.2 (by omega)
    · rw [am_ite_f z1]
      by_cases z2 : (jn J 43 (jx (R_slotOf J c k))) = 3
      · rw [am_ite_t z2, ih (k + 1) w (by omega)]
        refine ⟨fun z => ⟨z.1, fun q => ?_⟩, fun z => ⟨z.1, fun q => z.2 (by omega)⟩⟩
        by_cases e : n = k
        · rw [e]; exact fun g => g.2 z2
        · exact z.2 (by omega)
      · rw [am_ite_f z2, ih (k + 1) _ (by omega), show (w ||| ((nI 1) <<< ((nI k) &&& 31))) &&& rl_bit n = (w &&& rl_bit n) ||| (rl_bit k &&& rl_bit n) from i_orand _ _ _]
        by_cases e : n = k
        · subst e
          have g := rl_bits n hn
          rw [g.1]
          exact ⟨fun z => absurd (i_or0 z.1) g.2, fun z => absurd ⟨z1, z2⟩ (z.2 (Nat.le_refl _))⟩
        · rw [show rl_bit k &&& rl_bit n = 0 from i_bits k (by omega) n hn (fun q => e q.symm), i_or00]
          exact ⟨fun z => ⟨z.1, fun q => z.2 (by omega)⟩, fun z => ⟨z.1, fun q => z.2 (by omega)⟩⟩
/-- a bit of the locals: the name is a local one -/
theorem rl_locals {J : Nat → Nat → Int32} {c n : Nat} (hn : n < 6) : ((R_locals J c) &&& rl_bit n = 0 ↔ ¬ rl_good J c n) := by
  have g := rl_lc (J := J) (c := c) hn 6 0 (nI 0) (by omega)
  have e : (nI 0) &&& rl_bit n = 0 := Int32.zero_and
  unfold R_locals
  exact ⟨fun z => (g.mp z).2 (Nat.zero_le _), fun z => g.mpr ⟨e, fun _ => z⟩⟩
