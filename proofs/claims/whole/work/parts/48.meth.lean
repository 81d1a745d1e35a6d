/-! Counting; bodies: step answers alike. -/
noncomputable def cn_of (p : Nat → Prop) : Nat → Nat
  | 0 => 0
  | n + 1 => cn_of p n + am_ite (p n) 1 0
theorem cn_t {p : Nat → Prop} {n : Nat} (h : p n) : cn_of p (n + 1) = cn_of p n + 1 := by rw [cn_of, am_ite_t h]
theorem cn_f {p : Nat → Prop} {n : Nat} (h : ¬ p n) : cn_of p (n + 1) = cn_of p n := by rw [cn_of, am_ite_f h]; rfl
theorem cn_congr {p q : Nat → Prop} : ∀ n, (∀ i, i < n → (p i ↔ q i)) → cn_of p n = cn_of q n := by
  intro n
  induction n with
  | zero => intro _; rfl
  | succ n ih =>
    intro h
    have e := ih (fun i hi => h i (by omega))
    by_cases z : p n
    · rw [cn_t z, cn_t ((h n (by omega)).mp z), e]
    · rw [cn_f z, cn_f (fun q => z ((h n (by omega)).mpr q)), e]
theorem cn_le {p : Nat → Prop} : ∀ n, cn_of p n ≤ n := by
  intro n
  induction n with
  | zero => exact Nat.le_refl _
  | succ n ih =>
    by_cases z : p n
    · rw [cn_t z]; omega
    · rw [cn_f z]; omega
theorem cn_set {p q : Nat → Prop} {j : Nat} (hp : ¬ p j) (hq : q j) : ∀ n, j < n → (∀ i, i < n → ¬ i = j → (p i ↔ q i)) → cn_of q n = cn_of p n + 1 := by
  intro n
  induction n with
  | zero => intro h; exact absurd h (by omega)
  | succ n ih =>
    intro hj h
    by_cases e : j = n
    · subst e
      rw [cn_t hq, cn_f hp, cn_congr j (fun i hi => h i (by omega) (by omega))]
    · have g := ih (by omega) (fun i hi => h i (by omega))
      by_cases z : p n
      · rw [cn_t z, cn_t ((h n (by omega) (fun q => e q.symm)).mp z), g]
      · rw [cn_f z, cn_f (fun q => z ((h n (by omega) (fun q => e q.symm)).mpr q)), g]
theorem cn_pos {p : Nat → Prop} {j : Nat} (hp : p j) : ∀ n, j < n → 0 < cn_of p n := by
  intro n
  induction n with
  | zero => intro h; exact absurd h (by omega)
  | succ n ih =>
    intro hj
    by_cases z : p n
    · rw [cn_t z]; omega
    · rw [cn_f z]; exact ih (by
        have : ¬ j = n := fun e => z (by rw [← e]; exact hp)
        omega)
theorem R_c0_cn {J : Nat → Nat → Int32} : ∀ m k, R_c0 m k J (cn_of (fun c => ¬ jn J 37 c = 0) k) = nI (cn_of (fun c => ¬ jn J 37 c = 0) (k + m)) := by
  intro m
  induction m with
  | zero => intro k; rfl
  | succ m ih =>
    intro k
    rw [R_c0]
    by_cases z : (jn J 37 k) = 0
    · have g := ih (k + 1)
      rw [cn_f (fun q => q z)] at g
      rw [am_ite_t z, g]; congr 2; omega
    · have g := ih (k + 1)
      rw [cn_t z] at g
      rw [am_ite_f z, g]; congr 2; omega
theorem R_c2_cn {J : Nat → Nat → Int32} : ∀ m k, R_c2 m k J (cn_of (fun c => ¬ J 50 c < 0) k) = nI (cn_of (fun c => ¬ J 50 c < 0) (k + m)) := by
  intro m
  induction m with
  | zero => intro k; rfl
  | succ m ih =>
    intro k
    rw [R_c2]
    by_cases z : (J 50 k) < 0
    · have g := ih (k + 1)
      rw [cn_f (fun q => q z)] at g
      rw [am_ite_t z, g]; congr 2; omega
    · have g := ih (k + 1)
      rw [cn_t z] at g
      rw [am_ite_f z, g]; congr 2; omega
theorem R_c6_cn {J : Nat → Nat → Int32} : ∀ m k, R_c6 m k J (cn_of (fun c => ¬ jn J 58 c = 0) k) = nI (cn_of (fun c => ¬ jn J 58 c = 0) (k + m)) := by
  intro m
  induction m with
  | zero => intro k; rfl
  | succ m ih =>
    intro k
    rw [R_c6]
    by_cases z : (jn J 58 k) = 0
    · have g := ih (k + 1)
      rw [cn_f (fun q => q z)] at g
      rw [am_ite_t z, g]; congr 2; omega
    · have g := ih (k + 1)
      rw [cn_t z] at g
      rw [am_ite_f z, g]; congr 2; omega
noncomputable def R_app (J : Nat → Nat → Int32) (b o : Nat) (a : Int32) : Int32 × (Nat → Nat → Int32) := am_ite ((jn J 57 b) = 8) ((-3), J) ((nI ((jn J 57 b) + 1)), am_u2 (am_u2 (am_u2 J 55 ((8 * b) + (jn J 57 b)) (nI o)) 56 ((8 * b) + (jn J 57 b)) a) 57 b (nI ((jn J 57 b) + 1)))
theorem w_in_o {n lo hi : Nat} (hn : n < 2 ^ 31) (hl : lo < 2 ^ 31) (hh : hi < 2 ^ 31) : w_in (nI n) (nI lo) (nI hi) ↔ lo ≤ n ∧ n ≤ hi := by
  rw [w_in_iff, nI_toInt hn, nI_toInt hl, nI_toInt hh]
  omega
theorem w_opd_o {o : Nat} {a : Int32} (h : ¬ o = 2) (h3 : ¬ o = 3) (h7 : ¬ o = 7) (h8 : ¬ o = 8) (ho : o ≤ 9) : w_opd (nI o) a := by
  unfold w_opd
  rw [am_ite_f (fun q => h ((nI_eq (by omega) (by decide)).mp q)), am_ite_f (fun q => h3 ((nI_eq (by omega) (by decide)).mp q)), am_ite_f (fun q => h7 ((nI_eq (by omega) (by decide)).mp q)), am_ite_f (fun q => h8 ((nI_eq (by omega) (by decide)).mp q))]
  trivial
theorem w_opd_2 {o : Nat} {a : Int32} (h : o = 2 ∨ o = 3) : w_opd (nI o) a = w_in a (nI 0) (nI 5) := by
  unfold w_opd
  rcases h with h | h
  · rw [am_ite_t (by rw [h])]; rfl
  · rw [am_ite_f (by rw [h]; decide), am_ite_t (by rw [h])]; rfl
theorem w_opd_7 {a : Int32} : w_opd (nI 7) a = w_in a (nI 0) (nI 4) := by
  unfold w_opd
  rw [am_ite_f (by decide), am_ite_f (by decide), am_ite_t rfl]; rfl
theorem w_opd_8 {a : Int32} : w_opd (nI 8) a = w_in a (nI 0) (nI 11) := by
  unfold w_opd
  rw [am_ite_f (by decide), am_ite_f (by decide), am_ite_f (by decide), am_ite_t rfl]
theorem R_step_eq {L : Nat → Nat → Int32} {b op a : Int32} (hb : w_in b (nI 0) (nI 7)) (ho : w_in op (nI 0) (nI 9)) : R_step L b op a = am_ite (w_opd (nI (jx op)) a) (R_app L (jx b) (jx op) a) ((-1), L) := by
  have go := jx_eq (by decide) ho
  unfold R_step
  rw [rl_is, rl_is, rl_is, rl_is, rl_is, rl_is, rl_is, rl_is, am_ite_t hb, am_ite_t ho]
  have key : ∀ {k : Nat}, k < 2 ^ 31 → w_in a (nI 0) (nI k) → nI (jx a) = a := fun hk z => (jx_eq hk z).1.symm
  generalize jx op = o at go
  by_cases h23 : o = 2 ∨ o = 3
  · rw [w_opd_2 h23, am_ite_t ((w_in_o (by omega) (by decide) (by decide)).mpr (by omega))]
    by_cases za : w_in a (nI 0) (nI 5)
    · rw [am_ite_t za, am_ite_t za, am_ite_f (by omega), am_ite_f (by omega), key (by decide) za]; rfl
    · rw [am_ite_f za, am_ite_f za]
  · rw [am_ite_f (fun q => by
      have g := (w_in_o (by omega) (by decide) (by decide)).mp q
      omega)]
    by_cases h7 : o = 7
    · subst h7
      rw [w_opd_7, am_ite_t rfl]
      by_cases za : w_in a (nI 0) (nI 4)
      · rw [am_ite_t za, am_ite_t za, am_ite_f (by omega), key (by decide) za]; rfl
      · rw [am_ite_f za, am_ite_f za]
    · rw [am_ite_f h7]
      by_cases h8 : o = 8
      · subst h8
        rw [w_opd_8, am_ite_t rfl]
        by_cases za : w_in a (nI 0) (nI 11)
        · rw [am_ite_t za, am_ite_t za, key (by decide) za]; rfl
        · rw [am_ite_f za, am_ite_f za]
      · rw [am_ite_f h8, am_ite_t (w_opd_o (by omega) (by omega) h7 h8 (by omega))]; rfl
/-- step answers alike, and the bodies stay alike -/
theorem eq_step {K L : Nat → Nat → Int32} (h : rl_B K L) {b op a : Int32} : (D_step K b op a).1 = (R_step L b op a).1 ∧ rl_B (D_step K b op a).2 (R_step L b op a).2 := by
  unfold D_step
  rw [show w_body b = w_in b (nI 0) (nI 7) from rfl]
  by_cases z1 : w_in b (nI 0) (nI 7)
  · rw [am_ite_t z1]
    by_cases z2 : w_in op (nI 0) (nI 9)
    · rw [am_ite_t z2, R_step_eq z1 z2]
      by_cases z3 : w_opd (nI (jx op)) a
      · rw [am_ite_t z3, am_ite_t z3]
        unfold B_append R_app
        rw [jn_e h.1]
        by_cases z : jn K 28 (jx b) = 8
        · rw [am_ite_t z, am_ite_t z]; exact ⟨rfl, h⟩
        · rw [am_ite_f z, am_ite_f z]
          rw [Nat.mul_comm (jx b) 8]
          exact ⟨rfl, u2_eq h.1 rfl, u2_eq h.2.1 rfl, u2_eq h.2.2 rfl⟩
      · rw [am_ite_f z3, am_ite_f z3]; exact ⟨rfl, h⟩
    · rw [am_ite_f z2]
      unfold R_step
      rw [rl_is, rl_is, am_ite_t z1, am_ite_f z2]; exact ⟨rfl, h⟩
  · rw [am_ite_f z1]
    unfold R_step
    rw [rl_is, am_ite_f z1]; exact ⟨rfl, h⟩
