/-! Words for what loops find, for ranges, and for bits. -/
/-- the first place from k on, of m, where p holds -/
noncomputable def am_se (p : Nat → Prop) : Nat → Nat → Option Nat
  | 0, _ => none
  | m + 1, k => @ite (Option Nat) (p k) (Classical.propDecidable (p k)) (some k) (am_se p m (k + 1))
theorem am_se_0 {p : Nat → Prop} {k : Nat} : am_se p 0 k = none := rfl
theorem am_se_t {p : Nat → Prop} {m k : Nat} (h : p k) : am_se p (m + 1) k = some k := by
  rw [am_se]
  exact if_pos h
theorem am_se_f {p : Nat → Prop} {m k : Nat} (h : ¬ p k) : am_se p (m + 1) k = am_se p m (k + 1) := by
  rw [am_se]
  exact if_neg h
theorem am_se_some {p : Nat → Prop} : ∀ {m k j : Nat}, am_se p m k = some j → k ≤ j ∧ j < k + m ∧ p j ∧ ∀ i, k ≤ i → i < j → ¬ p i := by
  intro m
  induction m with
  | zero => intro k j h; cases h
  | succ m ih =>
    intro k j h
    by_cases hp : p k
    · rw [am_se_t hp] at h
      cases h
      exact ⟨Nat.le_refl _, by omega, hp, fun i h1 h2 => absurd h2 (by omega)⟩
    · rw [am_se_f hp] at h
      obtain ⟨h1, h2, h3, h4⟩ := ih h
      refine ⟨by omega, by omega, h3, fun i g1 g2 => ?_⟩
      by_cases e : i = k
      · rw [e]; exact hp
      · exact h4 i (by omega) g2
theorem am_se_none {p : Nat → Prop} : ∀ {m k : Nat}, am_se p m k = none → ∀ i, k ≤ i → i < k + m → ¬ p i := by
  intro m
  induction m with
  | zero => intro k h i h1 h2; exact absurd h2 (by omega)
  | succ m ih =>
    intro k h i h1 h2
    by_cases hp : p k
    · rw [am_se_t hp] at h
      cases h
    · rw [am_se_f hp] at h
      by_cases e : i = k
      · rw [e]; exact hp
      · exact ih h i (by omega) (by omega)
theorem am_se_congr {p q : Nat → Prop} : ∀ {m k : Nat}, (∀ i, k ≤ i → i < k + m → (p i ↔ q i)) → am_se p m k = am_se q m k := by
  intro m
  induction m with
  | zero => intro k h; rfl
  | succ m ih =>
    intro k h
    by_cases hp : p k
    · rw [am_se_t hp, am_se_t ((h k (Nat.le_refl _) (by omega)).mp hp)]
    · rw [am_se_f hp, am_se_f (fun z => hp ((h k (Nat.le_refl _) (by omega)).mpr z))]
      exact ih (fun i h1 h2 => h i (by omega) (by omega))
def am_oi (o : Option Nat) : Int32 := match o with
  | some k => nI k
  | none => -1
theorem am_rng {c : Int32} {k : Nat} (hk : k < 2 ^ 31) (h : (nI 0).toInt ≤ c.toInt ∧ c.toInt ≤ (nI k).toInt) : ∃ n, n ≤ k ∧ c = nI n := by
  rw [nI_toInt (by decide), nI_toInt hk] at h
  have h1 : ¬ c < 0 := fun z => by
    rw [Int32.lt_iff_toInt_lt] at z
    have : (0 : Int32).toInt = 0 := rfl
    omega
  obtain ⟨j, hj, rfl⟩ := nI_of h1
  rw [nI_toInt hj] at h
  exact ⟨j, by omega, rfl⟩
theorem am_gt0 {a : Nat} (h : a < 2 ^ 31) : (0 : Int32) < nI a ↔ 0 < a := by
  rw [← nI_0]; exact nI_ltI (by decide) h
theorem bt_and (a b : Nat) : nI a &&& nI b = nI (a &&& b) := by
  apply Int32.toBitVec_inj.mp
  show BitVec.ofNat 32 a &&& BitVec.ofNat 32 b = BitVec.ofNat 32 (a &&& b)
  rw [BitVec.ofNat_and]
theorem bt_or (a b : Nat) : nI a ||| nI b = nI (a ||| b) := by
  apply Int32.toBitVec_inj.mp
  show BitVec.ofNat 32 a ||| BitVec.ofNat 32 b = BitVec.ofNat 32 (a ||| b)
  rw [BitVec.ofNat_or]
theorem bt_31 {c : Nat} (hc : c < 32) : nI c &&& 31 = nI c := by
  have h : ∀ c, c < 32 → nI c &&& 31 = nI c := by decide
  exact h c hc
theorem bt_sm {c : Nat} (hc : c < 32) : ((nI c).toBitVec.smod 32).toNat = c := by
  have h : ∀ c, c < 32 → ((nI c).toBitVec.smod 32).toNat = c := by decide
  exact h c hc
theorem bt_shl {c : Nat} (hc : c < 32) : nI 1 <<< (nI c &&& 31) = nI (2 ^ c) := by
  have h : ∀ c, c < 32 → nI 1 <<< (nI c &&& 31) = nI (2 ^ c) := by decide
  exact h c hc
theorem bt_shr {s c : Nat} (hs : s < 2 ^ 31) (hc : c < 32) : nI s >>> (nI c &&& 31) = nI (s / 2 ^ c) := by
  rw [bt_31 hc]; exact pk_shrN hs _ c (bt_sm hc)
theorem bt_1 (n : Nat) : nI n &&& nI 1 = nI (n % 2) := by
  rw [bt_and]; congr 1; exact Nat.and_one_is_mod n
/-- a bit of a set -/
theorem bt_bit {s c : Nat} (hs : s < 2 ^ 31) (hc : c < 32) : (nI s >>> (nI c &&& 31)) &&& nI 1 = nI (s / 2 ^ c % 2) := by rw [bt_shr hs hc, bt_1]
theorem bt_tb (s c : Nat) : s / 2 ^ c % 2 = 1 ↔ s.testBit c = true := by
  rw [Nat.testBit_eq_decide_div_mod_eq]; simp
theorem am_rng_of {n k : Nat} (h : n ≤ k) (hk : k < 2 ^ 31) : (nI 0).toInt ≤ (nI n).toInt ∧ (nI n).toInt ≤ (nI k).toInt := by
  rw [nI_toInt (by decide), nI_toInt hk, nI_toInt (by omega)]; omega
