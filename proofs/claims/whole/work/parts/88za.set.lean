/-! Sets of classes as bits; what is above a class. -/
def hs (w : Int32) (d : Nat) : Prop := w.toBitVec.getLsbD d = true
theorem hs_or {a b : Int32} {d : Nat} : hs (a ||| b) d ↔ hs a d ∨ hs b d := by
  unfold hs
  rw [Int32.toBitVec_or, BitVec.getLsbD_or]
  cases a.toBitVec.getLsbD d <;> cases b.toBitVec.getLsbD d <;> decide
theorem hs_and {a b : Int32} {d : Nat} : hs (a &&& b) d ↔ hs a d ∧ hs b d := by
  unfold hs
  rw [Int32.toBitVec_and, BitVec.getLsbD_and]
  cases a.toBitVec.getLsbD d <;> cases b.toBitVec.getLsbD d <;> decide
theorem hs_32 {a : Int32} {d : Nat} (h : hs a d) : d < 32 := by
  unfold hs at h
  exact Classical.byContradiction (fun n => by rw [BitVec.getLsbD_of_ge _ _ (by omega)] at h; cases h)
theorem hs_z {d : Nat} : ¬ hs 0 d := by
  unfold hs
  rw [show (0 : Int32).toBitVec = 0#32 from rfl, BitVec.getLsbD_zero]
  decide
theorem tb_bit : ∀ k, k < 32 → ((nI 1) <<< ((nI k) &&& 31)).toBitVec = BitVec.twoPow 32 k := by decide
theorem hs_bit {e d : Nat} (he : e < 32) : hs ((nI 1) <<< ((nI e) &&& 31)) d ↔ d = e := by
  unfold hs
  rw [tb_bit e he, BitVec.getLsbD_twoPow]
  simp only [Bool.and_eq_true, decide_eq_true_eq]
  omega
theorem hs_clr {w : Int32} {e d : Nat} (he : e < 32) : hs (w &&& (((nI 1) <<< ((nI e) &&& 31)) ^^^ (-1))) d ↔ hs w d ∧ ¬ d = e := by
  rw [hs_and]
  constructor
  · rintro ⟨a, b⟩
    refine ⟨a, fun z => ?_⟩
    unfold hs at b
    rw [Int32.toBitVec_xor, BitVec.getLsbD_xor, tb_bit e he, BitVec.getLsbD_twoPow, show (-1 : Int32).toBitVec = BitVec.allOnes 32 by decide, BitVec.getLsbD_allOnes] at b
    rw [z] at b
    simp [he] at b
  · rintro ⟨a, b⟩
    refine ⟨a, ?_⟩
    have d32 := hs_32 a
    unfold hs
    rw [Int32.toBitVec_xor, BitVec.getLsbD_xor, tb_bit e he, BitVec.getLsbD_twoPow, show (-1 : Int32).toBitVec = BitVec.allOnes 32 by decide, BitVec.getLsbD_allOnes]
    have ne : ¬ e = d := fun z => b z.symm
    simp [d32, ne]
theorem hs_ext {a b : Int32} (h : ∀ d, hs a d ↔ hs b d) : a = b := by
  apply Int32.toBitVec_inj.mp
  apply BitVec.eq_of_getLsbD_eq
  intro i _
  have g := h i
  unfold hs at g
  cases x : a.toBitVec.getLsbD i <;> cases y : b.toBitVec.getLsbD i
  · rfl
  · rw [x, y] at g; exact absurd (g.mpr rfl) (by decide)
  · rw [x, y] at g; exact absurd (g.mp rfl) (by decide)
  · rfl
theorem hs_0 {w : Int32} (h : ∀ d, ¬ hs w d) : w = 0 := hs_ext (fun d => ⟨fun q => absurd q (h d), fun q => absurd q hs_z⟩)
theorem hs_n0 {w : Int32} : w = 0 ↔ ∀ d, ¬ hs w d := ⟨fun e d => by rw [e]; exact hs_z, hs_0⟩
theorem hs_t0 {w : Int32} {k : Nat} (hk : k < 32) : (((w >>> ((nI k) &&& 31)) &&& (nI 1)) = 0) ↔ ¬ hs w k := by
  have e1 : (w >>> ((nI k) &&& 31)).toBitVec = w.toBitVec.sshiftRight k := by
    rw [bt_31 (by omega)]
    show w.toBitVec.sshiftRight ((nI k).toBitVec.smod 32).toNat = _
    rw [bt_sm (by omega)]
  have e3 : (((w >>> ((nI k) &&& 31)) &&& (nI 1)) = 0) ↔ ((w >>> ((nI k) &&& 31)).toBitVec &&& 1#32 = 0#32) := ⟨fun h => congrArg Int32.toBitVec h, fun h => Int32.toBitVec_inj.mp h⟩
  unfold hs
  rw [e3, e1, bv_bit0, BitVec.getLsbD_sshiftRight]
  simp [hk]
theorem hs_t1 {w : Int32} {k : Nat} (hk : k < 32) : (((w >>> ((nI k) &&& 31)) &&& (nI 1)) = nI 1) ↔ hs w k := by
  constructor
  · intro h
    exact Classical.byContradiction (fun n => by rw [(hs_t0 hk).mpr n] at h; exact absurd h (by decide))
  · intro h
    have n0 : ¬ (((w >>> ((nI k) &&& 31)) &&& (nI 1)) = 0) := fun z => (hs_t0 hk).mp z h
    apply hs_ext
    intro d
    have n1 : ∀ d, hs (nI 1) d ↔ d = 0 := fun d => hs_bit (e := 0) (by decide)
    rw [hs_and, n1]
    constructor
    · exact fun q => q.2
    · intro z
      refine ⟨Classical.byContradiction (fun n => n0 (hs_0 (fun e q => ?_))), z⟩
      rw [hs_and, n1] at q
      rw [q.2, ← z] at q
      exact n q.1
theorem isin_hs {w : Int32} {k : Nat} (hk : k < 32) : w_isin w (nI k) ↔ hs w k := by
  unfold w_isin
  by_cases z : ((w >>> ((nI k) &&& 31)) &&& (nI 1)) = 0
  · rw [am_ite_t z]; exact ⟨fun q => q.elim, fun q => (hs_t0 hk).mp z q⟩
  · rw [am_ite_f z]; exact ⟨fun _ => Classical.byContradiction (fun n => z ((hs_t0 hk).mpr n)), fun _ => True.intro⟩
/-- e stands directly above d -/
def dir (A : Nat → Int32) (d e : Nat) : Prop := ∃ k, k < 3 ∧ ¬ A (3 * d + k) = -1 ∧ (A (3 * d + k)).toNatClampNeg = e
/-- the entries are classes, or none -/
def tyA (A : Nat → Int32) : Prop := ∀ j, A j = -1 ∨ (A j = nI (A j).toNatClampNeg ∧ (A j).toNatClampNeg < 12)
theorem dir_12 {A : Nat → Int32} (hA : tyA A) {d e : Nat} (h : dir A d e) : e < 12 := by
  obtain ⟨k, _, a, b⟩ := h
  rcases hA (3 * d + k) with z | z
  · exact absurd z a
  · rw [← b]; exact z.2
def Rea (A : Nat → Int32) (c d : Nat) : Prop := ∀ P : Nat → Prop, P c → (∀ x e, P x → dir A x e → P e) → P d
theorem Rea_r {A : Nat → Int32} {c : Nat} : Rea A c c := fun _ h _ => h
theorem Rea_s {A : Nat → Int32} {c d e : Nat} (h : Rea A c d) (h2 : dir A d e) : Rea A c e := fun P a b => b d e (h P a b) h2
theorem Rea_t {A : Nat → Int32} {c d e : Nat} (h : Rea A c d) (h2 : Rea A d e) : Rea A c e := fun P a b => h2 P (h P a b) b
theorem Rea_12 {A : Nat → Int32} (hA : tyA A) {c d : Nat} (hc : c < 12) (h : Rea A c d) : d < 12 := h (fun x => x < 12) hc (fun _ _ _ q => dir_12 hA q)
/-- a round of the search -/
def rnd (A : Nat → Int32) (w w' : Int32) : Prop := (∀ x, hs w x → hs w' x) ∧ (∀ d x, d < 12 → hs w d → dir A d x → hs w' x) ∧ ∀ P : Nat → Prop, (∀ x, hs w x → P x) → (∀ x e, P x → dir A x e → P e) → ∀ x, hs w' x → P x
theorem cn_lt {p q : Nat → Prop} (h : ∀ i, p i → q i) {j : Nat} (hp : ¬ p j) (hq : q j) : ∀ n, j < n → cn_of p n < cn_of q n := by
  intro n
  induction n with
  | zero => intro hj; omega
  | succ n ih =>
    intro hj
    by_cases e : j = n
    · rw [← e, cn_t hq, cn_f hp]
      have := cn_mono h j
      omega
    · have g := ih (by omega)
      by_cases z : p n
      · rw [cn_t z, cn_t (h n z)]; omega
      · rw [cn_f z]
        by_cases z2 : q n
        · rw [cn_t z2]; omega
        · rw [cn_f z2]; exact g
def cls (A : Nat → Int32) (w : Int32) : Prop := ∀ d x, hs w d → dir A d x → hs w x
theorem rnd_cl {A : Nat → Int32} {w w' : Int32} (h : rnd A w w') (hc : cls A w) : w' = w := hs_ext (fun d => ⟨h.2.2 (hs w) (fun _ q => q) (fun x e a b => hc x e a b) d, h.1 d⟩)
theorem rnd_st {A : Nat → Int32} (hA : tyA A) {w w' : Int32} (h : rnd A w w') (hw : ∀ x, hs w x → x < 12) {k : Nat} (hk : cls A w ∨ k ≤ cn_of (hs w) 12) : (cls A w' ∨ k + 1 ≤ cn_of (hs w') 12) ∧ ∀ x, hs w' x → x < 12 := by
  refine ⟨?_, h.2.2 (fun x => x < 12) hw (fun _ _ _ q => dir_12 hA q)⟩
  by_cases hc : cls A w
  · left; rw [rnd_cl h hc]; exact hc
  · right
    rcases hk with z | z
    · exact absurd z hc
    · have ex : ∃ d x, hs w d ∧ dir A d x ∧ ¬ hs w x := Classical.byContradiction (fun n => hc (fun d x a b => Classical.byContradiction (fun m => n ⟨d, x, a, b, m⟩)))
      obtain ⟨d, x, a, b, m⟩ := ex
      have := cn_lt (p := hs w) (q := hs w') h.1 m (h.2.1 d x (hw d a) a b) 12 (dir_12 hA b)
      omega
/-- the set that a search comes to -/
theorem rnd_end {A : Nat → Int32} {w : Int32} {c : Nat} (hc : cls A w ∨ 13 ≤ cn_of (hs w) 12) (h0 : hs w c) (h1 : ∀ x, hs w x → Rea A c x) : ∀ x, hs w x ↔ Rea A c x := fun x => by
  have cl : cls A w := by
    rcases hc with z | z
    · exact z
    · have := cn_le (p := hs w) 12
      omega
  exact ⟨h1 x, fun r => r (hs w) h0 (fun y e a b => cl y e a b)⟩
