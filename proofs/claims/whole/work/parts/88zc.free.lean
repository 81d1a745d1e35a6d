/-! What is free for the next place, here and there. -/
/-- x has one right before it, in the row of e's supers, that is still left -/
def blk (A : Nat → Int32) (left : Int32) (e : Nat) : Nat → Nat → Nat → Nat → Prop
  | 0, _, _, _ => False
  | m + 1, k, la, x => (A (3 * e + k) = -1 → blk A left e m (k + 1) la x) ∧ (¬ A (3 * e + k) = -1 → ((A (3 * e + k)).toNatClampNeg = x ∧ hs left la) ∨ blk A left e m (k + 1) (A (3 * e + k)).toNatClampNeg x)
theorem blk_n {A : Nat → Int32} {left : Int32} {e m k la x : Nat} (h : A (3 * e + k) = -1) : blk A left e (m + 1) k la x ↔ blk A left e m (k + 1) la x := ⟨fun q => q.1 h, fun q => ⟨fun _ => q, fun n => absurd h n⟩⟩
theorem blk_y {A : Nat → Int32} {left : Int32} {e m k la x : Nat} (h : ¬ A (3 * e + k) = -1) : blk A left e (m + 1) k la x ↔ ((A (3 * e + k)).toNatClampNeg = x ∧ hs left la) ∨ blk A left e m (k + 1) (A (3 * e + k)).toNatClampNeg x := ⟨fun q => q.2 h, fun q => ⟨fun n => absurd n h, fun _ => q⟩⟩
theorem blk_m {A : Nat → Int32} {l l' : Int32} {e x : Nat} (hl : ∀ y, hs l' y → hs l y) : ∀ m k la, blk A l' e m k la x → blk A l e m k la x := by
  intro m
  induction m with
  | zero => intro k la q; exact q
  | succ m ih =>
    intro k la q
    by_cases z : A (3 * e + k) = -1
    · exact (blk_n z).mpr (ih _ _ ((blk_n z).mp q))
    · rcases (blk_y z).mp q with w | w
      · exact (blk_y z).mpr (Or.inl ⟨w.1, hl _ w.2⟩)
      · exact (blk_y z).mpr (Or.inr (ih _ _ w))
/-- one that is blocked stands directly above e -/
theorem blk_d {A : Nat → Int32} {l : Int32} {e x : Nat} : ∀ m k la, k + m ≤ 3 → blk A l e m k la x → dir A e x := by
  intro m
  induction m with
  | zero => intro k la _ q; exact q.elim
  | succ m ih =>
    intro k la hk q
    by_cases z : A (3 * e + k) = -1
    · exact ih _ _ (by omega) ((blk_n z).mp q)
    · rcases (blk_y z).mp q with w | w
      · exact ⟨k, by omega, z, w.1⟩
      · exact ih _ _ (by omega) w
theorem f2_c {J : Nat → Nat → Int32} (hA : tyA (J 41)) {c n e x : Nat} {set left : Int32} : ∀ m k fr la, la < 32 → (hs (R_f2 c set n left e m k J fr la).1 x ↔ hs fr x ∧ ¬ blk (J 41) left e m k la x) := by
  intro m
  induction m with
  | zero => intro k fr la _; rw [R_f2]; exact ⟨fun q => ⟨q, fun w => w⟩, fun q => q.1⟩
  | succ m ih =>
    intro k fr la hla
    rw [R_f2]
    by_cases z : J 41 (3 * e + k) = -1
    · rw [am_ite_f (by rw [tyA_ge hA]; exact fun q => q z), ih _ _ _ hla, blk_n z]
    · have l12 : jn J 41 (3 * e + k) < 12 := tyA_32 hA z
      rw [am_ite_t ((tyA_ge hA).mpr z), blk_y z]
      by_cases z2 : ((left >>> ((nI la) &&& 31)) &&& (nI 1)) = (nI 1)
      · rw [am_ite_t z2, ih _ _ _ (by omega), hs_clr (by omega)]
        rw [hs_t1 hla] at z2
        constructor
        · rintro ⟨⟨a, b⟩, d⟩
          exact ⟨a, fun q => q.elim (fun w => b w.1.symm) d⟩
        · rintro ⟨a, b⟩
          exact ⟨⟨a, fun q => b (Or.inl ⟨q.symm, z2⟩)⟩, fun q => b (Or.inr q)⟩
      · rw [am_ite_f z2, ih _ _ _ (by omega)]
        rw [hs_t1 hla] at z2
        constructor
        · rintro ⟨a, d⟩
          exact ⟨a, fun q => q.elim (fun w => z2 w.2) d⟩
        · rintro ⟨a, b⟩
          exact ⟨a, fun q => b (Or.inr q)⟩
theorem f1_c {J : Nat → Nat → Int32} (hA : tyA (J 41)) {c n x : Nat} {set left : Int32} : ∀ m k fr, k + m ≤ 12 → (hs (R_f1 c set n left m k J fr) x ↔ hs fr x ∧ ∀ d, k ≤ d → d < k + m → hs set d → ¬ blk (J 41) left d 3 0 d x) := by
  intro m
  induction m with
  | zero => intro k fr _; rw [R_f1]; exact ⟨fun q => ⟨q, fun d a b => by omega⟩, fun q => q.1⟩
  | succ m ih =>
    intro k fr hk
    rw [R_f1]
    by_cases z : ((set >>> ((nI k) &&& 31)) &&& (nI 1)) = 0
    · rw [am_ite_t z, ih _ _ (by omega)]
      rw [hs_t0 (by omega)] at z
      constructor
      · rintro ⟨a, b⟩
        refine ⟨a, fun d x y w => ?_⟩
        have : ¬ d = k := fun e => z (by rw [← e]; exact w)
        exact b d (by omega) (by omega) w
      · rintro ⟨a, b⟩
        exact ⟨a, fun d x y w => b d (by omega) (by omega) w⟩
    · rw [am_ite_f z, ih _ _ (by omega), f2_c hA 3 0 fr k (by omega)]
      rw [hs_t0 (by omega)] at z
      have z' := Classical.byContradiction z
      constructor
      · rintro ⟨⟨a, a2⟩, b⟩
        refine ⟨a, fun d x y w => ?_⟩
        by_cases e : d = k
        · rw [e]; exact a2
        · exact b d (by omega) (by omega) w
      · rintro ⟨a, b⟩
        exact ⟨⟨a, b k (Nat.le_refl k) (by omega) z'⟩, fun d x y w => b d (by omega) (by omega) w⟩
/-- y stands somewhere before x, in the row from k on, E being what stood before -/
def bE (A : Nat → Int32) : Nat → Nat → (Nat → Prop) → Nat → Nat → Prop
  | 0, _, _, _, _ => False
  | m + 1, k, E, x, y => (A k = -1 → bE A m (k + 1) E x y) ∧ (¬ A k = -1 → ((A k).toNatClampNeg = x ∧ E y) ∨ bE A m (k + 1) (fun z => E z ∨ z = (A k).toNatClampNeg) x y)
theorem bE_n {A : Nat → Int32} {m k x y : Nat} {E : Nat → Prop} (h : A k = -1) : bE A (m + 1) k E x y ↔ bE A m (k + 1) E x y := ⟨fun q => q.1 h, fun q => ⟨fun _ => q, fun n => absurd h n⟩⟩
theorem bE_y {A : Nat → Int32} {m k x y : Nat} {E : Nat → Prop} (h : ¬ A k = -1) : bE A (m + 1) k E x y ↔ ((A k).toNatClampNeg = x ∧ E y) ∨ bE A m (k + 1) (fun z => E z ∨ z = (A k).toNatClampNeg) x y := ⟨fun q => q.2 h, fun q => ⟨fun n => absurd n h, fun _ => q⟩⟩
theorem bE_i {A : Nat → Int32} {y j : Nat} (hj : ¬ A j = -1) : ∀ m k E, k ≤ j → j < k + m → (E y ∨ ∃ i, k ≤ i ∧ i < j ∧ ¬ A i = -1 ∧ (A i).toNatClampNeg = y) → bE A m k E (A j).toNatClampNeg y := by
  intro m
  induction m with
  | zero => intro k E a b; omega
  | succ m ih =>
    intro k E a b h
    by_cases e : j = k
    · rw [e] at hj ⊢
      rw [bE_y hj]
      rcases h with w | ⟨i, i1, i2, _⟩
      · exact Or.inl ⟨rfl, w⟩
      · omega
    · by_cases z : A k = -1
      · rw [bE_n z]
        refine ih _ _ (by omega) (by omega) ?_
        rcases h with w | ⟨i, i1, i2, i3⟩
        · exact Or.inl w
        · have : ¬ i = k := fun q => i3.1 (by rw [q]; exact z)
          exact Or.inr ⟨i, by omega, i2, i3⟩
      · rw [bE_y z]
        right
        refine ih _ _ (by omega) (by omega) ?_
        rcases h with w | ⟨i, i1, i2, i3⟩
        · exact Or.inl (Or.inl w)
        · by_cases q : i = k
          · rw [q] at i3; exact Or.inl (Or.inr i3.2.symm)
          · exact Or.inr ⟨i, by omega, i2, i3⟩
theorem ns_c {c a y : Nat} : ∀ m k J w, tyA (J 3) → (hs ((C_ns c m k J w) 9 a) y ↔ hs (J 9 a) y ∨ bE (J 3) m k (hs w) a y) := by
  intro m
  induction m with
  | zero => intro k J w _; rw [C_ns]; exact ⟨Or.inl, fun q => q.elim id (fun w => w.elim)⟩
  | succ m ih =>
    intro k J w hA
    rw [C_ns]
    by_cases z : J 3 k = -1
    · rw [am_ite_t z, ih _ _ _ hA, bE_n z]
    · have l12 : jn J 3 k < 12 := tyA_32 hA z
      have e3 : am_u2 J 9 (jn J 3 k) ((J 9 (jn J 3 k)) ||| w) 3 = J 3 := fr_u (by decide)
      have eE : hs (w ||| ((nI 1) <<< ((nI (jn J 3 k)) &&& 31))) = fun z => hs w z ∨ z = (J 3 k).toNatClampNeg := funext fun z => propext (by rw [hs_or, hs_bit (by omega)]; exact Iff.rfl)
      rw [am_ite_f z, ih _ _ _ (by rw [e3]; exact hA), e3, eE, bE_y z]
      by_cases ea : a = jn J 3 k
      · rw [ea, am_u2_s, hs_or]
        constructor
        · rintro ((q | q) | q)
          · exact Or.inl q
          · exact Or.inr (Or.inl ⟨rfl, q⟩)
          · exact Or.inr (Or.inr q)
        · rintro (q | q | q)
          · exact Or.inl (Or.inl q)
          · exact Or.inl (Or.inr q.2)
          · exact Or.inr q
      · rw [u2_ne ea]
        constructor
        · rintro (q | q)
          · exact Or.inl q
          · exact Or.inr (Or.inr q)
        · rintro (q | q | q)
          · exact Or.inl q
          · exact absurd q.1.symm ea
          · exact Or.inr q
theorem n2_c {all : Int32} {a y : Nat} : ∀ m k J, tyA (J 3) → k + m ≤ 12 → (hs ((C_n2 all m k J) 9 a) y ↔ hs (J 9 a) y ∨ ∃ d, k ≤ d ∧ d < k + m ∧ hs all d ∧ bE (J 3) 3 (d * 3) (fun z => z = d) a y) := by
  intro m
  induction m with
  | zero => intro k J _ _; rw [C_n2]; exact ⟨Or.inl, fun q => q.elim id (fun ⟨d, x, z, _⟩ => by omega)⟩
  | succ m ih =>
    intro k J hA hk
    rw [C_n2]
    by_cases z : w_isin all (nI k)
    · have e3 : C_noteS J k 3 = J 3 := fr_C_noteS 3 (by omega)
      rw [am_ite_t z, ih _ _ (by rw [e3]; exact hA) (by omega), e3]
      rw [isin_hs (by omega)] at z
      have en : hs (C_noteS J k 9 a) y ↔ hs (J 9 a) y ∨ bE (J 3) 3 (k * 3) (fun z => z = k) a y := by
        unfold C_noteS
        rw [ns_c 3 (k * 3) J _ hA, show hs ((nI 1) <<< ((nI k) &&& 31)) = fun z => z = k from funext fun z => propext (hs_bit (by omega))]
      rw [en]
      constructor
      · rintro ((q | q) | ⟨d, x, w, v⟩)
        · exact Or.inl q
        · exact Or.inr ⟨k, Nat.le_refl k, by omega, z, q⟩
        · exact Or.inr ⟨d, by omega, by omega, v⟩
      · rintro (q | ⟨d, x, w, v⟩)
        · exact Or.inl (Or.inl q)
        · by_cases e : d = k
          · rw [e] at v; exact Or.inl (Or.inr v.2)
          · exact Or.inr ⟨d, by omega, by omega, v⟩
    · rw [am_ite_f z, ih _ _ hA (by omega)]
      rw [isin_hs (by omega)] at z
      constructor
      · rintro (q | ⟨d, x, w, v⟩)
        · exact Or.inl q
        · exact Or.inr ⟨d, by omega, by omega, v⟩
      · rintro (q | ⟨d, x, w, v⟩)
        · exact Or.inl q
        · have : ¬ d = k := fun e => z (by rw [← e]; exact v.1)
          exact Or.inr ⟨d, by omega, by omega, v⟩
theorem n1_c {all : Int32} {a : Nat} : ∀ m k J, (a < k → C_n1 all m k J 9 a = J 9 a) ∧ (k ≤ a → a < k + m → C_n1 all m k J 9 a = nI 0) := by
  intro m
  induction m with
  | zero => intro k J; rw [C_n1]; exact ⟨fun _ => rfl, fun x y => by omega⟩
  | succ m ih =>
    intro k J
    rw [C_n1]
    obtain ⟨p, q⟩ := ih (k + 1) (am_u2 J 9 k (nI 0))
    refine ⟨fun x => by rw [p (by omega), u2_ne (by omega)], fun x y => ?_⟩
    by_cases e : a = k
    · rw [p (by omega), e, am_u2_s]
    · exact q (by omega) (by omega)
theorem note_c {J : Nat → Nat → Int32} {all : Int32} (hA : tyA (J 3)) {a y : Nat} (ha : a < 12) : hs ((C_note J all) 9 a) y ↔ ∃ d, d < 12 ∧ hs all d ∧ bE (J 3) 3 (d * 3) (fun z => z = d) a y := by
  unfold C_note
  have e3 : C_n1 all 12 0 J 3 = J 3 := fl_C_n1 3 (by decide) 12 0 J
  rw [n2_c 12 0 _ (by rw [e3]; exact hA) (by omega), e3, (n1_c 12 0 J).2 (Nat.zero_le a) (by omega)]
  constructor
  · rintro (q | ⟨d, x, w, v⟩)
    · exact absurd q hs_z
    · exact ⟨d, by omega, v⟩
  · rintro ⟨d, x, v⟩
    exact Or.inr ⟨d, Nat.zero_le d, by omega, v⟩
/-- both ways to say that something before it is left -/
theorem bE_blk {A : Nat → Int32} {left set : Int32} {d x : Nat} : ∀ m k la E, k + m ≤ 3 → E la → (¬ hs left la → ∀ y, E y → ¬ hs left y) → (∀ i, i < 3 → ¬ A (3 * d + i) = -1 → hs set (A (3 * d + i)).toNatClampNeg) → (∀ z, hs set z → ¬ hs left z → ¬ blk A left d m k la z) → ((∃ y, hs left y ∧ bE A m (3 * d + k) E x y) ↔ blk A left d m k la x) := by
  intro m
  induction m with
  | zero => intro k la E _ _ _ _ _; exact ⟨fun ⟨y, _, q⟩ => q.elim, fun q => q.elim⟩
  | succ m ih =>
    intro k la E hk h1 h2 h3 h4
    by_cases z : A (3 * d + k) = -1
    · rw [blk_n z, ← ih (k + 1) la E (by omega) h1 h2 h3 (fun w a b => by have g := h4 w a b; rw [blk_n z] at g; exact g)]
      constructor
      · rintro ⟨y, a, b⟩; exact ⟨y, a, (bE_n z).mp b⟩
      · rintro ⟨y, a, b⟩; exact ⟨y, a, (bE_n z).mpr b⟩
    · have nb : ∀ w, hs set w → ¬ hs left w → ¬ ((A (3 * d + k)).toNatClampNeg = w ∧ hs left la) ∧ ¬ blk A left d m (k + 1) (A (3 * d + k)).toNatClampNeg w := fun w a b => by
        have g := h4 w a b
        rw [blk_y z] at g
        exact ⟨fun q => g (Or.inl q), fun q => g (Or.inr q)⟩
      rw [blk_y z, ← ih (k + 1) (A (3 * d + k)).toNatClampNeg (fun w => E w ∨ w = (A (3 * d + k)).toNatClampNeg) (by omega) (Or.inr rfl) (fun a y b => ?_) h3 (fun w a b => (nb w a b).2)]
      · constructor
        · rintro ⟨y, a, b⟩
          rcases (bE_y z).mp b with q | q
          · exact Or.inl ⟨q.1, Classical.byContradiction (fun n => h2 n y q.2 a)⟩
          · exact Or.inr ⟨y, a, q⟩
        · rintro (⟨a, b⟩ | ⟨y, a, b⟩)
          · exact ⟨la, b, (bE_y z).mpr (Or.inl ⟨a, h1⟩)⟩
          · exact ⟨y, a, (bE_y z).mpr (Or.inr b)⟩
      · rcases b with b | b
        · refine h2 (fun q => ?_) y b
          exact (nb _ (h3 k (by omega) z) a).1 ⟨rfl, q⟩
        · rw [b]; exact a
