/-! What is kept of the classes: their supers, and what follows from them. -/
def agr (T : Nat → Int32) (d : Nat) (L : Nat → Nat → Int32) : Prop := tyA (L 41) ∧ ∀ x, Rea T d x → ∀ i, i < 3 → L 41 (3 * x + i) = T (3 * x + i)
/-- d has the precedence r, of length n -/
def Dr (T : Nat → Int32) (d n : Nat) (r : Nat → Nat) : Prop := (0 < n ∧ n ≤ 12) ∧ (∀ i, i < n → r i < 12) ∧ (∀ x, Rea T d x ↔ ∃ i, i < n ∧ r i = x) ∧ (∀ K : Nat → Nat → Int32, K 3 = T → (C_draw K d).1 = nI n ∧ ∀ i, i < n → (C_draw K d).2 8 i = nI (r i)) ∧ ∀ L, agr T d L → ∃ L', R_arrange L d = some (nI n, L') ∧ (∀ i, i < n → L' 42 i = nI (r i)) ∧ ∀ q, ¬ q = 42 → L' q = L q
/-- d has none -/
def Dn (T : Nat → Int32) (d : Nat) : Prop := (∀ K : Nat → Nat → Int32, K 3 = T → (C_draw K d).1 = nI 0) ∧ ∀ L, agr T d L → ∃ L', R_arrange L d = some (-1, L') ∧ ∀ q, ¬ q = 42 → L' q = L q
theorem dr_or {T : Nat → Int32} (hT : tyA T) {d : Nat} (hd : d < 12) (acy : ∀ e, Rea T d e → ¬ dir T e d) : (∃ n r, Dr T d n r) ∨ Dn T d := by
  have ni : ∀ {n m : Nat}, n ≤ 12 → m ≤ 12 → nI n = nI m → n = m := fun a b e => (nI_eq (by omega) (by omega)).mp e
  have K0 : (fun _ => T : Nat → Nat → Int32) 3 = T := rfl
  have A0 : agr T d (fun _ => T) := ⟨hT, fun _ _ _ _ => rfl⟩
  rcases ar_draw (J := fun _ => T) (L := fun _ => T) hT rfl hT A0.2 hd acy with ⟨n, L0, p1, p2, p3, p4, p5, p6, p7⟩ | ⟨p3, L0, p4, p7⟩
  · left
    refine ⟨n, fun i => jn L0 42 i, ⟨p1, p2⟩, fun i hi => ?_, p6, fun K hK => ?_, fun L hL => ?_⟩
    · exact Rea_12 hT hd ((p6 _).mpr ⟨i, hi, rfl⟩)
    · rcases ar_draw (J := K) (L := fun _ => T) hT hK hT A0.2 hd acy with ⟨m, L1, q1, q2, q3, q4, q5, q6, q7⟩ | ⟨q3, L1, q4, q7⟩
      · rw [p4] at q4
        obtain ⟨e1, e2⟩ := Prod.mk.inj (Option.some.inj q4)
        have en := ni p2 q2 e1
        rw [q3, ← e1]
        refine ⟨rfl, fun i hi => ?_⟩
        rw [(q5 i (by omega)).1, ← e2]
        exact (p5 i hi).2
      · rw [p4] at q4
        obtain ⟨e1, e2⟩ := Prod.mk.inj (Option.some.inj q4)
        exact absurd e1 (nI_n1 (by omega))
    · rcases ar_draw (J := fun _ => T) (L := L) hT rfl hL.1 hL.2 hd acy with ⟨m, L1, q1, q2, q3, q4, q5, q6, q7⟩ | ⟨q3, L1, q4, q7⟩
      · rw [p3] at q3
        have en := ni p2 q2 q3
        refine ⟨L1, by rw [q4, en], fun i hi => ?_, q7⟩
        rw [← (q5 i (by omega)).1, (p5 i hi).1]
        exact (p5 i hi).2
      · rw [p3] at q3
        have := ni p2 (Nat.zero_le 12) q3
        omega
  · right
    refine ⟨fun K hK => ?_, fun L hL => ?_⟩
    · rcases ar_draw (J := K) (L := fun _ => T) hT hK hT A0.2 hd acy with ⟨m, L1, q1, q2, q3, q4, q5, q6, q7⟩ | ⟨q3, L1, q4, q7⟩
      · rw [p4] at q4
        obtain ⟨e1, e2⟩ := Prod.mk.inj (Option.some.inj q4)
        exact absurd e1.symm (nI_n1 (by omega))
      · exact q3
    · rcases ar_draw (J := fun _ => T) (L := L) hT rfl hL.1 hL.2 hd acy with ⟨m, L1, q1, q2, q3, q4, q5, q6, q7⟩ | ⟨q3, L1, q4, q7⟩
      · rw [p3] at q3
        have := ni (Nat.zero_le 12) q2 q3
        omega
      · exact ⟨L1, q4, q7⟩
/-- supers are acyclic -/
def Acy (A : Nat → Int32) : Prop := ∀ d e, d < 12 → dir A d e → ¬ Rea A e d
theorem Acy_d {A : Nat → Int32} (hA : tyA A) (h : Acy A) {d : Nat} (hd : d < 12) : ∀ e, Rea A d e → ¬ dir A e d := fun e r q => h e d (Rea_12 hA hd r) q r
/-- the supers of c are changed -/
theorem Acy_T {A T : Nat → Int32} {c : Nat} (hA : tyA A) (hT : tyA T) (h : Acy A) (hc : c < 12) (ho : ∀ x, ¬ x = c → ∀ i, i < 3 → T (3 * x + i) = A (3 * x + i)) (hn : ∀ e, dir T c e → ¬ e = c ∧ ¬ Rea A e c) : Acy T := by
  have od : ∀ x e, ¬ x = c → (dir T x e ↔ dir A x e) := fun x e n => dir_cg (ho x n)
  have cA : ∀ s, dir T c s → ¬ Rea T s c := fun s hs r => by
    obtain ⟨n1, n2⟩ := hn s hs
    have g : Rea A s c ∧ ¬ c = c := r (fun x => Rea A s x ∧ ¬ x = c) ⟨Rea_r, n1⟩ (fun x e a b => by
      have b' := (od x e a.2).mp b
      exact ⟨Rea_s a.1 b', fun z => n2 (by rw [← z]; exact Rea_s a.1 b')⟩)
    exact g.2 rfl
  intro d e hd q r
  by_cases z : d = c
  · rw [z] at q r; exact cA e q r
  · have q' := (od d e z).mp q
    have g : Rea A e d ∨ (Rea A e c ∧ ∃ s, dir T c s ∧ Rea T s d) := r (fun x => Rea A e x ∨ (Rea A e c ∧ ∃ s, dir T c s ∧ Rea T s x)) (Or.inl Rea_r) (fun x y a b => by
      rcases a with a | ⟨a, s, s1, s2⟩
      · by_cases zx : x = c
        · rw [zx] at a b; exact Or.inr ⟨a, y, b, Rea_r⟩
        · exact Or.inl (Rea_s a ((od x y zx).mp b))
      · exact Or.inr ⟨a, s, s1, Rea_s s2 b⟩)
    rcases g with g | ⟨g, s, s1, s2⟩
    · exact h d e hd q' g
    · have te : Rea T e c := by
        have w : Rea T e c ∨ (¬ c = c ∧ Rea T e c) := g (fun x => Rea T e c ∨ (¬ x = c ∧ Rea T e x)) (by
          by_cases ze : e = c
          · left; rw [ze]; exact Rea_r
          · right; exact ⟨ze, Rea_r⟩) (fun x y a b => by
          rcases a with a | ⟨a1, a2⟩
          · exact Or.inl a
          · have b' := (od x y a1).mpr b
            by_cases zy : y = c
            · left; rw [← zy]; exact Rea_s a2 b'
            · right; exact ⟨zy, Rea_s a2 b'⟩)
        exact w.elim id (fun w => w.2)
      exact cA s s1 (Rea_t (Rea_s s2 q) te)
/-- the classes, as they stand -/
def Cv (J : Nat → Nat → Int32) : Prop := (∀ d e, d < 12 → dir (J 3) d e → ¬ jn J 5 d = 0 ∧ ¬ jn J 5 e = 0) ∧ Acy (J 3) ∧ ∀ d, d < 12 → ¬ jn J 5 d = 0 → Dr (J 3) d (jn J 5 d) (fun i => jn J 4 (12 * d + i))
theorem Cv_cg {J K : Nat → Nat → Int32} (h : Cv J) (h3 : K 3 = J 3) (h4 : K 4 = J 4) (h5 : K 5 = J 5) : Cv K := by
  unfold Cv at h ⊢
  rw [h3]
  refine ⟨fun d e a b => by rw [jn_cg h5, jn_cg h5]; exact h.1 d e a b, h.2.1, fun d hd n => ?_⟩
  rw [jn_cg h5] at n ⊢
  have g := h.2.2 d hd n
  rw [show (fun i => jn K 4 (12 * d + i)) = fun i => jn J 4 (12 * d + i) from funext fun i => jn_cg h4]
  exact g
theorem ty_A {J : Nat → Nat → Int32} (hT : am_ty2 J) {q : Nat} (hm : (q, 12) ∈ am_tm) : tyA (J q) := fun j => by
  by_cases z : J q j = -1
  · exact Or.inl z
  · exact Or.inr (ty_m hT hm (by decide) j z)
theorem C_pl_f {J : Nat → Nat → Int32} {c : Nat} {x : Int32} : ∀ m k, (∃ i, k ≤ i ∧ i < k + m ∧ nI (jn J 4 ((c * 12) + i)) = x) → k + m ≤ 12 → ¬ C_pl c x m k J < 0 := by
  intro m
  induction m with
  | zero => rintro k ⟨i, a, b, _⟩; omega
  | succ m ih =>
    rintro k ⟨i, a, b, e⟩ hk
    rw [C_pl]
    by_cases z : nI (jn J 4 ((c * 12) + k)) = x
    · rw [am_ite_t z]; exact nI_pos (by omega)
    · rw [am_ite_f z]
      exact ih (k + 1) ⟨i, by have : ¬ i = k := fun q => z (by rw [← q]; exact e); omega, by omega, e⟩ (by omega)
/-- where a class stands in the row of another -/
theorem C_place_R {J : Nat → Nat → Int32} (hT : am_ty2 J) (hV : Cv J) {d x : Nat} (hd : d < 12) (hx : x < 12) (ht : ¬ jn J 5 d = 0) : ¬ C_place J d (nI x) < 0 ↔ Rea (J 3) d x := by
  have D := hV.2.2 d hd ht
  rw [D.2.2.1 x]
  have b4 : ∀ j, jn J 4 j < 12 := fun j => (ty_n hT (q := 4) (B := 12) (by decide) (by decide) j).2
  have b5 := (ty_n hT (q := 5) (B := 13) (by decide) (by decide) d).2
  constructor
  · intro h
    unfold C_place at h
    rcases C_pl_v (J := J) (c := d) (x := nI x) (jn J 5 d) 0 with g | ⟨p, p1, p2, p3, p4⟩
    · rw [g] at h; exact absurd (by decide) h
    · refine ⟨p, by omega, ?_⟩
      show jn J 4 (12 * d + p) = x
      rw [show 12 * d + p = d * 12 + p by omega]
      exact (nI_eq (by have := b4 (d * 12 + p); omega) (by omega)).mp p4
  · rintro ⟨i, a, b⟩
    unfold C_place
    refine C_pl_f (jn J 5 d) 0 ⟨i, Nat.zero_le i, by omega, ?_⟩ (by omega)
    have b : jn J 4 (12 * d + i) = x := b
    rw [show d * 12 + i = 12 * d + i by omega, b]
theorem R_sub_C {K L : Nat → Nat → Int32} (hC : rl_C K L) {a : Nat} {x : Int32} : R_sub L a x ↔ ¬ C_place K a x < 0 := by
  unfold R_sub
  rw [← rl_place hC]
  by_cases z : C_place K a x < 0
  · rw [am_ite_t z]; exact ⟨fun q => q.elim, fun q => absurd z q⟩
  · rw [am_ite_f z]; exact ⟨fun _ => z, fun _ => True.intro⟩
