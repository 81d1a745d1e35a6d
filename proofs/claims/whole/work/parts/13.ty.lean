/-! Ranges that every cell keeps. -/
def jn (J : Nat → Nat → Int32) (q j : Nat) : Nat := (J q j).toNatClampNeg
def am_tn : List (Nat × Nat) := [(4, 12), (5, 13), (6, 4), (8, 12), (11, 12), (16, 3), (18, 4), (19, 28), (21, 8), (28, 9), (29, 10), (37, 2), (39, 12), (40, 13), (42, 12), (43, 4), (45, 12), (49, 3), (51, 4), (52, 28), (53, 28), (54, 8), (55, 10), (57, 9), (58, 2), (59, 16), (60, 17), (61, 12), (62, 12), (63, 5), (64, 12), (65, 10), (66, 17), (67, 20), (69, 12), (70, 12), (71, 8)]
def am_tm : List (Nat × Nat) := [(3, 12), (17, 5), (20, 28), (38, 12), (41, 12), (50, 5)]
def am_tf : List (Nat × Nat × Nat) := [(10, 5, 13), (31, 1, 20), (31, 2, 21), (33, 8, 13), (33, 9, 193), (33, 10, 301), (33, 14, 12), (36, 37, 13), (36, 38, 13), (36, 39, 321), (36, 41, 301)]
/-- the entries are where they belong -/
def am_ty2 (J : Nat → Nat → Int32) : Prop := (∀ t ∈ am_tn, ∀ j, ∃ n, n < t.2 ∧ J t.1 j = nI n) ∧ (∀ t ∈ am_tm, ∀ j, J t.1 j = -1 ∨ ∃ n, n < t.2 ∧ J t.1 j = nI n) ∧ ∀ t ∈ am_tf, ∃ n, n < t.2.2 ∧ J t.1 t.2.1 = nI n
theorem ty_n {J : Nat → Nat → Int32} (hT : am_ty2 J) {q B : Nat} (hm : (q, B) ∈ am_tn) (hb : B < 5000) (j : Nat) : J q j = nI (jn J q j) ∧ jn J q j < B := by
  obtain ⟨n, h1, h2⟩ := hT.1 _ hm j
  have h2 : J q j = nI n := h2
  have h1 : n < B := h1
  have e : jn J q j = n := by unfold jn; rw [h2]; exact nI_clamp (by omega)
  rw [e]; exact ⟨h2, h1⟩
theorem ty_f {J : Nat → Nat → Int32} (hT : am_ty2 J) {q j B : Nat} (hm : (q, j, B) ∈ am_tf) (hb : B < 5000) : J q j = nI (jn J q j) ∧ jn J q j < B := by
  obtain ⟨n, h1, h2⟩ := hT.2.2 _ hm
  have h2 : J q j = nI n := h2
  have h1 : n < B := h1
  have e : jn J q j = n := by unfold jn; rw [h2]; exact nI_clamp (by omega)
  rw [e]; exact ⟨h2, h1⟩
theorem ty_m {J : Nat → Nat → Int32} (hT : am_ty2 J) {q B : Nat} (hm : (q, B) ∈ am_tm) (hb : B < 5000) (j : Nat) (h : ¬ J q j = -1) : J q j = nI (jn J q j) ∧ jn J q j < B := by
  rcases hT.2.1 _ hm j with h1 | ⟨n, h1, h2⟩
  · exact absurd h1 h
  · have h2 : J q j = nI n := h2
    have h1 : n < B := h1
    have e : jn J q j = n := by unfold jn; rw [h2]; exact nI_clamp (by omega)
    rw [e]; exact ⟨h2, h1⟩
/-- what may be written at a place -/
def am_tw2 (q j : Nat) (x : Int32) : Prop := (∀ t ∈ am_tn, t.1 = q → ∃ n, n < t.2 ∧ x = nI n) ∧ (∀ t ∈ am_tm, t.1 = q → x = -1 ∨ ∃ n, n < t.2 ∧ x = nI n) ∧ ∀ t ∈ am_tf, t.1 = q ∧ t.2.1 = j → ∃ n, n < t.2.2 ∧ x = nI n
theorem ty_w {J : Nat → Nat → Int32} {q j : Nat} {x : Int32} (hT : am_ty2 J) (hx : am_tw2 q j x) : am_ty2 (am_u2 J q j x) := by
  refine ⟨fun t ht i => ?_, fun t ht i => ?_, fun t ht => ?_⟩
  · show ∃ n, n < t.2 ∧ (if t.1 = q then (if i = j then x else J t.1 i) else J t.1 i) = nI n
    split
    · split
      · rename_i e _; exact hx.1 t ht e
      · exact hT.1 t ht i
    · exact hT.1 t ht i
  · show (if t.1 = q then (if i = j then x else J t.1 i) else J t.1 i) = -1 ∨ ∃ n, n < t.2 ∧ (if t.1 = q then (if i = j then x else J t.1 i) else J t.1 i) = nI n
    split
    · split
      · rename_i e _; exact hx.2.1 t ht e
      · exact hT.2.1 t ht i
    · exact hT.2.1 t ht i
  · show ∃ n, n < t.2.2 ∧ (if t.1 = q then (if t.2.1 = j then x else J t.1 t.2.1) else J t.1 t.2.1) = nI n
    split
    · split
      · rename_i e1 e2; exact hx.2.2 t ht ⟨e1, e2⟩
      · exact hT.2.2 t ht
    · exact hT.2.2 t ht
theorem tw_n {q j B n : Nat} (h1 : am_tn.all (fun t => t.1 != q || t.2 == B) = true) (h2 : am_tm.all (fun t => t.1 != q) = true) (h3 : am_tf.all (fun t => t.1 != q) = true) (hn : n < B) : am_tw2 q j (nI n) := by
  refine ⟨fun t ht e => ?_, fun t ht e => ?_, fun t ht e => ?_⟩
  · have g := List.all_eq_true.mp h1 t ht
    simp [e] at g
    exact ⟨n, by omega, rfl⟩
  · have g := List.all_eq_true.mp h2 t ht
    simp [e] at g
  · have g := List.all_eq_true.mp h3 t ht
    simp [e.1] at g
theorem tw_m {q j B : Nat} {x : Int32} (h1 : am_tn.all (fun t => t.1 != q) = true) (h2 : am_tm.all (fun t => t.1 != q || t.2 == B) = true) (h3 : am_tf.all (fun t => t.1 != q) = true) (hn : x = -1 ∨ ∃ n, n < B ∧ x = nI n) : am_tw2 q j x := by
  refine ⟨fun t ht e => ?_, fun t ht e => ?_, fun t ht e => ?_⟩
  · have g := List.all_eq_true.mp h1 t ht
    simp [e] at g
  · have g := List.all_eq_true.mp h2 t ht
    simp [e] at g
    rw [g]; exact hn
  · have g := List.all_eq_true.mp h3 t ht
    simp [e.1] at g
theorem tw_u {q j : Nat} {x : Int32} (h1 : am_tn.all (fun t => t.1 != q) = true) (h2 : am_tm.all (fun t => t.1 != q) = true) (h3 : am_tf.all (fun t => t.1 != q || t.2.1 != j) = true) : am_tw2 q j x := by
  refine ⟨fun t ht e => ?_, fun t ht e => ?_, fun t ht e => ?_⟩
  · have g := List.all_eq_true.mp h1 t ht
    simp [e] at g
  · have g := List.all_eq_true.mp h2 t ht
    simp [e] at g
  · have g := List.all_eq_true.mp h3 t ht
    simp [e.1, e.2] at g
theorem tw_f {q j B n : Nat} (h1 : am_tn.all (fun t => t.1 != q) = true) (h2 : am_tm.all (fun t => t.1 != q) = true) (h3 : am_tf.all (fun t => t.1 != q || t.2.1 != j || t.2.2 == B) = true) (hn : n < B) : am_tw2 q j (nI n) := by
  refine ⟨fun t ht e => ?_, fun t ht e => ?_, fun t ht e => ?_⟩
  · have g := List.all_eq_true.mp h1 t ht
    simp [e] at g
  · have g := List.all_eq_true.mp h2 t ht
    simp [e] at g
  · have g := List.all_eq_true.mp h3 t ht
    simp [e.1, e.2] at g
    exact ⟨n, by omega, rfl⟩
