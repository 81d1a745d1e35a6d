/-! More known locals do no harm. -/
def am_Lm : am_L → am_L → Prop
  | [], [] => True
  | a :: L, b :: L' => (a = none ∨ a = b) ∧ am_Lm L L'
  | [], _ :: _ => False
  | _ :: _, [] => False
def am_Lx (L L' : am_L) : Prop := L.length = L'.length ∧ ∀ (i : Nat) (v : Value), L[i]? = some (some v) → L'[i]? = some (some v)
theorem am_Lm_x : ∀ {L L' : am_L}, am_Lm L L' → am_Lx L L' := by
  intro L
  induction L with
  | nil =>
    intro L' h
    cases L' with
    | nil => exact ⟨rfl, fun _ _ h => h⟩
    | cons b L' => exact h.elim
  | cons a L ih =>
    intro L' h
    cases L' with
    | nil => exact h.elim
    | cons b L' =>
      obtain ⟨h1, h2⟩ := h
      obtain ⟨g1, g2⟩ := ih h2
      refine ⟨by simp [g1], fun i v hv => ?_⟩
      cases i with
      | zero =>
        have hv : some a = some (some v) := hv
        cases hv
        rcases h1 with h1 | h1
        · cases h1
        · subst h1; rfl
      | succ i => exact g2 i v hv
theorem am_kl_get {L : am_L} {i j : Nat} {w : Value} (h : L[j]? = some (some w)) (hn : ¬ (j + 1 = i ∧ w.category = 2)) : (am_kl L i)[j]? = some (some w) := by
  unfold am_kl
  split
  · rename_i c
    rw [List.getElem?_set]
    split
    · rename_i e
      have hj : j + 1 = i := by omega
      subst e
      rw [h] at c
      have c2 : (w.category == 2) = true := c.2
      exact absurd ⟨hj, by simpa using c2⟩ hn
    · exact h
  · exact h
theorem am_kl_len {L : am_L} {i : Nat} : (am_kl L i).length = L.length := by
  unfold am_kl
  split <;> simp
theorem am_s1_get {L : am_L} {i j : Nat} {v w : Value} (hj : j ≠ i) (h : L[j]? = some (some w)) (hn : ¬ (j + 1 = i ∧ w.category = 2)) : (am_s1 L i v)[j]? = some (some w) := by
  show ((am_kl L i).set i (some v))[j]? = _
  rw [List.getElem?_set, if_neg (Ne.symm hj)]
  exact am_kl_get h hn
theorem am_s1_self {L : am_L} {i : Nat} {v : Value} (h : i < L.length) : (am_s1 L i v)[i]? = some (some v) := by
  show ((am_kl L i).set i (some v))[i]? = _
  rw [List.getElem?_set, if_pos rfl, if_pos (by rw [am_kl_len]; exact h)]
theorem am_s1_x {L L' : am_L} {i : Nat} {v : Value} (h : am_Lx L L') (hi : i < L.length) : am_Lx (am_s1 L i v) (am_s1 L' i v) := by
  refine ⟨by rw [am_s1_len, am_s1_len]; exact h.1, fun j w hw => ?_⟩
  rcases am_s1_at hw with ⟨rfl, rfl⟩ | ⟨h1, h2, h3⟩
  · exact am_s1_self (by rw [← h.1]; exact hi)
  · exact am_s1_get h1 (h.2 j w h2) h3
theorem am_s2_x {L L' : am_L} {i : Nat} {v : Value} (h : am_Lx L L') (hi : i < L.length) : am_Lx (am_s2 L i v) (am_s2 L' i v) := by
  have g := am_s1_x (v := v) h hi
  refine ⟨by rw [am_s2_len, am_s2_len]; exact h.1, fun j w hw => ?_⟩
  have hw : ((am_s1 L i v).set (i + 1) none)[j]? = some (some w) := hw
  show ((am_s1 L' i v).set (i + 1) none)[j]? = some (some w)
  rw [List.getElem?_set] at hw ⊢
  split at hw
  · split at hw <;> cases hw
  · rename_i c
    rw [if_neg c]
    exact g.2 j w hw
theorem am_ld_x {L L' : am_L} {i : Nat} {v : Value} (h : am_Lx L L') (e : am_ld L i = some v) : am_ld L' i = some v := by
  have g := h.2 i v (am_ld_s e)
  unfold am_ld
  rw [g]
theorem am_lo_x {i : Instr} {L L' : am_L} {st : List Value} {q : am_L × List Value} (h : am_Lx L L') (e : am_lo i L st = some q) : ∃ L2, am_lo i L' st = some (L2, q.2) ∧ am_Lx q.1 L2 := by
  unfold am_lo at e ⊢
  split at e
  · split at e
    · rename_i e1; cases e; simp only [am_ld_x h e1]; exact ⟨L', rfl, h⟩
    · cases e
  · split at e
    · rename_i e1; cases e; simp only [am_ld_x h e1]; exact ⟨L', rfl, h⟩
    · cases e
  · split at e
    · rename_i e1; cases e; simp only [am_ld_x h e1]; exact ⟨L', rfl, h⟩
    · rename_i e1; cases e; simp only [am_ld_x h e1]; exact ⟨L', rfl, h⟩
    · cases e
  · split at e
    · split at e
      · rename_i hi; cases e; simp only [if_pos (show _ < L'.length from h.1 ▸ hi)]; exact ⟨_, rfl, am_s1_x h hi⟩
      · cases e
    · cases e
  · split at e
    · split at e
      · rename_i hi; cases e; simp only [if_pos (show _ < L'.length from h.1 ▸ hi)]; exact ⟨_, rfl, am_s1_x h hi⟩
      · cases e
    · split at e
      · rename_i hi; cases e; simp only [if_pos (show _ < L'.length from h.1 ▸ hi)]; exact ⟨_, rfl, am_s1_x h hi⟩
      · cases e
    · cases e
  · split at e
    · split at e
      · rename_i hi; cases e; simp only [if_pos (show _ < L'.length from h.1 ▸ hi)]; exact ⟨_, rfl, am_s2_x h (by omega)⟩
      · cases e
    · cases e
  · split at e
    · rename_i e1
      split at e
      · rename_i hi; cases e; simp only [am_ld_x h e1, if_pos (show _ < L'.length from h.1 ▸ hi)]; exact ⟨_, rfl, am_s1_x h hi⟩
      · cases e
    · cases e
  · cases e
theorem am_me_lo {d : am_D} {i : Instr} {L : am_L} {st : List Value} {h : am_H} {q : List Value × am_H} (hm : am_me d i st h = some q) : am_lo i L st = none := by
  unfold am_me at hm
  split at hm <;> first | rfl | (cases hm; done)
theorem am_one_x {d : am_D} {i : Instr} {nx : Nat} {L L' : am_L} {st : List Value} {h : am_H} {q : Nat × am_L × List Value × am_H} (hx : am_Lx L L') (e : am_one d i nx L st h = some q) : ∃ L2, am_one d i nx L' st h = some (q.1, L2, q.2.2.1, q.2.2.2) ∧ am_Lx q.2.1 L2 := by
  unfold am_one at e ⊢
  cases h1 : am_alu i st with
  | some s1 => simp only [h1] at e ⊢; cases e; exact ⟨L', rfl, hx⟩
  | none =>
    simp only [h1] at e ⊢
    cases h2 : am_br i nx st with
    | some s2 => simp only [h2] at e ⊢; cases e; exact ⟨L', rfl, hx⟩
    | none =>
      simp only [h2] at e ⊢
      cases h3 : am_lo i L st with
      | some s3 =>
        simp only [h3] at e
        cases e
        obtain ⟨L2, g1, g2⟩ := am_lo_x hx h3
        simp only [g1]
        exact ⟨L2, rfl, g2⟩
      | none =>
        simp only [h3] at e
        cases h4 : am_me d i st h with
        | none => simp only [h4] at e; cases e
        | some s4 =>
          simp only [h4] at e
          cases e
          simp only [am_me_lo (L := L') h4, h4]
          exact ⟨L', rfl, hx⟩
theorem am_ex_x : ∀ (n : Nat) (d : am_D) (mi pc : Nat) (L L' : am_L) (st : List Value) (h : am_H) (x : Option Value × am_H), am_Lx L L' → am_ex n d mi pc L st h = some x → am_ex n d mi pc L' st h = some x := by
  intro n
  induction n with
  | zero => intro d mi pc L L' st h x _ hx; exact absurd hx (by unfold am_ex; simp)
  | succ n ih =>
    intro d mi pc L L' st h x hl hx
    unfold am_ex at hx ⊢
    cases hat : am_at mi pc with
    | none => rw [hat] at hx; cases hx
    | some q =>
      obtain ⟨i, nx⟩ := q
      simp only [hat] at hx ⊢
      cases hc : am_cal i with
      | some k =>
        simp only [hc] at hx ⊢
        obtain ⟨c1, hx⟩ := am_oif_s hx
        rw [am_oif_t c1]
        cases he : am_ex n (d.1 - 1, d.2 - (19 + am_ml k)) k 0 (am_en (am_ml k) (st.take (am_na k)).reverse) [] h with
        | none => rw [he] at hx; cases hx
        | some q =>
          obtain ⟨r, h1⟩ := q
          rw [he] at hx
          exact ih _ _ _ _ _ _ _ _ hl hx
      | none =>
        simp only [hc] at hx ⊢
        cases hr : am_ret (am_rt mi) i st with
        | some r => simp only [hr] at hx ⊢; exact hx
        | none =>
          simp only [hr] at hx ⊢
          cases ho : am_one d i nx L st h with
          | none => rw [ho] at hx; cases hx
          | some q =>
            simp only [ho] at hx
            obtain ⟨L2, g1, g2⟩ := am_one_x hl ho
            simp only [g1]
            exact ih _ _ _ _ _ _ _ _ g2 hx
theorem wp_L {d : am_D} {mi pc : Nat} {L L' : am_L} {st : List Value} {h : am_H} {Q : Option Value → am_H → Prop} (hm : am_Lm L L') (k : am_wp d mi pc L st h Q) : am_wp d mi pc L' st h Q := by
  obtain ⟨n, r, h', hx, q⟩ := k
  exact ⟨n, r, h', am_ex_x n d mi pc L L' st h _ (am_Lm_x hm) hx, q⟩
