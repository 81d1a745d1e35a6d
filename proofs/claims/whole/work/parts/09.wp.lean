/-! What a run of the abstract machine comes to. -/
theorem am_ex_m : ∀ (n : Nat) (d : am_D) (mi pc : Nat) (L : am_L) (st : List Value) (h : am_H) (x : Option Value × am_H), am_ex n d mi pc L st h = some x → am_ex (n + 1) d mi pc L st h = some x := by
  intro n
  induction n with
  | zero => intro d mi pc L st h x hx; exact absurd hx (by unfold am_ex; simp)
  | succ n ih =>
    intro d mi pc L st h x hx
    unfold am_ex at hx
    unfold am_ex
    cases hat : am_at mi pc with
    | none => rw [hat] at hx; cases hx
    | some q =>
      obtain ⟨i, nx⟩ := q
      simp only [hat] at hx ⊢
      cases hc : am_cal i with
      | some k =>
        simp only [hc] at hx ⊢
        obtain ⟨c1, hx⟩ := am_oif_s hx
        rw [am_oif_t c1]
        cases he : am_ex n (d.1 - 1, d.2 - (19 + am_ml k)) k 0 (am_en (am_ml k) (st.take (am_na k)).reverse) [] h with
        | none => rw [he] at hx; cases hx
        | some q =>
          obtain ⟨r, h1⟩ := q
          rw [he] at hx
          rw [ih _ _ _ _ _ _ _ he]
          exact ih _ _ _ _ _ _ _ hx
      | none =>
        simp only [hc] at hx ⊢
        cases hr : am_ret (am_rt mi) i st with
        | some r => simp only [hr] at hx ⊢; exact hx
        | none =>
          simp only [hr] at hx ⊢
          cases ho : am_one d i nx L st h with
          | none => rw [ho] at hx; cases hx
          | some q =>
            simp only [ho] at hx ⊢
            exact ih _ _ _ _ _ _ _ hx
theorem am_ex_k {n : Nat} {d : am_D} {mi pc : Nat} {L : am_L} {st : List Value} {h : am_H} {x : Option Value × am_H} (hx : am_ex n d mi pc L st h = some x) : ∀ k, am_ex (n + k) d mi pc L st h = some x := by
  intro k
  induction k with
  | zero => exact hx
  | succ k ih => exact am_ex_m _ _ _ _ _ _ _ _ ih
def am_wp (d : am_D) (mi pc : Nat) (L : am_L) (st : List Value) (h : am_H) (Q : Option Value → am_H → Prop) : Prop := ∃ n r h', am_ex n d mi pc L st h = some (r, h') ∧ Q r h'
section WPS
variable {d : am_D} {mi pc nx : Nat} {L : am_L} {st : List Value} {h : am_H} {Q : Option Value → am_H → Prop} {i : Instr}
theorem wp_mono {Q' : Option Value → am_H → Prop} (k : am_wp d mi pc L st h Q) (hq : ∀ r h', Q r h' → Q' r h') : am_wp d mi pc L st h Q' := by
  obtain ⟨n, r, h', hx, q⟩ := k
  exact ⟨n, r, h', hx, hq r h' q⟩
theorem wp_ret {r : Option Value} (hat : am_at mi pc = some (i, nx)) (hcal : am_cal i = none) (hret : am_ret (am_rt mi) i st = some r) (q : Q r h) : am_wp d mi pc L st h Q := by
  refine ⟨1, r, h, ?_, q⟩
  unfold am_ex
  simp only [hat, hcal, hret]
theorem wp_one {q : Nat × am_L × List Value × am_H} (hat : am_at mi pc = some (i, nx)) (hcal : am_cal i = none) (hret : ∀ rt, am_ret rt i st = none) (ho : am_one d i nx L st h = some q) (k : am_wp d mi q.1 q.2.1 q.2.2.1 q.2.2.2 Q) : am_wp d mi pc L st h Q := by
  obtain ⟨n, r, h', hx, hq⟩ := k
  refine ⟨n + 1, r, h', ?_, hq⟩
  unfold am_ex
  simp only [hat, hcal, hret, ho]
  exact hx
theorem wp_call {k : Nat} {Qc : Option Value → am_H → Prop} (hat : am_at mi pc = some (.invokestatic k, nx)) (hd : 0 < d.1) (hw : 19 + am_ml k ≤ d.2) (hcx : am_cx k st h) (kc : am_wp (d.1 - 1, d.2 - (19 + am_ml k)) k 0 (am_en (am_ml k) (st.take (am_na k)).reverse) [] h Qc) (kk : ∀ r h1, Qc r h1 → am_wp d mi nx L (r.toList ++ st.drop (am_na k)) h1 Q) : am_wp d mi pc L st h Q := by
  obtain ⟨n1, r1, h1, hx1, hq1⟩ := kc
  obtain ⟨n2, r, h', hx2, hq⟩ := kk r1 h1 hq1
  refine ⟨n1 + n2 + 1, r, h', ?_, hq⟩
  unfold am_ex
  simp only [hat, show am_cal (.invokestatic k) = some k from rfl]
  rw [am_oif_t ⟨hd, hw, hcx⟩, am_ex_k hx1 n2]
  have g := am_ex_k hx2 n1
  rw [Nat.add_comm] at g
  exact g
end WPS
