/-! Helpers for what stands behind the tables. -/
theorem am_tw {pc : Nat} {ts offs : Array Int} (h : offs.toList.map (fun o => (pc : Int) + o) = ts.toList.map (fun t => ((t.toNat : Nat) : Int))) : ∀ (j : Nat) (t : Int), ts[j]? = some t → ∃ o, offs[j]? = some o ∧ (pc : Int) + o = ((t.toNat : Nat) : Int) := by
  intro j t ht
  have h1 : (ts.toList.map (fun t => ((t.toNat : Nat) : Int)))[j]? = some ((t.toNat : Nat) : Int) := by
    rw [List.getElem?_map, Array.getElem?_toList, ht]; rfl
  rw [← h, List.getElem?_map, Array.getElem?_toList] at h1
  cases ho : offs[j]? with
  | none => rw [ho] at h1; cases h1
  | some o => rw [ho] at h1; exact ⟨o, rfl, Option.some.inj h1⟩
set_option maxRecDepth 20000 in
theorem am_Ml : am_M.length = 177 := by decide +kernel
theorem am_lk {k : Nat} (h : k < 177) : k < am_M.length := by rw [am_Ml]; exact h
theorem am_ap {mi : Nat} {a b : List (Nat × Instr × Nat)} (ha : ∀ q ∈ a, am_ok mi q.1 q.2.1 q.2.2) (hb : ∀ q ∈ b, am_ok mi q.1 q.2.1 q.2.2) : ∀ q ∈ a ++ b, am_ok mi q.1 q.2.1 q.2.2 := fun q hq => by
  rcases List.mem_append.mp hq with h | h
  · exact ha q h
  · exact hb q h
def am_op (k : Nat) (t : List (Nat × Instr × Nat)) : Prop := ∀ q ∈ t, am_ok k q.1 q.2.1 q.2.2
theorem am_sp {n : Nat} {t : List (Nat × Instr × Nat)} {l : List (List (Nat × Instr × Nat))} (h0 : ∀ q ∈ t, am_ok n q.1 q.2.1 q.2.2) (hl : ∀ (k : Nat) (u : List (Nat × Instr × Nat)), l[k]? = some u → am_op (n + 1 + k) u) : ∀ (k : Nat) (u : List (Nat × Instr × Nat)), (t :: l)[k]? = some u → am_op (n + k) u := by
  intro k u hk
  cases k with
  | zero => cases hk; exact h0
  | succ k => rw [show n + (k + 1) = n + 1 + k by omega]; exact hl k u hk
theorem am_sn {n : Nat} : ∀ (k : Nat) (u : List (Nat × Instr × Nat)), ([] : List (List (Nat × Instr × Nat)))[k]? = some u → am_op (n + k) u := fun k u h => by simp at h
theorem am_lkp {α : Type} {l : List (Nat × α)} {a : Nat} {b : α} (h : l.lookup a = some b) : (a, b) ∈ l := by
  induction l with
  | nil => cases h
  | cons q l ih =>
    obtain ⟨x, y⟩ := q
    rw [List.lookup_cons] at h
    split at h
    · rename_i e
      cases h
      have e : a = x := by simpa using e
      subst e
      exact List.mem_cons_self
    · exact List.mem_cons_of_mem _ (ih h)
theorem am_dz {mi : Nat} {l : List (Nat × Instr × Nat)} (h : l.all (fun q => decide (decode (am_cc mi) q.1 = .ok (q.2.1, q.2.2))) = true) (i pc : Nat) (x : Instr) (n : Nat) (hi : l[i]? = some (pc, x, n)) : decode (am_cc mi) pc = .ok (x, n) := by
  have h1 := List.all_eq_true.mp h _ (List.mem_of_getElem? hi)
  exact of_decide_eq_true h1
theorem am_sq {n N : Nat} {p : Nat → Prop} (h0 : p n) (hl : ∀ k, n + 1 ≤ k → k < N → p k) : ∀ k, n ≤ k → k < N → p k := fun k h1 h2 => by
  by_cases e : k = n
  · rw [e]; exact h0
  · exact hl k (by omega) h2
theorem am_s0 {n N : Nat} {p : Nat → Prop} (h : N ≤ n) : ∀ k, n ≤ k → k < N → p k := fun k h1 h2 => absurd h2 (by omega)
