/-! What the abstract machine keeps: references stay valid, cells keep their shape, cells and slots only grow. -/
def am_vv (n : Nat) (v : Value) : Prop := match v with
  | .ref q => q < n
  | _ => True
def am_vt (n : Nat) (st : List Value) : Prop := ∀ v ∈ st, am_vv n v
def am_vl (n : Nat) (L : am_L) : Prop := ∀ (i : Nat) (v : Value), L[i]? = some (some v) → am_vv n v
def am_vh (h : am_H) : Prop := 0 < am_n h ∧ ∀ k j q, am_P h k j = some q → q < am_n h
def am_le (h h' : am_H) : Prop := am_n h ≤ am_n h' ∧ am_sl h ≤ am_sl h' ∧ (∀ k, k < am_n h → am_sh h' k = am_sh h k) ∧ am_I h' 0 = am_I h 0
theorem am_vv_le {n n' : Nat} {v : Value} (h : am_vv n v) (hn : n ≤ n') : am_vv n' v := by
  cases v <;> first | trivial | exact Nat.lt_of_lt_of_le h hn
theorem am_vt_le {n n' : Nat} {st : List Value} (h : am_vt n st) (hn : n ≤ n') : am_vt n' st := fun v hv => am_vv_le (h v hv) hn
theorem am_vl_le {n n' : Nat} {L : am_L} (h : am_vl n L) (hn : n ≤ n') : am_vl n' L := fun i v hv => am_vv_le (h i v hv) hn
theorem am_vt_c {n : Nat} {v : Value} {st : List Value} : am_vt n (v :: st) ↔ am_vv n v ∧ am_vt n st := by
  unfold am_vt; simp only [List.mem_cons, forall_eq_or_imp]
theorem am_vt_0 {n : Nat} : am_vt n [] := fun _ h => absurd h List.not_mem_nil
theorem am_vt_a {n : Nat} {a b : List Value} (ha : am_vt n a) (hb : am_vt n b) : am_vt n (a ++ b) := fun v hv => by
  rcases List.mem_append.mp hv with h | h
  · exact ha v h
  · exact hb v h
theorem am_vv_r {n : Nat} {o : Option Nat} (h : ∀ q, o = some q → q < n) : am_vv n (va_rf o) := by
  cases o with
  | none => trivial
  | some q => exact h q rfl
theorem am_le_r (h : am_H) : am_le h h := ⟨Nat.le_refl _, Nat.le_refl _, fun _ _ => rfl, rfl⟩
theorem am_le_t {a b c : am_H} (h : am_le a b) (k : am_le b c) : am_le a c := ⟨Nat.le_trans h.1 k.1, Nat.le_trans h.2.1 k.2.1, fun q hq => (k.2.2.1 q (Nat.lt_of_lt_of_le hq h.1)).trans (h.2.2.1 q hq), k.2.2.2.trans h.2.2.2⟩
theorem am_le_wI {h : am_H} {q j : Nat} {x : Int32} (hq : 0 < q) : am_le h (am_wI h q j x) := by
  refine ⟨Nat.le_refl _, Nat.le_refl _, fun _ _ => rfl, ?_⟩
  funext b
  show (if (0 : Nat) = q then _ else _) = _
  rw [if_neg (by omega)]; rfl
theorem am_le_wP {h : am_H} {q j : Nat} {x : Option Nat} : am_le h (am_wP h q j x) := ⟨Nat.le_refl _, Nat.le_refl _, fun _ _ => rfl, rfl⟩
theorem am_le_wR {h : am_H} {q : Nat} {r : Nat → Int32} (hq : 0 < q) : am_le h (am_wR h q r) := by
  refine ⟨Nat.le_refl _, Nat.le_refl _, fun _ _ => rfl, ?_⟩
  funext b
  show (if (0 : Nat) = q then _ else _) = _
  rw [if_neg (by omega)]; rfl
theorem am_le_new {h : am_H} {z : am_S} {w : Nat} (hn : 0 < am_n h) : am_le h (am_new h z w) := by
  refine ⟨Nat.le_succ _, Nat.le_add_right _ _, fun k hk => ?_, ?_⟩
  · show (if k = am_n h then _ else _) = _
    rw [if_neg (by omega)]; rfl
  · funext b
    show (if (0 : Nat) = am_n h then _ else _) = _
    rw [if_neg (by omega)]; rfl
theorem am_vh_wP {h : am_H} {q j : Nat} {x : Option Nat} (hh : am_vh h) (hx : ∀ y, x = some y → y < am_n h) : am_vh (am_wP h q j x) := by
  refine ⟨hh.1, fun a b y hy => ?_⟩
  have hy : (if a = q then (if b = j then x else am_P h a b) else am_P h a b) = some y := hy
  split at hy
  · split at hy
    · exact hx y hy
    · exact hh.2 _ _ y hy
  · exact hh.2 _ _ y hy
theorem am_vh_new {h : am_H} {z : am_S} {w : Nat} (hh : am_vh h) : am_vh (am_new h z w) := by
  refine ⟨Nat.succ_pos _, fun a b y hy => ?_⟩
  have hy : (if a = am_n h then none else am_P h a b) = some y := hy
  split at hy
  · cases hy
  · exact Nat.lt_succ_of_lt (hh.2 _ _ y hy)
theorem am_alu_v {n : Nat} {i : Instr} {st st' : List Value} (h : am_alu i st = some st') (hv : am_vt n st) : am_vt n st' := by
  unfold am_alu am_ii am_ll at h
  split at h
  all_goals (repeat' split at h)
  all_goals first | (cases h; done) | skip
  all_goals cases h
  all_goals (simp only [am_vt_c] at hv ⊢)
  all_goals first | (simp_all [am_vv]; done) | (exact ⟨trivial, hv⟩) | skip
theorem am_br_v {n nx : Nat} {i : Instr} {st : List Value} {q : Nat × List Value} (h : am_br i nx st = some q) (hv : am_vt n st) : am_vt n q.2 := by
  unfold am_br at h
  split at h
  all_goals (repeat' split at h)
  all_goals first | (cases h; done) | skip
  all_goals cases h
  all_goals (simp only [am_vt_c] at hv ⊢)
  all_goals first | exact hv | exact hv.2 | exact hv.2.2 | (simp_all; done)
theorem am_kl_at {L : am_L} {i j : Nat} {w : Value} (h : (am_kl L i)[j]? = some (some w)) : L[j]? = some (some w) ∧ ¬ (j + 1 = i ∧ w.category = 2) := by
  unfold am_kl at h
  split at h
  · rw [List.getElem?_set] at h
    split at h
    · split at h <;> cases h
    · rename_i c2
      exact ⟨h, fun hh => c2 (by omega)⟩
  · rename_i c1
    refine ⟨h, fun hh => c1 ⟨by omega, ?_⟩⟩
    have e2 : i - 1 = j := by omega
    rw [e2, h]
    simp [am_c2, hh.2]
theorem am_s1_at {L : am_L} {i j : Nat} {v w : Value} (h : (am_s1 L i v)[j]? = some (some w)) : (j = i ∧ w = v) ∨ (j ≠ i ∧ L[j]? = some (some w) ∧ ¬ (j + 1 = i ∧ w.category = 2)) := by
  have h : ((am_kl L i).set i (some v))[j]? = some (some w) := h
  generalize hK : am_kl L i = K at h
  rw [List.getElem?_set] at h
  by_cases e : j = i
  · subst e
    rw [if_pos rfl] at h
    split at h
    · cases h; exact Or.inl ⟨rfl, rfl⟩
    · cases h
  · rw [if_neg (Ne.symm e)] at h
    subst hK
    exact Or.inr ⟨e, am_kl_at h⟩
theorem am_s2_at {L : am_L} {i j : Nat} {v w : Value} (h : (am_s2 L i v)[j]? = some (some w)) : (j = i ∧ w = v) ∨ (j ≠ i ∧ j ≠ i + 1 ∧ L[j]? = some (some w) ∧ ¬ (j + 1 = i ∧ w.category = 2)) := by
  have h : ((am_s1 L i v).set (i + 1) none)[j]? = some (some w) := h
  rw [List.getElem?_set] at h
  split at h
  · split at h <;> cases h
  · rename_i c
    rcases am_s1_at h with q | q
    · exact Or.inl q
    · exact Or.inr ⟨q.1, fun hh => c hh.symm, q.2⟩
theorem am_s1_len {L : am_L} {i : Nat} {v : Value} : (am_s1 L i v).length = L.length := by
  unfold am_s1 am_kl
  split <;> simp
theorem am_s2_len {L : am_L} {i : Nat} {v : Value} : (am_s2 L i v).length = L.length := by
  have h : am_s2 L i v = (am_s1 L i v).set (i + 1) none := rfl
  rw [h, List.length_set, am_s1_len]
theorem am_ld_s {L : am_L} {i : Nat} {v : Value} (h : am_ld L i = some v) : L[i]? = some (some v) := by
  unfold am_ld at h
  split at h
  · rename_i e; cases h; exact e
  · cases h
theorem am_s1_v {n : Nat} {L : am_L} {i : Nat} {v : Value} (h : am_vl n L) (hv : am_vv n v) : am_vl n (am_s1 L i v) := fun j w hw => by
  rcases am_s1_at hw with q | q
  · rw [q.2]; exact hv
  · exact h j w q.2.1
theorem am_s2_v {n : Nat} {L : am_L} {i : Nat} {v : Value} (h : am_vl n L) (hv : am_vv n v) : am_vl n (am_s2 L i v) := fun j w hw => by
  rcases am_s2_at hw with q | q
  · rw [q.2]; exact hv
  · exact h j w q.2.2.1
/-- what a load or store of a local is -/
theorem am_lo_v {n : Nat} {i : Instr} {L : am_L} {st : List Value} {q : am_L × List Value} (h : am_lo i L st = some q) (hl : am_vl n L) (hv : am_vt n st) : am_vl n q.1 ∧ am_vt n q.2 ∧ q.1.length = L.length := by
  unfold am_lo at h
  split at h
  · split at h
    · cases h; exact ⟨hl, am_vt_c.mpr ⟨trivial, hv⟩, rfl⟩
    · cases h
  · split at h
    · cases h; exact ⟨hl, am_vt_c.mpr ⟨trivial, hv⟩, rfl⟩
    · cases h
  · split at h
    · rename_i e; cases h; exact ⟨hl, am_vt_c.mpr ⟨hl _ _ (am_ld_s e), hv⟩, rfl⟩
    · cases h; exact ⟨hl, am_vt_c.mpr ⟨trivial, hv⟩, rfl⟩
    · cases h
  · split at h
    · split at h
      · cases h; exact ⟨am_s1_v hl trivial, (am_vt_c.mp hv).2, am_s1_len⟩
      · cases h
    · cases h
  · split at h
    · split at h
      · cases h; exact ⟨am_s1_v hl (am_vt_c.mp hv).1, (am_vt_c.mp hv).2, am_s1_len⟩
      · cases h
    · split at h
      · cases h; exact ⟨am_s1_v hl trivial, (am_vt_c.mp hv).2, am_s1_len⟩
      · cases h
    · cases h
  · split at h
    · split at h
      · cases h; exact ⟨am_s2_v hl trivial, (am_vt_c.mp hv).2, am_s2_len⟩
      · cases h
    · cases h
  · split at h
    · split at h
      · cases h; exact ⟨am_s1_v hl trivial, hv, am_s1_len⟩
      · cases h
    · cases h
  · cases h
theorem am_ix_s {i : Int32} {n j : Nat} (h : am_ix i n = some j) : vp_in i n ∧ i.toNatClampNeg = j := by
  unfold am_ix at h
  split at h
  · cases h
  · rename_i c; cases h; exact ⟨c, rfl⟩
theorem am_xg_s {cf : Nat} {st : List Value} {h : am_H} {q : List Value × am_H} (hm : am_xg cf st h = some q) : ∃ a r, st = .ref a :: r ∧ am_ob h a (cf / 64) ∧ cf % 64 < am_nf (cf / 64) ∧ q = (am_gv h a (cf / 64) (cf % 64) :: r, h) := by
  unfold am_xg at hm
  split at hm
  · split at hm
    · rename_i c; cases hm; exact ⟨_, _, rfl, c.1, c.2, rfl⟩
    · cases hm
  · cases hm
theorem am_xp_s {cf : Nat} {st : List Value} {h : am_H} {q : List Value × am_H} (hm : am_xp cf st h = some q) : ∃ v a r h', st = v :: .ref a :: r ∧ am_ob h a (cf / 64) ∧ cf % 64 < am_nf (cf / 64) ∧ am_pv h a (cf / 64) (cf % 64) v = some h' ∧ q = (r, h') := by
  unfold am_xp at hm
  split at hm
  · split at hm
    · rename_i c
      obtain ⟨h', e1, e2⟩ := Option.map_eq_some_iff.mp hm
      exact ⟨_, _, _, h', rfl, c.1, c.2, e1, e2.symm⟩
    · cases hm
  · cases hm
theorem am_pv_s {h h' : am_H} {a c j : Nat} {v : Value} (hm : am_pv h a c j v = some h') : (∃ x, v = .int x ∧ am_rf c j = false ∧ am_lg c j = false ∧ narrow (am_ty c j) (.int x) = .int x ∧ fits (am_ty c j) (.int x) = true ∧ h' = am_wI h a j x) ∨ (∃ x : Int32, v = .long x.toInt64 ∧ am_rf c j = false ∧ am_lg c j = true ∧ h' = am_wI h a j x) ∨ (∃ o, v = va_rf o ∧ am_rf c j = true ∧ h' = am_wP h a j o) := by
  unfold am_pv at hm
  split at hm
  · split at hm
    · rename_i c; cases hm; exact Or.inr (Or.inl ⟨_, congrArg Value.long c.2.2.symm, c.1, c.2.1, rfl⟩)
    · cases hm
  · split at hm
    · rename_i c; cases hm; exact Or.inl ⟨_, rfl, c.1, c.2.1, c.2.2.1, c.2.2.2, rfl⟩
    · cases hm
  · split at hm
    · rename_i c; cases hm; exact Or.inr (Or.inr ⟨some _, rfl, c, rfl⟩)
    · cases hm
  · split at hm
    · rename_i c; cases hm; exact Or.inr (Or.inr ⟨none, rfl, c, rfl⟩)
    · cases hm
  · cases hm
theorem am_xl_s {t : Nat} {st : List Value} {h : am_H} {q : List Value × am_H} (hm : am_xl t st h = some q) : ∃ i a r, st = .int i :: .ref a :: r ∧ am_ay h a t ∧ vp_in i (am_sh h a).2.2 ∧ q = (.int (am_I h a i.toNatClampNeg) :: r, h) := by
  unfold am_xl at hm
  split at hm
  · split at hm
    · rename_i c
      obtain ⟨j, e1, e2⟩ := Option.map_eq_some_iff.mp hm
      obtain ⟨g1, rfl⟩ := am_ix_s e1
      exact ⟨_, _, _, rfl, c, g1, e2.symm⟩
    · cases hm
  · cases hm
theorem am_xs_s {st : List Value} {h : am_H} {q : List Value × am_H} (hm : am_xs st h = some q) : ∃ x i a r, st = .int x :: .int i :: .ref a :: r ∧ am_ay h a 1 ∧ vp_in i (am_sh h a).2.2 ∧ q = (r, am_wI h a i.toNatClampNeg x) := by
  unfold am_xs at hm
  split at hm
  · split at hm
    · rename_i c
      obtain ⟨j, e1, e2⟩ := Option.map_eq_some_iff.mp hm
      obtain ⟨g1, rfl⟩ := am_ix_s e1
      exact ⟨_, _, _, _, rfl, c, g1, e2.symm⟩
    · cases hm
  · cases hm
theorem am_xz_s {st : List Value} {h : am_H} {q : List Value × am_H} (hm : am_xz st h = some q) : ∃ x i a r, st = .int x :: .int i :: .ref a :: r ∧ am_ay h a 3 ∧ vp_in i (am_sh h a).2.2 ∧ q = (r, am_wI h a i.toNatClampNeg (vp_nar .boolean x)) := by
  unfold am_xz at hm
  split at hm
  · split at hm
    · rename_i c
      obtain ⟨j, e1, e2⟩ := Option.map_eq_some_iff.mp hm
      obtain ⟨g1, rfl⟩ := am_ix_s e1
      exact ⟨_, _, _, _, rfl, c, g1, e2.symm⟩
    · cases hm
  · cases hm
theorem am_xa_s {st : List Value} {h : am_H} {q : List Value × am_H} (hm : am_xa st h = some q) : ∃ i a r, st = .int i :: .ref a :: r ∧ am_ay h a 2 ∧ vp_in i (am_sh h a).2.2 ∧ q = (va_rf (am_P h a i.toNatClampNeg) :: r, h) := by
  unfold am_xa at hm
  split at hm
  · split at hm
    · rename_i c
      obtain ⟨j, e1, e2⟩ := Option.map_eq_some_iff.mp hm
      obtain ⟨g1, rfl⟩ := am_ix_s e1
      exact ⟨_, _, _, rfl, c, g1, e2.symm⟩
    · cases hm
  · cases hm
theorem am_xt_s {st : List Value} {h : am_H} {q : List Value × am_H} (hm : am_xt st h = some q) : ∃ o i a r, st = va_rf o :: .int i :: .ref a :: r ∧ am_ay h a 2 ∧ (∀ v, o = some v → am_ob h v (am_sh h a).2.1) ∧ vp_in i (am_sh h a).2.2 ∧ q = (r, am_wP h a i.toNatClampNeg o) := by
  unfold am_xt at hm
  split at hm
  · split at hm
    · rename_i c
      obtain ⟨j, e1, e2⟩ := Option.map_eq_some_iff.mp hm
      obtain ⟨g1, rfl⟩ := am_ix_s e1
      exact ⟨some _, _, _, _, rfl, c.1, fun v hv => (by cases hv; exact c.2), g1, e2.symm⟩
    · cases hm
  · split at hm
    · rename_i c
      obtain ⟨j, e1, e2⟩ := Option.map_eq_some_iff.mp hm
      obtain ⟨g1, rfl⟩ := am_ix_s e1
      exact ⟨none, _, _, _, rfl, c, fun v hv => (by cases hv), g1, e2.symm⟩
    · cases hm
  · cases hm
theorem am_xn_s {st : List Value} {h : am_H} {q : List Value × am_H} (hm : am_xn st h = some q) : ∃ a r, st = .ref a :: r ∧ 0 < a ∧ a < am_n h ∧ ¬ (am_sh h a).1 = 0 ∧ q = (.int (Int32.ofNat (am_sh h a).2.2) :: r, h) := by
  unfold am_xn at hm
  split at hm
  · split at hm
    · rename_i c; cases hm; exact ⟨_, _, rfl, c.1, c.2.1, c.2.2, rfl⟩
    · cases hm
  · cases hm
theorem am_xw_s {t : Option Nat} {st : List Value} {h : am_H} {q : List Value × am_H} (hm : am_xw t st h = some q) : ∃ n r k, t = some k ∧ st = .int n :: r ∧ ¬ n < 0 ∧ n.toNatClampNeg * 4 ≤ 536870912 ∧ q = (.ref (am_n h) :: r, am_new h (k, 0, n.toNatClampNeg) n.toNatClampNeg) := by
  unfold am_xw at hm
  split at hm
  · split at hm
    · rename_i c
      obtain ⟨j, e1, e2⟩ := Option.map_eq_some_iff.mp hm
      exact ⟨_, _, j, e1, rfl, c.1, c.2, e2.symm⟩
    · cases hm
  · cases hm
theorem am_xq_s {k : Nat} {st : List Value} {h : am_H} {q : List Value × am_H} (hm : am_xq k st h = some q) : ∃ n r, st = .int n :: r ∧ ¬ n < 0 ∧ n.toNatClampNeg * 4 ≤ 536870912 ∧ q = (.ref (am_n h) :: r, am_new h (2, k, n.toNatClampNeg) n.toNatClampNeg) := by
  unfold am_xq at hm
  split at hm
  · split at hm
    · rename_i c; cases hm; exact ⟨_, _, rfl, c.1, c.2, rfl⟩
    · cases hm
  · cases hm
theorem am_xc_s {st : List Value} {h : am_H} {q : List Value × am_H} (hm : am_xc st h = some q) : ∃ i r, st = .int i :: .ref 0 :: r ∧ vp_in i (am_sh h 0).2.2 ∧ q = (.int (am_I h 0 i.toNatClampNeg) :: r, h) := by
  unfold am_xc at hm
  split at hm
  · obtain ⟨j, e1, e2⟩ := Option.map_eq_some_iff.mp hm
    obtain ⟨g1, rfl⟩ := am_ix_s e1
    exact ⟨_, _, rfl, g1, e2.symm⟩
  · cases hm
theorem am_xe_s {st : List Value} {h : am_H} {q : List Value × am_H} (hm : am_xe st h = some q) : ∃ r, st = .ref 0 :: r ∧ q = (.int (Int32.ofNat (am_sh h 0).2.2) :: r, h) := by
  unfold am_xe at hm
  split at hm
  · cases hm; exact ⟨_, rfl, rfl⟩
  · cases hm
theorem am_xo_s {d : am_D} {st : List Value} {h : am_H} {q : List Value × am_H} (hm : am_xo d st h = some q) : ∃ a r, st = .ref a :: r ∧ 0 < d.1 ∧ 26 ≤ d.2 ∧ am_sm r ∧ q = (r, h) := by
  unfold am_xo at hm
  split at hm
  · split at hm
    · rename_i c; cases hm; exact ⟨_, _, rfl, c.1, c.2.1, c.2.2, rfl⟩
    · cases hm
  · cases hm
theorem am_xm_s {d : am_D} {st : List Value} {h : am_H} {q : List Value × am_H} (hm : am_xm d st h = some q) : ∃ y x r, st = .int y :: .int x :: r ∧ 0 < d.1 ∧ 26 ≤ d.2 ∧ am_sm r ∧ q = (.int (if y < x then y else x) :: r, h) := by
  unfold am_xm at hm
  split at hm
  · split at hm
    · rename_i c; cases hm; exact ⟨_, _, _, rfl, c.1, c.2.1, c.2.2, rfl⟩
    · cases hm
  · cases hm
theorem am_xy_s {d : am_D} {st : List Value} {h : am_H} {q : List Value × am_H} (hm : am_xy d st h = some q) : ∃ n dp a sp a0 r, st = .int n :: .int dp :: .ref a :: .int sp :: .ref a0 :: r ∧ am_yc d h n dp sp a a0 r ∧ q = (r, am_wR h a (va_cpy (am_I h a0) (am_I h a) sp.toNatClampNeg dp.toNatClampNeg n.toNatClampNeg)) := by
  unfold am_xy at hm
  split at hm
  · split at hm
    · rename_i c; cases hm; exact ⟨_, _, _, _, _, _, rfl, c, rfl⟩
    · cases hm
  · cases hm
def am_vq (h : am_H) (q : List Value × am_H) : Prop := am_vh q.2 ∧ am_vt (am_n q.2) q.1 ∧ am_le h q.2
theorem am_me_v {d : am_D} {i : Instr} {st : List Value} {h : am_H} {q : List Value × am_H} (hm : am_me d i st h = some q) (hh : am_vh h) (hv : am_vt (am_n h) st) : am_vq h q := by
  unfold am_me at hm
  split at hm
  · obtain ⟨a, r, rfl, h1, h2, rfl⟩ := am_xg_s hm
    refine ⟨hh, am_vt_c.mpr ⟨?_, (am_vt_c.mp hv).2⟩, am_le_r _⟩
    unfold am_gv
    split
    · exact am_vv_r (fun q hq => hh.2 _ _ q hq)
    · split <;> trivial
  · obtain ⟨v, a, r, h', rfl, h1, h2, h3, rfl⟩ := am_xp_s hm
    have hv1 := am_vt_c.mp hv
    have hv2 := am_vt_c.mp hv1.2
    rcases am_pv_s h3 with ⟨x, rfl, -, -, -, -, rfl⟩ | ⟨x, rfl, -, -, rfl⟩ | ⟨o, rfl, -, rfl⟩
    · exact ⟨hh, hv2.2, am_le_wI h1.1⟩
    · exact ⟨hh, hv2.2, am_le_wI h1.1⟩
    · exact ⟨am_vh_wP hh (fun y hy => by subst hy; exact hv1.1), hv2.2, am_le_wP⟩
  · obtain ⟨i, a, r, rfl, h1, h2, rfl⟩ := am_xl_s hm
    exact ⟨hh, am_vt_c.mpr ⟨trivial, (am_vt_c.mp (am_vt_c.mp hv).2).2⟩, am_le_r _⟩
  · obtain ⟨x, i, a, r, rfl, h1, h2, rfl⟩ := am_xs_s hm
    exact ⟨hh, (am_vt_c.mp (am_vt_c.mp (am_vt_c.mp hv).2).2).2, am_le_wI h1.1⟩
  · obtain ⟨i, a, r, rfl, h1, h2, rfl⟩ := am_xl_s hm
    exact ⟨hh, am_vt_c.mpr ⟨trivial, (am_vt_c.mp (am_vt_c.mp hv).2).2⟩, am_le_r _⟩
  · obtain ⟨x, i, a, r, rfl, h1, h2, rfl⟩ := am_xz_s hm
    exact ⟨hh, (am_vt_c.mp (am_vt_c.mp (am_vt_c.mp hv).2).2).2, am_le_wI h1.1⟩
  · obtain ⟨i, a, r, rfl, h1, h2, rfl⟩ := am_xa_s hm
    exact ⟨hh, am_vt_c.mpr ⟨am_vv_r (fun q hq => hh.2 _ _ q hq), (am_vt_c.mp (am_vt_c.mp hv).2).2⟩, am_le_r _⟩
  · obtain ⟨o, i, a, r, rfl, h1, h2, h3, rfl⟩ := am_xt_s hm
    exact ⟨am_vh_wP hh (fun y hy => (h2 y hy).2.1), (am_vt_c.mp (am_vt_c.mp (am_vt_c.mp hv).2).2).2, am_le_wP⟩
  · obtain ⟨a, r, rfl, h1, h2, h3, rfl⟩ := am_xn_s hm
    exact ⟨hh, am_vt_c.mpr ⟨trivial, (am_vt_c.mp hv).2⟩, am_le_r _⟩
  · obtain ⟨n, r, k, -, rfl, h1, h2, rfl⟩ := am_xw_s hm
    exact ⟨am_vh_new hh, am_vt_c.mpr ⟨Nat.lt_succ_self _, am_vt_le (am_vt_c.mp hv).2 (Nat.le_succ _)⟩, am_le_new hh.1⟩
  · obtain ⟨n, r, k, -, rfl, h1, h2, rfl⟩ := am_xw_s hm
    exact ⟨am_vh_new hh, am_vt_c.mpr ⟨Nat.lt_succ_self _, am_vt_le (am_vt_c.mp hv).2 (Nat.le_succ _)⟩, am_le_new hh.1⟩
  · obtain ⟨n, r, rfl, h1, h2, rfl⟩ := am_xq_s hm
    exact ⟨am_vh_new hh, am_vt_c.mpr ⟨Nat.lt_succ_self _, am_vt_le (am_vt_c.mp hv).2 (Nat.le_succ _)⟩, am_le_new hh.1⟩
  · cases hm
    exact ⟨am_vh_new hh, am_vt_c.mpr ⟨Nat.lt_succ_self _, am_vt_le hv (Nat.le_succ _)⟩, am_le_new hh.1⟩
  · obtain ⟨i, r, rfl, h1, rfl⟩ := am_xc_s hm
    exact ⟨hh, am_vt_c.mpr ⟨trivial, (am_vt_c.mp (am_vt_c.mp hv).2).2⟩, am_le_r _⟩
  · obtain ⟨r, rfl, rfl⟩ := am_xe_s hm
    exact ⟨hh, am_vt_c.mpr ⟨trivial, (am_vt_c.mp hv).2⟩, am_le_r _⟩
  · obtain ⟨a, r, rfl, h1, h2, h3, rfl⟩ := am_xo_s hm
    exact ⟨hh, (am_vt_c.mp hv).2, am_le_r _⟩
  · obtain ⟨y, x, r, rfl, h1, h2, h3, rfl⟩ := am_xm_s hm
    exact ⟨hh, am_vt_c.mpr ⟨trivial, (am_vt_c.mp (am_vt_c.mp hv).2).2⟩, am_le_r _⟩
  · obtain ⟨n, dp, a, sp, a0, r, rfl, h1, rfl⟩ := am_xy_s hm
    exact ⟨hh, (am_vt_c.mp (am_vt_c.mp (am_vt_c.mp (am_vt_c.mp (am_vt_c.mp hv).2).2).2).2).2, am_le_wR h1.2.2.2.1.1⟩
  · cases hm
/-- a state of the abstract machine is in order -/
def am_vs (h : am_H) (L : am_L) (st : List Value) : Prop := am_vh h ∧ am_vl (am_n h) L ∧ am_vt (am_n h) st
theorem am_one_v {d : am_D} {nx : Nat} {i : Instr} {L : am_L} {st : List Value} {h : am_H} {q : Nat × am_L × List Value × am_H} (hm : am_one d i nx L st h = some q) (hv : am_vs h L st) : am_vs q.2.2.2 q.2.1 q.2.2.1 ∧ am_le h q.2.2.2 ∧ q.2.1.length = L.length := by
  unfold am_one at hm
  split at hm
  · rename_i e; cases hm
    exact ⟨⟨hv.1, hv.2.1, am_alu_v e hv.2.2⟩, am_le_r _, rfl⟩
  · split at hm
    · rename_i e; cases hm
      exact ⟨⟨hv.1, hv.2.1, am_br_v e hv.2.2⟩, am_le_r _, rfl⟩
    · split at hm
      · rename_i e; cases hm
        have g := am_lo_v e hv.2.1 hv.2.2
        exact ⟨⟨hv.1, g.1, g.2.1⟩, am_le_r _, g.2.2⟩
      · split at hm
        · rename_i e; cases hm
          have g := am_me_v e hv.1 hv.2.2
          exact ⟨⟨g.1, am_vl_le hv.2.1 g.2.2.1, g.2.1⟩, g.2.2, rfl⟩
        · cases hm
theorem am_ret_v {n : Nat} {rt : Option FieldType} {i : Instr} {st : List Value} {r : Option Value} (h : am_ret rt i st = some r) (hv : am_vt n st) : st = r.toList := by
  unfold am_ret at h
  split at h
  all_goals (repeat' split at h)
  all_goals first | (cases h; done) | (cases h; rfl)
theorem am_es_v {n : Nat} {As : List Value} (h : am_vt n As) : ∀ v, some v ∈ am_es As → am_vv n v := by
  intro v hv
  obtain ⟨w, h1, h2⟩ := List.mem_flatMap.mp hv
  split at h2
  · simp at h2; subst h2; exact h _ h1
  · simp at h2; subst h2; exact h _ h1
theorem am_en_v {n ml : Nat} {As : List Value} (h : am_vt n As) : am_vl n (am_en ml As) := by
  intro i v hv
  have hm := List.mem_of_getElem? hv
  rcases List.mem_append.mp hm with q | q
  · exact am_es_v h v q
  · exact absurd (List.mem_replicate.mp q).2 (by simp)
theorem am_en_len {ml : Nat} {As : List Value} (h : (am_es As).length ≤ ml) : (am_en ml As).length = ml := by
  unfold am_en
  rw [List.length_append, List.length_replicate]; omega
theorem am_tk_v {n k : Nat} {st : List Value} (h : am_vt n st) : am_vt n (st.take k).reverse ∧ am_vt n (st.drop k) := ⟨fun v hv => h v (List.mem_of_mem_take (List.mem_reverse.mp hv)), fun v hv => h v (List.mem_of_mem_drop hv)⟩
/-- a whole run keeps all that -/
theorem am_ex_v : ∀ (n : Nat) (d : am_D) (mi pc : Nat) (L : am_L) (st : List Value) (h : am_H) (r : Option Value) (h' : am_H), am_ex n d mi pc L st h = some (r, h') → am_vs h L st → am_vh h' ∧ am_vt (am_n h') r.toList ∧ am_le h h' := by
  intro n
  induction n with
  | zero => intro d mi pc L st h r h' hx; exact absurd hx (by unfold am_ex; simp)
  | succ n ih =>
    intro d mi pc L st h r h' hx hv
    unfold am_ex at hx
    split at hx
    · cases hx
    · split at hx
      · obtain ⟨hc, hx⟩ := am_oif_s hx
        split at hx
        · rename_i r1 h1 e
          have t := fun k => am_tk_v (k := k) hv.2.2
          have g := ih _ _ _ _ _ _ _ _ e ⟨hv.1, am_en_v (t _).1, am_vt_0⟩
          have g2 := ih _ _ _ _ _ _ _ _ hx ⟨g.1, am_vl_le hv.2.1 g.2.2.1, am_vt_a g.2.1 (am_vt_le (t _).2 g.2.2.1)⟩
          exact ⟨g2.1, g2.2.1, am_le_t g.2.2 g2.2.2⟩
        · cases hx
      · split at hx
        · rename_i e
          cases hx
          have g := am_ret_v (n := am_n h) e hv.2.2
          exact ⟨hv.1, by rw [← g]; exact hv.2.2, am_le_r _⟩
        · split at hx
          · rename_i e
            have g := am_one_v e hv
            have g2 := ih _ _ _ _ _ _ _ _ hx g.1
            exact ⟨g2.1, g2.2.1, am_le_t g.2.1 g2.2.2⟩
          · cases hx
